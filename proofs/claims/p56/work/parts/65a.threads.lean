/-! THREADS -/
def lsS (R : rv_Mem) (k j : Nat) (a : Int32) : Int32 := if rv_z (R 32 j) = false ∧ (j = k ∨ R 31 j = nI k) then nI j else a
def thS (C : rv_Mem) (k j : Nat) (b : Bool) : Bool := if C (200 + j) 1 = nI k ∧ rv_z (C (200 + j) 4) = true then rv_z (C (200 + j) 2) else b
theorem s11_thread {gh : rC_gh} {C : rv_Mem} (hm : gh.1 1 ≤ 60) {k : Nat} (hk : k ≤ gh.1 1) : f11_isThreadUnresolved gh C (nI k) = some (up (thS C k) (gh.1 1 - k) k false) := by
  have L := rv_up0 (z := (fun _ _ _ => none)) (F := f11_isThreadUnresolved_4_s gh C) (fun T j (b : Bool) => T (nI k) b (nI j)) (gh.1 1) (thS C k) some ?_ ?_ rv_FU k false hk (FU_lt (by omega))
  · exact L
  · intro T j b hj
    show f11_isThreadUnresolved_4_s gh C T (nI k) b (nI j) = T (nI k) (thS C k j b) (nI (j + 1))
    unfold f11_isThreadUnresolved_4_s f11_isThreadUnresolved_51 thS
    simp (disch := omega) only [q_1, q_lt, q_in, if_pos, q_nc, is2 hj hm, if_true, q_add]
    by_cases h1 : C (200 + j) 1 = nI k
    · by_cases h2 : rv_z (C (200 + j) 4) = true
      · rw [if_pos h1, if_pos h2, if_pos ⟨h1, h2⟩]
      · rw [if_pos h1, if_neg h2, if_neg (fun z => h2 z.2)]
    · rw [if_neg h1, if_neg (fun z => h1 z.1)]
  · intro T b
    show f11_isThreadUnresolved_4_s gh C T (nI k) b (nI (gh.1 1)) = _
    unfold f11_isThreadUnresolved_4_s
    simp (disch := omega) only [q_no, q_no2, q_0, q_1, q_2, q_3, q_4, q_5, q_6, q_7, q_8, q_10, q_11, q_12, q_15, q_16, q_17, q_20, q_30, q_31, q_32, q_40, q_45, q_60, q_80, q_81, q_82, q_100, q_320, q_328, q_399, q_400, q_3280, q_nc, q_eq, q_lt, q_le, q_add, q_mul, q_in, q_inno, q_no_eq, q_no_eq', q_no_lt, q_lt_no, q_no_le, q_le_no, o1_some, o2_some, lt_do, x1_inl, x1_inr, x2_inl, x2_inr, if_true, if_false, if_pos, if_neg, rvi_t, rvi_f, bt_f, bf_t, bb_t, bb_f, not_true_eq_false, not_false_eq_true]
theorem s12_lastOf {R : rv_Mem} {cm k : Nat} (hm : R 24 0 = nI cm) (hc : cm ≤ 60) (hk : k < 60) : f12_lastOf R (nI k) = some (up (lsS R k) cm 0 NO) := by
  have L := rv_up0 (z := (fun _ _ _ => none)) (F := f12_lastOf_4_s R) (fun T j a => T (nI k) a (nI j)) cm (lsS R k) some ?_ ?_ rv_FU 0 NO (Nat.zero_le _) (FU_lt (by omega))
  · exact L
  · intro T j a hj
    show f12_lastOf_4_s R T (nI k) a (nI j) = T (nI k) (lsS R k j a) (nI (j + 1))
    unfold f12_lastOf_4_s f12_lastOf_36 f12_lastOf_40 f12_lastOf_41 lsS
    simp (disch := omega) only [q_1, q_lt, q_in, if_pos, q_nc, hm, q_add, q_eq]
    by_cases h1 : rv_z (R 32 j) = false
    · by_cases h2 : j = k
      · rw [if_pos h1, if_neg (fun z => z h2), if_pos ⟨h1, Or.inl h2⟩]
      · by_cases h3 : R 31 j = nI k
        · rw [if_pos h1, if_pos h2, if_pos h3, if_pos ⟨h1, Or.inr h3⟩]
        · rw [if_pos h1, if_pos h2, if_neg h3, if_neg (fun z => z.2.elim h2 h3)]
    · rw [if_neg h1, if_neg (fun z => h1 z.1)]
  · intro T a
    show f12_lastOf_4_s R T (nI k) a (nI cm) = _
    unfold f12_lastOf_4_s
    simp (disch := omega) only [q_no, q_no2, q_0, q_1, q_2, q_3, q_4, q_5, q_6, q_7, q_8, q_10, q_11, q_12, q_15, q_16, q_17, q_20, q_30, q_31, q_32, q_40, q_45, q_60, q_80, q_81, q_82, q_100, q_320, q_328, q_399, q_400, q_3280, q_nc, q_eq, q_lt, q_le, q_add, q_mul, q_in, q_inno, q_no_eq, q_no_eq', q_no_lt, q_lt_no, q_no_le, q_le_no, o1_some, o2_some, lt_do, x1_inl, x1_inr, x2_inl, x2_inr, if_true, if_false, if_pos, if_neg, rvi_t, rvi_f, bt_f, bf_t, bb_t, bb_f, not_true_eq_false, not_false_eq_true, hm]
/-- a thread's state on both sides -/
theorem Rn.thread {n : Nat} {gh : rC_gh} {C R : rv_Mem} (hR : Rn n gh C R) {k : Nat} (hk : k < gh.1 1) : ∃ b, f11_isThreadUnresolved gh C (nI k) = some b ∧ ((R 31 k ≠ NO ∧ b = false) ∨ (R 31 k = NO ∧ ∃ a, f12_lastOf R (nI k) = some a ∧ ((a = NO ∧ b = false) ∨ ∃ j, j < gh.1 1 ∧ a = nI j ∧ b = rv_z (R 33 j)))) := by
  have hm := hR.1.2.2.2.2.2.1
  have hM := hR.1.2.2.2.2.2.2.1
  have th : ∀ j, j < gh.1 1 → (C (200 + j) 1 = nI k ↔ ((j = k ∧ R 31 k = NO) ∨ R 31 j = nI k)) := fun j hj => by
    rcases (hR.cmt j hj).2.1 with ⟨t1, t2⟩ | ⟨t, t1, t2, t3, t4⟩
    · rw [t2, t1, q_eq (by omega) (by omega), q_no_eq' (by omega)]
      constructor
      · intro e; subst e; exact Or.inl ⟨rfl, t1⟩
      · intro e; rcases e with e | e
        · exact e.1
        · exact e.elim
    · rw [t3, t2, q_eq (by omega) (by omega)]
      constructor
      · intro e; exact Or.inr e
      · intro e; rcases e with ⟨e1, e2⟩ | e
        · subst e1; rw [t2, q_no_eq (by omega)] at e2; exact e2.elim
        · exact e
  have later : ∀ j, j < gh.1 1 → R 31 j = nI k → k < j ∧ R 31 k = NO := fun j hj e => by
    rcases (hR.cmt j hj).2.1 with ⟨t1, t2⟩ | ⟨t, t1, t2, t3, t4⟩
    · rw [t1, q_no_eq' (by omega)] at e; exact e.elim
    · rw [t2, q_eq (by omega) (by omega)] at e
      subst e
      exact ⟨t1, t4⟩
  refine ⟨_, s11_thread hm (Nat.le_of_lt hk), ?_⟩
  by_cases hr : R 31 k = NO
  · refine Or.inr ⟨hr, _, s12_lastOf hM hm (by omega), ?_⟩
    have e0 : up (lsS R k) k 0 NO = NO := up_id k 0 NO (fun j _ hj => by
      unfold lsS
      rw [if_neg]
      intro z
      rcases z.2 with z | z
      · omega
      · have := (later j (by omega) z).1; omega)
    have e1 : up (lsS R k) (gh.1 1) 0 NO = up (lsS R k) (gh.1 1 - k) k NO := by
      have e : gh.1 1 = k + (gh.1 1 - k) := by omega
      rw [e, up_add, e0, Nat.zero_add, ← e]
    rw [e1]
    refine up_rel (fun (a : Int32) (b : Bool) => (a = NO ∧ b = false) ∨ ∃ j, j < gh.1 1 ∧ a = nI j ∧ b = rv_z (R 33 j)) (gh.1 1 - k) k NO false (Or.inl ⟨rfl, rfl⟩) (fun j a b h1 h2 hp => ?_)
    have hj : j < gh.1 1 := by omega
    obtain ⟨-, -, c3, c4, -⟩ := hR.cmt j hj
    unfold lsS thS
    by_cases hd : rv_z (R 32 j) = false
    · by_cases ht : j = k ∨ R 31 j = nI k
      · rw [if_pos ⟨hd, ht⟩, if_pos ⟨(th j hj).mpr (ht.elim (fun e => Or.inl ⟨e, hr⟩) Or.inr), by rw [c4, hd]; rfl⟩]
        exact Or.inr ⟨j, hj, rfl, c3⟩
      · rw [if_neg (fun z => ht z.2), if_neg (fun z => ht (((th j hj).mp z.1).elim (fun e => Or.inl e.1) Or.inr))]
        exact hp
    · rw [if_neg (fun z => hd z.1), if_neg (fun z => hd (by have := z.2; rw [c4] at this; simpa using this))]
      exact hp
  · refine Or.inl ⟨hr, up_id _ _ _ (fun j h1 h2 => ?_)⟩
    unfold thS
    rw [if_neg]
    intro z
    rcases (th j (by omega)).mp z.1 with e | e
    · exact hr e.2
    · exact hr (later j (by omega) e).2
