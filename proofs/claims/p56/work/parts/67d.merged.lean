/-! THE MERGED FILE, what it is; the class -/
def hat (H : List (Nat × Nat × Nat × Nat)) (k : Nat) : Option (Nat × Nat × Nat × Nat) := H.find? (fun h => decide (h.1 = k))
theorem hat_first {k : Nat} : ∀ (H : List (Nat × Nat × Nat × Nat)) (i : Nat), i < H.length → (gH H i).1 = k → (∀ j, j < i → (gH H j).1 ≠ k) → hat H k = some (gH H i) := by
  intro H
  induction H with
  | nil => intro i hi; exact absurd hi (Nat.not_lt_zero _)
  | cons x H ih =>
    intro i hi h1 h2
    unfold hat
    cases i with
    | zero =>
      have h1 : x.1 = k := h1
      rw [List.find?_cons_of_pos (by simpa using h1)]
      rfl
    | succ i =>
      have hx : x.1 ≠ k := h2 0 (by omega)
      rw [List.find?_cons_of_neg (by simpa using hx)]
      exact ih i (by simpa using hi) h1 (fun j hj => h2 (j + 1) (by omega))
theorem hat_none {k : Nat} : ∀ (H : List (Nat × Nat × Nat × Nat)), (∀ j, j < H.length → (gH H j).1 ≠ k) → hat H k = none := by
  intro H
  induction H with
  | nil => intro _; rfl
  | cons x H ih =>
    intro h
    unfold hat
    have hx : x.1 ≠ k := h 0 (by simp)
    rw [List.find?_cons_of_neg (by simpa using hx)]
    exact ih (fun j hj => h (j + 1) (by simpa using hj))
def mad (O A B : List Int32) (k : Nat) : Option (Nat × List Int32) := match hat (hk O A) k with
  | some h => some (h.2.1, sl A h.2.2.1 h.2.2.2)
  | none => match hat (hk O B) k with
    | some h => some (h.2.1, sl B h.2.2.1 h.2.2.2)
    | none => none
def mcs1 (O A B : List Int32) (k : Nat) (s : Nat × List Int32) : Nat × List Int32 := match mad O A B k with
  | some x => (k + x.1, s.2 ++ x.2)
  | none => s
def mcs (O A B : List Int32) (k : Nat) (s : Nat × List Int32) : Nat × List Int32 := ((mcs1 O A B k s).1, (mcs1 O A B k s).2 ++ (if k < O.length ∧ (mcs1 O A B k s).1 ≤ k then [O.getD k 0] else []))
def mgd (O A B : List Int32) : List Int32 := (up (mcs O A B) (O.length + 1) 0 (0, [])).2
theorem mcs1_len {O A B : List Int32} {k : Nat} {s : Nat × List Int32} : s.2.length ≤ (mcs1 O A B k s).2.length := by
  unfold mcs1
  cases mad O A B k with
  | some x => simp
  | none => exact Nat.le_refl _
theorem mcs_len {O A B : List Int32} {k : Nat} {s : Nat × List Int32} : (mcs1 O A B k s).2.length ≤ (mcs O A B k s).2.length := by
  unfold mcs
  simp
theorem up_len {O A B : List Int32} : ∀ d k s, s.2.length ≤ (up (mcs O A B) d k s).2.length
  | 0, _, s => Nat.le_refl _
  | d + 1, k, s => Nat.le_trans (Nat.le_trans mcs1_len mcs_len) (up_len d (k + 1) (mcs O A B k s))
theorem mgd_len {O A B : List Int32} {k : Nat} (h : k ≤ O.length + 1) : (up (mcs O A B) k 0 (0, [])).2.length ≤ (mgd O A B).length := by
  unfold mgd
  rw [show O.length + 1 = k + (O.length + 1 - k) by omega, up_add]
  exact up_len _ _ _
/-- row 81's file f -/
def mfr (f : Nat) (M M0 : rv_Mem) : Prop := (∀ q, q ≠ 14 → q ≠ 15 → M q = M0 q) ∧ (∀ i, i ≠ 324 + f → M 15 i = M0 15 i) ∧ ∀ i, i < 10 * (324 + f) ∨ 10 * (324 + f) + 10 ≤ i → M 14 i = M0 14 i
theorem mfr_tr {f : Nat} {M M1 M0 : rv_Mem} (h : mfr f M M1) (h' : mfr f M1 M0) : mfr f M M0 := ⟨fun q q1 q2 => by rw [h.1 q q1 q2, h'.1 q q1 q2], fun i hi => by rw [h.2.1 i hi, h'.2.1 i hi], fun i hi => by rw [h.2.2 i hi, h'.2.2 i hi]⟩
theorem mfr_rf {f : Nat} {M : rv_Mem} : mfr f M M := ⟨fun _ _ _ => rfl, fun _ _ => rfl, fun _ _ => rfl⟩
theorem s9_addLine {gh : rC_gh} {M : rv_Mem} {f : Nat} {out : List Int32} {v : Int32} (hf : f < 4) (h : fileC M 81 f out) : (out.length < 10 ∧ ∃ M', f9_addLine gh M (nI f) v = some (true, M') ∧ fileC M' 81 f (out ++ [v]) ∧ mfr f M' M) ∨ (out.length = 10 ∧ f9_addLine gh M (nI f) v = some (false, M)) := by
  obtain ⟨a1, a2, a3⟩ := h
  have e81 : (81 : Int32) = nI 81 := rfl
  have a2' : M 15 (324 + f) = nI out.length := by rw [show 324 + f = 4 * 81 + f by omega]; exact a2
  unfold f9_addLine
  rw [e81, s9_sizeOf (show 81 < 82 by omega) hf, a2, o1_some]
  have e10 : (10 : Int32) = nI 10 := rfl
  by_cases c : out.length = 10
  · right
    refine ⟨c, ?_⟩
    rw [e10, if_pos (by rw [q_le (by omega) (by omega)]; omega)]
  · left
    refine ⟨by omega, ?_⟩
    have e324 : (324 : Int32) + nI f = nI (324 + f) := q_add 324 f
    have est : f9_startOf (nI 81) (nI f) = some (nI (10 * (324 + f))) := by
      unfold f9_startOf
      simp (disch := omega) only [q_4, q_10, q_mul, q_add]
      rw [show (81 * 4 + f) * 10 = 10 * (324 + f) by omega]
    rw [e10, if_neg (by rw [q_le (by omega) (by omega)]; omega), est, o1_some, q_add, s9_write (L := 3280) (by omega) rfl rfl (by omega), o1_some, e324, q_succ, s9_write (L := 328) (by omega) rfl rfl (by omega), o1_some]
    refine ⟨_, rfl, ⟨by simp; omega, ?_, fun p hp => ?_⟩, fun q q1 q2 => by rw [mu_ne q2, mu_ne q1], fun i hi => by rw [mu_ne2 hi, mu_ne (by omega)], fun i hi => by rw [mu_ne (by omega), mu_ne2 (by omega)]⟩
    · rw [show 4 * 81 + f = 324 + f by omega, mu_same]; simp
    · rw [mu_ne (by omega), show 10 * (4 * 81 + f) + p = 10 * (324 + f) + p by omega]
      by_cases e : p = out.length
      · subst e
        rw [mu_same]; simp
      · have hp : p < out.length := by simp at hp; omega
        rw [mu_ne2 (by omega), show 10 * (324 + f) + p = 10 * (4 * 81 + f) + p by omega, a3 p hp]
        simp [List.getElem?_append_left hp]
theorem s3_hunkFrom {gh : rC_gh} {M : rv_Mem} {o k : Nat} {O A : List Int32} (ho : rC_is gh 4 o = true) (hO : O.length ≤ 10) (hk2 : k < 2147483648) (hc : cmpd M o O A) : (∃ i, i < (hk O A).length ∧ f3_hunkFrom gh M o (nI k) = some (nI i) ∧ hat (hk O A) k = some (gH (hk O A) i)) ∨ (f3_hunkFrom gh M o (nI k) = some NO ∧ hat (hk O A) k = none) := by
  have n7 : M o 10 = nI (hk O A).length := hc.2.2.2.2.2.1
  have l7 := hk_len O A
  refine rv_ux (z := (fun _ _ _ => none)) (F := f3_hunkFrom_2_s gh M) (fun t i (_ : Unit) => t o (nI k) (nI i)) (hk O A).length (fun i _ => ∀ j, j < i → (gH (hk O A) j).1 ≠ k) (fun r => (∃ i, i < (hk O A).length ∧ r = some (nI i) ∧ hat (hk O A) k = some (gH (hk O A) i)) ∨ (r = some NO ∧ hat (hk O A) k = none)) ?_ ?_ rv_FU 0 () (Nat.zero_le _) (FU_lt (by omega)) (fun j hj => absurd hj (Nat.not_lt_zero _))
  · intro t i _ hi i1
    obtain ⟨r1, -⟩ := (cmpd_row hc (H_get hi)).1
    obtain ⟨b1, -⟩ := (cmpd_row hc (H_get hi)).2.1
    have step : f3_hunkFrom_2_s gh M t o (nI k) (nI i) = if (gH (hk O A) i).1 = k then some (nI i) else t o (nI k) (nI (i + 1)) := by
      unfold f3_hunkFrom_2_s gH
      rw [if_pos ho, n7, if_pos (by rw [q_lt (by omega) (by omega)]; exact hi), if_pos (q_inb (by omega) (by omega)), q_nc (by omega), r1, q_succ]
      by_cases c : ((hk O A).getD i hz0).1 = k
      · rw [if_pos c, if_pos (show nI ((hk O A).getD i hz0).1 = nI k by rw [c])]
      · rw [if_neg c, if_neg (show ¬ nI ((hk O A).getD i hz0).1 = nI k by rw [q_eq (by omega) (by omega)]; exact c)]
    show ((∃ i', _ ∧ f3_hunkFrom_2_s gh M t o (nI k) (nI i) = some (nI i') ∧ _) ∨ (f3_hunkFrom_2_s gh M t o (nI k) (nI i) = some NO ∧ _)) ∨ ∃ a' : Unit, _ ∧ f3_hunkFrom_2_s gh M t o (nI k) (nI i) = _
    rw [step]
    by_cases c : (gH (hk O A) i).1 = k
    · left; left
      rw [if_pos c]
      exact ⟨i, hi, rfl, hat_first _ i hi c i1⟩
    · right
      rw [if_neg c]
      refine ⟨(), fun j hj => ?_, rfl⟩
      by_cases e : j = i
      · rw [e]; exact c
      · exact i1 j (by omega)
  · intro t _ i1
    right
    refine ⟨?_, hat_none _ i1⟩
    show f3_hunkFrom_2_s gh M t o (nI k) (nI (hk O A).length) = _
    unfold f3_hunkFrom_2_s
    rw [if_pos ho, n7, if_neg (by rw [q_lt (by omega) (by omega)]; omega), q_no]
