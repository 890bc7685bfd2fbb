/-! taking fixes: long sets, findings by place -/
def bl (x : Int64) (i : Nat) : Bool := x.toBitVec.getLsbD i
theorem l_l : ∀ n, n < 40 → ((nI n).toInt64 &&& 63).toBitVec.smod 64 = BitVec.ofNat 64 n := by decide +kernel
theorem bl_0 (i : Nat) : bl 0 i = false := BitVec.getLsbD_zero
theorem bl_or (x y : Int64) (i : Nat) : bl (x ||| y) i = (bl x i || bl y i) := by unfold bl; rw [Int64.toBitVec_or, BitVec.getLsbD_or]
theorem bl_and (x y : Int64) (i : Nat) : bl (x &&& y) i = (bl x i && bl y i) := by unfold bl; rw [Int64.toBitVec_and, BitVec.getLsbD_and]
theorem bl_shl1 : ∀ p, p < 40 → ∀ i, i < 40 → bl ((1 : Int64) <<< ((nI p).toInt64 &&& 63)) i = decide (i = p) := by decide +kernel
theorem bl_one : ∀ i, i < 64 → bl (1 : Int64) i = decide (i = 0) := by decide +kernel
theorem bl_sshr (n : Nat) (hn : n < 40) (x : Int64) : bl (x >>> ((nI n).toInt64 &&& 63)) 0 = bl x n := by
  unfold bl
  rw [Int64.toBitVec_shiftRight]
  show (x.toBitVec.sshiftRight (((nI n).toInt64 &&& 63).toBitVec.smod 64).toNat).getLsbD 0 = _
  rw [l_l n hn, BitVec.getLsbD_sshiftRight]
  have : (BitVec.ofNat 64 n).toNat = n := by simp; omega
  rw [this, Nat.add_zero, if_pos (by omega)]
  simp
theorem bl_and1 (y : Int64) : (y &&& 1 = 1) = (bl y 0 = true) := by
  have h : ∀ i, i < 64 → bl (y &&& 1) i = (bl y 0 && decide (i = 0)) := fun i hi => by
    rw [bl_and, bl_one i hi]
    by_cases e : i = 0
    · subst e; simp
    · simp [e]
  apply propext
  constructor
  · intro e
    have h0 := h 0 (by omega)
    rw [e, bl_one 0 (by omega)] at h0
    simpa using h0.symm
  · intro e
    apply Int64.toBitVec_inj.mp
    apply BitVec.eq_of_getLsbD_eq
    intro i hi
    show bl (y &&& 1) i = bl 1 i
    rw [h i hi, bl_one i hi, e, Bool.true_and]
theorem lg_eq (z : Int64) : (lg_cmp z 1 = 0) = (z = 1) := by
  unfold lg_cmp
  apply propext
  by_cases c : z > 1
  · rw [if_pos c]
    exact ⟨fun h => absurd h (by decide), fun h => by rw [h] at c; exact absurd c (by decide)⟩
  · rw [if_neg c]
    by_cases e : z = 1
    · rw [if_pos e]; exact ⟨fun _ => e, fun _ => rfl⟩
    · rw [if_neg e]; exact ⟨fun h => absurd h (by decide), fun h => absurd h e⟩
theorem bl_test {x : Int64} {u : Nat} (hu : u < 40) : (lg_cmp ((x >>> ((nI u).toInt64 &&& 63)) &&& 1) 1 = 0) = (bl x u = true) := by rw [lg_eq, bl_and1, bl_sshr u hu]
theorem bl_test2 {x : Int64} {u v : Nat} (hu : u < 40) (hv : v < 40) : (lg_cmp (((x >>> ((nI u).toInt64 &&& 63)) &&& (x >>> ((nI v).toInt64 &&& 63))) &&& 1) 1 = 0) = (bl x u = true ∧ bl x v = true) := by
  rw [lg_eq, bl_and1, bl_and, bl_sshr u hu, bl_sshr v hv, Bool.and_eq_true]
theorem neg_bt (x : Int32) : (x < 0) = (bt x 31 = true) := by
  apply propext
  show x.toBitVec.slt 0#32 = true ↔ _
  rw [BitVec.slt_zero_eq_msb, BitVec.msb_eq_getLsbD_last]
  exact Iff.rfl
theorem sshr_0 {x : Int32} {T : Nat} (hT : T < 31) : (x >>> (nI T &&& 31) = 0) ↔ ∀ i, T ≤ i → i < 32 → bt x i = false := by
  constructor
  · intro h i h1 h2
    have := b_sshr T (by omega) x (show i - T < 32 by omega)
    rw [h, b_0, if_pos (by omega), show T + (i - T) = i by omega] at this
    exact this.symm
  · intro h
    apply b_ext
    intro i hi
    rw [b_sshr T (by omega) x hi, b_0]
    by_cases c : T + i < 32
    · rw [if_pos c]; exact h _ (by omega) c
    · rw [if_neg c]; exact h 31 (by omega) (by omega)
/-- the findings of a change's current set -/
def visq (R : rv_Mem) (h : Nat) (u : Nat) : Bool := decide (R 35 u = nI h) && decide (R 36 u = R 14 h - 1)
def pos (R : rv_Mem) (h u : Nat) : Nat := cn (visq R h) 0 u
theorem pos_s {R : rv_Mem} {h u : Nat} : pos R h (u + 1) = pos R h u + (if visq R h u = true then 1 else 0) := by
  unfold pos
  rw [cn_snoc, Nat.zero_add]
theorem pos_le {R : rv_Mem} {h : Nat} : ∀ e u, pos R h u ≤ pos R h (u + e)
  | 0, _ => Nat.le_refl _
  | e + 1, u => by
    have := pos_le (R := R) (h := h) e u
    rw [show u + (e + 1) = u + e + 1 by omega, pos_s]
    omega
theorem pos_lt {R : rv_Mem} {h u v : Nat} (huv : u < v) (hu : visq R h u = true) : pos R h u < pos R h v := by
  have h1 := pos_s (R := R) (h := h) (u := u)
  rw [if_pos hu] at h1
  have h2 := pos_le (R := R) (h := h) (v - (u + 1)) (u + 1)
  rw [show u + 1 + (v - (u + 1)) = v by omega] at h2
  omega
theorem pos_inj {R : rv_Mem} {h u v : Nat} (hu : visq R h u = true) (hv : visq R h v = true) (e : pos R h u = pos R h v) : u = v := by
  rcases Nat.lt_trichotomy u v with c | c | c
  · have := pos_lt c hu; omega
  · exact c
  · have := pos_lt c hv; omega
theorem pos_ex {R : rv_Mem} {h : Nat} : ∀ F t, t < pos R h F → ∃ u, u < F ∧ visq R h u = true ∧ pos R h u = t
  | 0, t, ht => absurd ht (Nat.not_lt_zero _)
  | F + 1, t, ht => by
    rw [pos_s] at ht
    by_cases c : t < pos R h F
    · obtain ⟨u, u1, u2⟩ := pos_ex F t c
      exact ⟨u, by omega, u2⟩
    · cases hv : visq R h F with
      | true => rw [hv, if_pos rfl] at ht; exact ⟨F, by omega, hv, by omega⟩
      | false => rw [hv, if_neg (by simp)] at ht; omega
/-- the reference's finding at a place -/
theorem s12_findingAt {R : rv_Mem} {h F t : Nat} (hh : h < 20) (hF : F ≤ 40) (h34 : R 34 0 = nI F) (ht : t < 2147483648) : (∃ u, u < F ∧ visq R h u = true ∧ pos R h u = t ∧ f12_findingAt R (nI h) (nI t) = some (nI u)) ∨ ((∀ u, u < F → visq R h u = true → pos R h u ≠ t) ∧ f12_findingAt R (nI h) (nI t) = some NO) := by
  have L := rv_ui (z := (fun _ _ _ _ _ => none)) (F := f12_findingAt_8_s R) (fun T u x => T (nI h) (nI t) x (nI (pos R h u)) (nI u)) F (fun u x => (∃ v, v < u ∧ visq R h v = true ∧ pos R h v = t ∧ x = nI v) ∨ ((∀ v, v < u → visq R h v = true → pos R h v ≠ t) ∧ x = NO)) some ?_ ?_ rv_FU 0 NO (Nat.zero_le _) (FU_lt (by omega)) (Or.inr ⟨fun v hv => absurd hv (Nat.not_lt_zero _), rfl⟩)
  · obtain ⟨x, x1, x2⟩ := L
    rcases x1 with ⟨v, v1, v2, v3, rfl⟩ | ⟨v1, rfl⟩
    · exact Or.inl ⟨v, v1, v2, v3, x2⟩
    · exact Or.inr ⟨v1, x2⟩
  · intro T u x hu hI
    have pl : pos R h u ≤ u := by unfold pos; exact cn_le _ _ _
    have step : f12_findingAt_8_s R T (nI h) (nI t) x (nI (pos R h u)) (nI u) = T (nI h) (nI t) (if visq R h u = true ∧ pos R h u = t then nI u else x) (nI (pos R h (u + 1))) (nI (u + 1)) := by
      unfold f12_findingAt_8_s f12_findingAt_50 f12_findingAt_51 f12_findingAt_69 f12_findingAt_70 f12_findingAt_83
      rw [h34, if_pos (by rw [q_lt (by omega) (by omega)]; exact hu), if_pos (q_inb (by omega) (by omega)), if_pos (q_inb (show u < 40 by omega) (by omega)), if_pos (q_inb (show h < 20 by omega) (by omega)), q_nc (by omega), q_nc (by omega), q_succ, pos_s]
      unfold visq
      by_cases c1 : R 35 u = nI h
      · by_cases c2 : R 36 u = R 14 h - 1
        · rw [if_pos c1, if_pos c2, decide_eq_true c1, decide_eq_true c2]
          by_cases c3 : pos R h u = t
          · subst c3
            rw [if_pos rfl, if_pos rfl, if_pos rfl, if_pos ⟨rfl, rfl⟩, rvi_t, q_add]; rfl
          · rw [if_pos rfl, if_neg (show ¬ nI (pos R h u) = nI t by rw [q_eq (by omega) (by omega)]; exact c3), if_pos rfl, if_neg (fun z => c3 z.2), rvi_t, q_add]; rfl
        · rw [if_pos c1, if_neg c2, decide_eq_false c2, Bool.and_false]
          rw [if_neg (show ¬ (false = true) by simp), if_neg (show ¬ (false = true) by simp), if_neg (fun z => by cases z.1), if_neg (show ¬ (false = true) by simp), rvi_f, q_add]
      · rw [if_neg c1, decide_eq_false c1, Bool.false_and]
        rw [if_neg (show ¬ (false = true) by simp), if_neg (show ¬ (false = true) by simp), if_neg (fun z => by cases z.1), if_neg (show ¬ (false = true) by simp), rvi_f, q_add]
    refine ⟨_, ?_, step⟩
    by_cases c : visq R h u = true ∧ pos R h u = t
    · rw [if_pos c]
      exact Or.inl ⟨u, by omega, c.1, c.2, rfl⟩
    · rw [if_neg c]
      rcases hI with ⟨v, v1, v2, v3, v4⟩ | ⟨v1, v2⟩
      · exact Or.inl ⟨v, by omega, v2, v3, v4⟩
      · refine Or.inr ⟨fun v hv => ?_, v2⟩
        by_cases e : v = u
        · subst e; exact fun z1 z2 => c ⟨z1, z2⟩
        · exact v1 v (by omega)
  · intro T x _
    show f12_findingAt_8_s R T (nI h) (nI t) x (nI (pos R h F)) (nI F) = _
    unfold f12_findingAt_8_s
    rw [h34, if_neg (by rw [q_lt (by omega) (by omega)]; omega)]
theorem s12_isTaken {M : rv_Mem} {x : Int32} {t : Nat} (ht : t < 31) : f12_isTaken M x (nI t) = some (bt x t) := by
  unfold f12_isTaken
  rw [q_31, if_pos (by rw [q_lt (by omega) (by omega)]; exact ht)]
  have := b_test (x := x) (k := t) (by omega)
  rw [q_31] at this
  cases h : bt x t with
  | true => rw [if_pos (by rw [this]; exact h)]
  | false => rw [if_neg (by rw [this, h]; simp)]
theorem s12_areFindings {R : rv_Mem} {h F : Nat} {x : Int32} (hh : h < 20) (hF : F ≤ 40) (h34 : R 34 0 = nI F) : ∃ b, f12_areFindings R (nI h) x = some b ∧ (b = true ↔ bt x 31 = false ∧ ∀ t, t < 31 → bt x t = true → t < pos R h F) := by
  have key : ∀ b0, ∃ b, f12_areFindings_9 R (nI h) x b0 = some b ∧ (b = true ↔ b0 = true ∧ ∀ t, t < 31 → bt x t = true → t < pos R h F) := by
    intro b0
    refine rv_ux (z := (fun _ _ _ _ => none)) (F := f12_areFindings_13_s R) (fun T t b => T (nI h) x b (nI t)) 31 (fun t b => b = true ↔ b0 = true ∧ ∀ t', t' < t → bt x t' = true → t' < pos R h F) (fun r => ∃ b, r = some b ∧ (b = true ↔ b0 = true ∧ ∀ t, t < 31 → bt x t = true → t < pos R h F)) ?_ ?_ rv_FU 0 b0 (Nat.zero_le _) (FU_lt (by omega)) ⟨fun z => ⟨z, fun t ht => absurd ht (Nat.not_lt_zero _)⟩, fun z => z.1⟩
    · intro T t b ht hI
      show (∃ b', f12_areFindings_13_s R T (nI h) x b (nI t) = some b' ∧ _) ∨ ∃ a' : Bool, _ ∧ f12_areFindings_13_s R T (nI h) x b (nI t) = _
      unfold f12_areFindings_13_s f12_areFindings_45 f12_areFindings_50
      rw [if_pos (show nI t < 31 by rw [q_31, q_lt (by omega) (by omega)]; exact ht)]
      cases b with
      | false =>
        left
        rw [if_neg (by simp)]
        refine ⟨false, rfl, fun z => (by cases z), fun z => ?_⟩
        have := hI.mpr ⟨z.1, fun t' ht' => z.2 t' (by omega)⟩
        cases this
      | true =>
        right
        rw [if_pos rfl, s12_isTaken ht, o1_some]
        obtain ⟨i1, i2⟩ := hI.mp rfl
        cases hb : bt x t with
        | false =>
          rw [if_neg (by simp), q_succ]
          refine ⟨true, ⟨fun _ => ⟨i1, fun t' ht' hb' => ?_⟩, fun _ => rfl⟩, rfl⟩
          by_cases e : t' = t
          · subst e; rw [hb] at hb'; cases hb'
          · exact i2 t' (by omega) hb'
        | true =>
          rw [if_pos rfl, q_succ]
          rcases s12_findingAt (R := R) (h := h) (F := F) (t := t) hh hF h34 (by omega) with ⟨u, u1, u2, u3, u4⟩ | ⟨u1, u2⟩
          · rw [u4, o1_some, q_no, if_pos (by rw [q_no_eq (by omega)]; exact fun z => z)]
            refine ⟨true, ⟨fun _ => ⟨i1, fun t' ht' hb' => ?_⟩, fun _ => rfl⟩, rfl⟩
            by_cases e : t' = t
            · subst e
              have := pos_lt u1 u2
              omega
            · exact i2 t' (by omega) hb'
          · rw [u2, o1_some, q_no, if_neg (fun z => z rfl)]
            refine ⟨false, ⟨fun z => (by cases z), fun z => ?_⟩, rfl⟩
            obtain ⟨u, v1, v2, v3⟩ := pos_ex F t (z.2 t (by omega) hb)
            exact absurd v3 (u1 u v1 v2)
    · intro T b hI
      refine ⟨b, ?_, hI⟩
      show f12_areFindings_13_s R T (nI h) x b (nI 31) = _
      unfold f12_areFindings_13_s
      rw [if_neg (show ¬ nI 31 < 31 by decide)]
  have neg : (0 ≤ x) = (bt x 31 = false) := by
    have := neg_bt x
    apply propext
    rw [← Int32.not_lt, this]
    simp
  unfold f12_areFindings
  by_cases c : 0 ≤ x
  · rw [if_pos c]
    obtain ⟨b, b1, b2⟩ := key true
    refine ⟨b, b1, ?_⟩
    rw [b2]
    rw [neg] at c
    exact ⟨fun z => ⟨c, z.2⟩, fun z => ⟨rfl, z.2⟩⟩
  · rw [if_neg c]
    obtain ⟨b, b1, b2⟩ := key false
    refine ⟨b, b1, ?_⟩
    rw [b2]
    rw [neg] at c
    exact ⟨fun z => (by cases z.1), fun z => absurd z.1 c⟩
