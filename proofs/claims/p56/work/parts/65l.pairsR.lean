/-! THE REFERENCE PAIRS LINES -/
theorem s12_pairLoop {M0 : rv_Mem} {a b c1 c2 f : Nat} {A B : Nat → Int32} (ha : a ≤ 10) (hb : b ≤ 10) (h1 : c1 < 82) (h2 : c2 < 82) (hf : f < 4) (hsa : M0 3 (4 * c1 + f) = nI a) (hsb : M0 3 (4 * c2 + f) = nI b) (hA : ∀ i, i < a → wd (rv_z (M0 64 0)) (M0 4 (10 * (4 * c1 + f) + i)) = A i) (hB : ∀ i, i < b → wd (rv_z (M0 64 0)) (M0 4 (10 * (4 * c2 + f) + i)) = B i) (hT : ∀ i j, i ≤ a → j ≤ b → M0 53 (11 * i + j) = nI (tL a b A B i j)) (hN : ∀ p, p < 10 → M0 54 p = NO) :
    ∃ M', f12_pairs_37 rv_FU M0 (nI c1) (nI c2) (nI f) 0 0 = some M' ∧ (∀ q, q ≠ 54 → M' q = M0 q) ∧ (∀ p, p < a → M' 54 p = oI ((mts ((List.range a).map A) ((List.range b).map B) 0).getD p none)) ∧ ∀ p, 10 ≤ p → M' 54 p = M0 54 p := by
  have L := rv_wl (z := (fun _ _ _ _ _ _ => none)) (F := f12_pairs_37_s) (fun T (s : rv_Mem × Nat × Nat) => T s.1 (nI c1) (nI c2) (nI f) (nI s.2.1) (nI s.2.2)) (fun s => 40 - (s.2.1 + s.2.2)) (fun s => s.2.1 ≤ a ∧ s.2.2 ≤ b ∧ (∀ q, q ≠ 54 → s.1 q = M0 q) ∧ (mts ((List.range a).map A) ((List.range b).map B) 0).drop s.2.1 = mts (((List.range a).map A).drop s.2.1) (((List.range b).map B).drop s.2.2) s.2.2 ∧ (∀ p, p < s.2.1 → s.1 54 p = oI ((mts ((List.range a).map A) ((List.range b).map B) 0).getD p none)) ∧ (∀ p, s.2.1 ≤ p → p < 10 → s.1 54 p = NO) ∧ ∀ p, 10 ≤ p → s.1 54 p = M0 54 p) (fun _ r => ∃ M', r = some M' ∧ (∀ q, q ≠ 54 → M' q = M0 q) ∧ (∀ p, p < a → M' 54 p = oI ((mts ((List.range a).map A) ((List.range b).map B) 0).getD p none)) ∧ ∀ p, 10 ≤ p → M' 54 p = M0 54 p) ?_ rv_FU (M0, 0, 0) ⟨Nat.zero_le _, Nat.zero_le _, fun _ _ => rfl, rfl, fun p h => absurd h (Nat.not_lt_zero _), fun p _ h => hN p h, fun _ _ => rfl⟩ (FU_lt (by show 40 - (0 + 0) < 100000; omega))
  · exact L
  · rintro T ⟨M, i, j⟩ ⟨hi, hj, hk, hF, hd, hn, h10⟩
    have hi : i ≤ a := hi
    have hj : j ≤ b := hj
    have hk : ∀ q, q ≠ 54 → M q = M0 q := hk
    have hF : (mts ((List.range a).map A) ((List.range b).map B) 0).drop i = mts (((List.range a).map A).drop i) (((List.range b).map B).drop j) j := hF
    have hd : ∀ p, p < i → M 54 p = oI ((mts ((List.range a).map A) ((List.range b).map B) 0).getD p none) := hd
    have hn : ∀ p, i ≤ p → p < 10 → M 54 p = NO := hn
    have h10 : ∀ p, 10 ≤ p → M 54 p = M0 54 p := h10
    have g3a : M 3 (4 * c1 + f) = nI a := by rw [hk 3 (by omega)]; exact hsa
    have g3b : M 3 (4 * c2 + f) = nI b := by rw [hk 3 (by omega)]; exact hsb
    have g4 : M 4 = M0 4 := hk 4 (by omega)
    have g64 : M 64 = M0 64 := hk 64 (by omega)
    have g53 : M 53 = M0 53 := hk 53 (by omega)
    by_cases hc : i < a ∧ j < b
    · right
      obtain ⟨l1, l2⟩ := hc
      have c1' := dr_cons (A := A) l1
      have c2' := dr_cons (A := B) l2
      rw [c1', c2', mts_cons] at hF
      have x1 : 11 * i + j + 11 = 11 * (i + 1) + j := by omega
      have t1 := hT (i + 1) j (by omega) (by omega)
      have t2 := hT i j (by omega) (by omega)
      have b1 := (TC_lcs (a := a) (b := b) (A := A) (B := B) (by omega) (show i + 1 ≤ a by omega) hj).1
      have b2 := (TC_lcs (a := a) (b := b) (A := A) (B := B) (by omega) hi hj).1
      have hz : ∀ x : Nat, nI x + nI 0 = nI x := fun x => by rw [q_add]; rfl
      have run : ∀ (w : Bool), (f12_pairs_83 T M (nI c1) (nI c2) (nI f) (nI i) (nI j) w) = if tL a b A B (i + 1) j = tL a b A B i j then f12_pairs_122 T M (nI c1) (nI c2) (nI f) (nI i) (nI j) w true else f12_pairs_122 T M (nI c1) (nI c2) (nI f) (nI i) (nI j) w false := fun w => by
        unfold f12_pairs_83
        rw [g53]
        simp (disch := omega) only [q_11, q_mul, q_add, x1, q_in, if_pos, q_nc, t1, t2, q_eq]
      have start : f12_pairs_37_s T M (nI c1) (nI c2) (nI f) (nI i) (nI j) = if A i = B j then f12_pairs_83 T M (nI c1) (nI c2) (nI f) (nI i) (nI j) true else f12_pairs_83 T M (nI c1) (nI c2) (nI f) (nI i) (nI j) false := by
        unfold f12_pairs_37_s
        simp (disch := omega) only [s12_sizeOf (M := M) (c := c1) (f := f) h1 hf, s12_sizeOf (M := M) (c := c2) (f := f) h2 hf, g3a, g3b, o1_some, q_lt, if_pos, s12_lineAtW (M := M) (c := c1) (f := f) (p := i) h1 hf (by omega), s12_lineAtW (M := M) (c := c2) (f := f) (p := j) h2 hf (by omega), g4, g64, hA i l1, hB j l2]
      by_cases e : A i = B j
      · rw [if_pos e] at hF start
        refine ⟨(rv_u M 54 i (nI j), i + 1, j + 1), ⟨l1, l2, fun q hq => by show rv_u M 54 i (nI j) q = M0 q; rw [mu_ne hq]; exact hk q hq, ?_, fun p hp => ?_, fun p hp hp2 => ?_, fun p hp => ?_⟩, by show 40 - (i + 1 + (j + 1)) < 40 - (i + j); omega, ?_, fun r hr => hr⟩
        · show (mts _ _ 0).drop (i + 1) = _
          rw [← List.drop_drop, hF]
          rfl
        · show rv_u M 54 i (nI j) 54 p = _
          by_cases ep : p = i
          · subst ep
            rw [mu_same, getD_of_drop hF (Nat.le_refl _), Nat.sub_self]
            rfl
          · rw [mu_ne2 ep]
            exact hd p (by have : p < i + 1 := hp; omega)
        · show rv_u M 54 i (nI j) 54 p = NO
          have : i + 1 ≤ p := hp
          rw [mu_ne2 (by omega)]
          exact hn p (by omega) hp2
        · show rv_u M 54 i (nI j) 54 p = M0 54 p
          rw [mu_ne2 (by omega)]
          exact h10 p hp
        · show f12_pairs_37_s T M (nI c1) (nI c2) (nI f) (nI i) (nI j) = T (rv_u M 54 i (nI j)) (nI c1) (nI c2) (nI f) (nI (i + 1)) (nI (j + 1))
          rw [start, run]
          unfold f12_pairs_122 f12_pairs_141 f12_pairs_154 f12_pairs_159 f12_pairs_174 f12_pairs_179
          by_cases e2 : tL a b A B (i + 1) j = tL a b A B i j
          · rw [if_pos e2]
            simp (disch := omega) only [if_true, q_in, if_pos, q_nc, lt_do, bt_f, if_false, rvi_t, q_add]
          · rw [if_neg e2]
            simp (disch := omega) only [if_true, q_in, if_pos, q_nc, lt_do, bt_f, if_false, rvi_t, q_add]
      · rw [if_neg e] at hF start
        have same : ∀ p, rv_u M 54 i (-1) 54 p = M 54 p := fun p => by
          by_cases ep : p = i
          · subst ep; rw [mu_same, hn p (Nat.le_refl _) (by omega)]; rfl
          · rw [mu_ne2 ep]
        by_cases e2 : tL a b A B (i + 1) j = tL a b A B i j
        · have e3 := e2
          unfold tL at e3
          rw [c1', c2'] at e3
          rw [if_pos e3] at hF
          refine ⟨(rv_u M 54 i (-1), i + 1, j), ⟨l1, hj, fun q hq => by show rv_u M 54 i (-1) q = M0 q; rw [mu_ne hq]; exact hk q hq, ?_, fun p hp => ?_, fun p hp hp2 => ?_, fun p hp => ?_⟩, by show 40 - (i + 1 + j) < 40 - (i + j); omega, ?_, fun r hr => hr⟩
          · show (mts _ _ 0).drop (i + 1) = mts (((List.range a).map A).drop (i + 1)) (((List.range b).map B).drop j) j
            rw [← List.drop_drop, hF, c2']
            rfl
          · show rv_u M 54 i (-1) 54 p = _
            rw [same]
            by_cases ep : p = i
            · subst ep
              rw [hn p (Nat.le_refl _) (by omega), getD_of_drop hF (Nat.le_refl _), Nat.sub_self]
              rfl
            · exact hd p (by have : p < i + 1 := hp; omega)
          · show rv_u M 54 i (-1) 54 p = NO
            rw [same]; exact hn p (by have : i + 1 ≤ p := hp; omega) hp2
          · show rv_u M 54 i (-1) 54 p = M0 54 p
            rw [same]; exact h10 p hp
          · show f12_pairs_37_s T M (nI c1) (nI c2) (nI f) (nI i) (nI j) = T (rv_u M 54 i (-1)) (nI c1) (nI c2) (nI f) (nI (i + 1)) (nI j)
            rw [start, run, if_pos e2]
            unfold f12_pairs_122 f12_pairs_141 f12_pairs_154 f12_pairs_159 f12_pairs_174 f12_pairs_179
            simp (disch := omega) only [if_true, q_in, if_pos, q_nc, lt_do, bt_f, bf_t, if_false, rvi_t, rvi_f, q_add, hz, Nat.add_zero]
        · have e3 := e2
          unfold tL at e3
          rw [c1', c2'] at e3
          rw [if_neg e3] at hF
          refine ⟨(rv_u M 54 i (-1), i, j + 1), ⟨hi, l2, fun q hq => by show rv_u M 54 i (-1) q = M0 q; rw [mu_ne hq]; exact hk q hq, ?_, fun p hp => ?_, fun p hp hp2 => ?_, fun p hp => ?_⟩, by show 40 - (i + (j + 1)) < 40 - (i + j); omega, ?_, fun r hr => hr⟩
          · show (mts _ _ 0).drop i = mts (((List.range a).map A).drop i) (((List.range b).map B).drop (j + 1)) (j + 1)
            rw [hF, c1']
          · show rv_u M 54 i (-1) 54 p = _
            rw [same]; exact hd p hp
          · show rv_u M 54 i (-1) 54 p = NO
            rw [same]; exact hn p hp hp2
          · show rv_u M 54 i (-1) 54 p = M0 54 p
            rw [same]; exact h10 p hp
          · show f12_pairs_37_s T M (nI c1) (nI c2) (nI f) (nI i) (nI j) = T (rv_u M 54 i (-1)) (nI c1) (nI c2) (nI f) (nI i) (nI (j + 1))
            rw [start, run, if_neg e2]
            unfold f12_pairs_122 f12_pairs_141 f12_pairs_154 f12_pairs_159 f12_pairs_174 f12_pairs_179
            simp (disch := omega) only [if_true, q_in, if_pos, q_nc, lt_do, bt_f, bf_t, if_false, rvi_t, rvi_f, q_add, hz, Nat.add_zero]
    · left
      refine ⟨M, ?_, hk, fun p hp => ?_, h10⟩
      · show f12_pairs_37_s T M (nI c1) (nI c2) (nI f) (nI i) (nI j) = some M
        unfold f12_pairs_37_s
        simp (disch := omega) only [s12_sizeOf (M := M) (c := c1) (f := f) h1 hf, s12_sizeOf (M := M) (c := c2) (f := f) h2 hf, g3a, g3b, o1_some, q_lt]
        by_cases l1 : i < a
        · have l2 : ¬ j < b := fun z => hc ⟨l1, z⟩
          rw [if_pos l1, if_neg l2]
        · rw [if_neg l1]
      · by_cases hpi : p < i
        · exact hd p hpi
        · rw [hn p (by omega) (by omega), getD_of_drop hF (by omega)]
          by_cases l1 : i < a
          · have l2 : b ≤ j := Nat.not_lt.mp (fun z => hc ⟨l1, z⟩)
            rw [dr_nil (A := B) l2, mts_nil2]
            simp only [List.getD_eq_getElem?_getD, List.getElem?_map]
            cases (((List.range a).map A).drop i)[p - i]? <;> rfl
          · rw [dr_nil (A := A) (show a ≤ i by omega), mts_nil]
            rfl
