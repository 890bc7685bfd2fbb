/-! THE CLASS PAIRS LINES -/
def oI (x : Option Nat) : Int32 := match x with
  | none => NO
  | some n => nI n
theorem mts_nil (b : List Int32) (n : Nat) : mts [] b n = [] := by rw [mts]
theorem mts_nil2 (a : List Int32) (n : Nat) : mts a [] n = a.map (fun _ => none) := by cases a <;> rw [mts] <;> rfl
theorem mts_cons (x y : Int32) (xs ys : List Int32) (n : Nat) : mts (x :: xs) (y :: ys) n = if x = y then some n :: mts xs ys (n + 1) else if lcs xs (y :: ys) = lcs (x :: xs) (y :: ys) then none :: mts xs (y :: ys) n else mts (x :: xs) ys (n + 1) := by rw [mts]
theorem getD_of_drop {F : List (Option Nat)} {i p : Nat} {G : List (Option Nat)} (h : F.drop i = G) (hp : i ≤ p) : F.getD p none = G.getD (p - i) none := by
  rw [← h]
  simp only [List.getD_eq_getElem?_getD, List.getElem?_drop]
  rw [show i + (p - i) = p by omega]
theorem s3_pairLoop {gh : rC_gh} {o : Nat} {M0 : rv_Mem} {a b : Nat} (ho : rC_is gh 4 o = true) (ha : a ≤ 10) (hb : b ≤ 10) (h8 : M0 o 8 = nI a) (h9 : M0 o 9 = nI b) (hT : ∀ i j, i ≤ a → j ≤ b → M0 (o + 22) (11 * i + j) = nI (tL a b (M0 (o + 18)) (M0 (o + 20)) i j)) (hN : ∀ p, p < 10 → M0 (o + 24) p = NO) :
    ∃ M', f3_pairLines_14 gh rv_FU M0 o 0 0 0 = some M' ∧ (∀ q, q ≠ o + 24 → M' q = M0 q) ∧ ∀ p, p < a → M' (o + 24) p = oI ((mts ((List.range a).map (M0 (o + 18))) ((List.range b).map (M0 (o + 20))) 0).getD p none) := by
  have L := rv_wl (z := (fun _ _ _ _ _ => none)) (F := f3_pairLines_14_s gh) (fun T (s : rv_Mem × Nat × Nat × Nat) => T s.1 o (nI s.2.1) (nI s.2.2.1) (nI s.2.2.2)) (fun s => 40 - (s.2.1 + s.2.2.1)) (fun s => s.2.1 ≤ a ∧ s.2.2.1 ≤ b ∧ s.2.2.2 ≤ s.2.1 + s.2.2.1 ∧ (∀ q, q ≠ o + 24 → s.1 q = M0 q) ∧ (mts ((List.range a).map (M0 (o + 18))) ((List.range b).map (M0 (o + 20))) 0).drop s.2.1 = mts (((List.range a).map (M0 (o + 18))).drop s.2.1) (((List.range b).map (M0 (o + 20))).drop s.2.2.1) s.2.2.1 ∧ (∀ p, p < s.2.1 → s.1 (o + 24) p = oI ((mts ((List.range a).map (M0 (o + 18))) ((List.range b).map (M0 (o + 20))) 0).getD p none)) ∧ ∀ p, s.2.1 ≤ p → p < 10 → s.1 (o + 24) p = NO) (fun _ r => ∃ M', r = some M' ∧ (∀ q, q ≠ o + 24 → M' q = M0 q) ∧ ∀ p, p < a → M' (o + 24) p = oI ((mts ((List.range a).map (M0 (o + 18))) ((List.range b).map (M0 (o + 20))) 0).getD p none)) ?_ rv_FU (M0, 0, 0, 0) ⟨Nat.zero_le _, Nat.zero_le _, Nat.le_refl _, fun _ _ => rfl, rfl, fun p h => absurd h (Nat.not_lt_zero _), fun p _ h => hN p h⟩ (FU_lt (by show 40 - (0 + 0) < 100000; omega))
  · exact L
  · rintro T ⟨M, i, j, st⟩ ⟨hi, hj, hst, hk, hF, hd, hn⟩
    have hi : i ≤ a := hi
    have hj : j ≤ b := hj
    have hst : st ≤ i + j := hst
    have hk : ∀ q, q ≠ o + 24 → M q = M0 q := hk
    have hF : (mts ((List.range a).map (M0 (o + 18))) ((List.range b).map (M0 (o + 20))) 0).drop i = mts (((List.range a).map (M0 (o + 18))).drop i) (((List.range b).map (M0 (o + 20))).drop j) j := hF
    have hd : ∀ p, p < i → M (o + 24) p = oI ((mts ((List.range a).map (M0 (o + 18))) ((List.range b).map (M0 (o + 20))) 0).getD p none) := hd
    have hn : ∀ p, i ≤ p → p < 10 → M (o + 24) p = NO := hn
    have g8 : M o 8 = nI a := by rw [hk o (by omega)]; exact h8
    have g9 : M o 9 = nI b := by rw [hk o (by omega)]; exact h9
    have g18 : M (o + 18) = M0 (o + 18) := hk _ (by omega)
    have g20 : M (o + 20) = M0 (o + 20) := hk _ (by omega)
    have g22 : M (o + 22) = M0 (o + 22) := hk _ (by omega)
    by_cases hc : i < a ∧ j < b
    · right
      obtain ⟨h1, h2⟩ := hc
      have c1 := dr_cons (A := M0 (o + 18)) h1
      have c2 := dr_cons (A := M0 (o + 20)) h2
      rw [c1, c2, mts_cons] at hF
      have x1 : (i + 1) * 11 + j = 11 * (i + 1) + j := by omega
      have x2 : i * 11 + j = 11 * i + j := by omega
      have t1 := hT (i + 1) j (by omega) (by omega)
      have t2 := hT i j (by omega) (by omega)
      have b1 := (TC_lcs (a := a) (b := b) (A := M0 (o + 18)) (B := M0 (o + 20)) (by omega) (show i + 1 ≤ a by omega) hj).1
      have b2 := (TC_lcs (a := a) (b := b) (A := M0 (o + 18)) (B := M0 (o + 20)) (by omega) hi hj).1
      by_cases e : M0 (o + 18) i = M0 (o + 20) j
      · rw [if_pos e] at hF
        refine ⟨(rv_u M (o + 24) i (nI j), i + 1, j + 1, st + 1), ⟨h1, h2, by show st + 1 ≤ i + 1 + (j + 1); omega, fun q hq => by show rv_u M (o + 24) i (nI j) q = M0 q; rw [mu_ne hq]; exact hk q hq, ?_, fun p hp => ?_, fun p hp hp2 => ?_⟩, by show 40 - (i + 1 + (j + 1)) < 40 - (i + j); omega, ?_, fun r hr => hr⟩
        · show (mts _ _ 0).drop (i + 1) = _
          rw [← List.drop_drop, hF]
          rfl
        · show rv_u M (o + 24) i (nI j) (o + 24) p = _
          by_cases ep : p = i
          · subst ep
            rw [mu_same, getD_of_drop hF (Nat.le_refl _), Nat.sub_self]
            rfl
          · rw [mu_ne2 ep]
            exact hd p (by have : p < i + 1 := hp; omega)
        · show rv_u M (o + 24) i (nI j) (o + 24) p = NO
          have : i + 1 ≤ p := hp
          rw [mu_ne2 (by omega)]
          exact hn p (by omega) hp2
        · show f3_pairLines_14_s gh T M o (nI i) (nI j) (nI st) = T (rv_u M (o + 24) i (nI j)) o (nI (i + 1)) (nI (j + 1)) (nI (st + 1))
          unfold f3_pairLines_14_s f3_pairLines_103
          rw [g8, g9, g18, g20]
          simp (disch := omega) only [q_20, q_lt, q_in, if_pos, q_nc, ho, e, if_true, lt_do, q_succ]
      · rw [if_neg e] at hF
        by_cases e2 : tL a b (M0 (o + 18)) (M0 (o + 20)) (i + 1) j = tL a b (M0 (o + 18)) (M0 (o + 20)) i j
        · have e3 := e2
          unfold tL at e3
          rw [c1, c2] at e3
          rw [if_pos e3] at hF
          refine ⟨(M, i + 1, j, st + 1), ⟨h1, hj, by show st + 1 ≤ i + 1 + j; omega, hk, ?_, fun p hp => ?_, fun p hp hp2 => hn p (by have : i + 1 ≤ p := hp; omega) hp2⟩, by show 40 - (i + 1 + j) < 40 - (i + j); omega, ?_, fun r hr => hr⟩
          · show (mts _ _ 0).drop (i + 1) = mts (((List.range a).map (M0 (o + 18))).drop (i + 1)) (((List.range b).map (M0 (o + 20))).drop j) j
            rw [← List.drop_drop, hF, c2]
            rfl
          · show M (o + 24) p = _
            by_cases ep : p = i
            · subst ep
              rw [hn p (Nat.le_refl _) (by omega), getD_of_drop hF (Nat.le_refl _), Nat.sub_self]
              rfl
            · exact hd p (by have : p < i + 1 := hp; omega)
          · show f3_pairLines_14_s gh T M o (nI i) (nI j) (nI st) = T M o (nI (i + 1)) (nI j) (nI (st + 1))
            unfold f3_pairLines_14_s f3_pairLines_103
            rw [g8, g9, g18, g20, g22]
            simp (disch := omega) only [q_20, q_11, q_lt, q_in, if_pos, q_nc, ho, if_true, e, if_false, q_succ, q_mul, q_add, x1, x2, t1, t2, q_eq, e2]
        · have e3 := e2
          unfold tL at e3
          rw [c1, c2] at e3
          rw [if_neg e3] at hF
          refine ⟨(M, i, j + 1, st + 1), ⟨hi, h2, by show st + 1 ≤ i + (j + 1); omega, hk, ?_, hd, hn⟩, by show 40 - (i + (j + 1)) < 40 - (i + j); omega, ?_, fun r hr => hr⟩
          · show (mts _ _ 0).drop i = mts (((List.range a).map (M0 (o + 18))).drop i) (((List.range b).map (M0 (o + 20))).drop (j + 1)) (j + 1)
            rw [hF, c1]
          · show f3_pairLines_14_s gh T M o (nI i) (nI j) (nI st) = T M o (nI i) (nI (j + 1)) (nI (st + 1))
            unfold f3_pairLines_14_s f3_pairLines_103
            rw [g8, g9, g18, g20, g22]
            simp (disch := omega) only [q_20, q_11, q_lt, q_in, if_pos, q_nc, ho, if_true, e, if_false, q_succ, q_mul, q_add, x1, x2, t1, t2, q_eq]
            rw [if_neg e2]
    · left
      refine ⟨M, ?_, hk, fun p hp => ?_⟩
      · show f3_pairLines_14_s gh T M o (nI i) (nI j) (nI st) = some M
        unfold f3_pairLines_14_s
        rw [g8, g9]
        by_cases h20 : st < 20
        · by_cases h1 : i < a
          · have h2 : ¬ j < b := fun z => hc ⟨h1, z⟩
            simp (disch := omega) only [q_no, q_no2, q_0, q_1, q_2, q_3, q_4, q_5, q_6, q_7, q_8, q_10, q_11, q_12, q_15, q_16, q_17, q_20, q_30, q_31, q_32, q_40, q_45, q_60, q_80, q_81, q_82, q_100, q_320, q_328, q_399, q_400, q_3280, q_nc, q_eq, q_lt, q_le, q_add, q_mul, q_in, q_inno, q_no_eq, q_no_eq', q_no_lt, q_lt_no, q_no_le, q_le_no, o1_some, o2_some, lt_do, x1_inl, x1_inr, x2_inl, x2_inr, if_true, if_false, if_pos, if_neg, rvi_t, rvi_f, bt_f, bf_t, bb_t, bb_f, not_true_eq_false, not_false_eq_true, ho]
          · simp (disch := omega) only [q_no, q_no2, q_0, q_1, q_2, q_3, q_4, q_5, q_6, q_7, q_8, q_10, q_11, q_12, q_15, q_16, q_17, q_20, q_30, q_31, q_32, q_40, q_45, q_60, q_80, q_81, q_82, q_100, q_320, q_328, q_399, q_400, q_3280, q_nc, q_eq, q_lt, q_le, q_add, q_mul, q_in, q_inno, q_no_eq, q_no_eq', q_no_lt, q_lt_no, q_no_le, q_le_no, o1_some, o2_some, lt_do, x1_inl, x1_inr, x2_inl, x2_inr, if_true, if_false, if_pos, if_neg, rvi_t, rvi_f, bt_f, bf_t, bb_t, bb_f, not_true_eq_false, not_false_eq_true, ho]
        · simp (disch := omega) only [q_no, q_no2, q_0, q_1, q_2, q_3, q_4, q_5, q_6, q_7, q_8, q_10, q_11, q_12, q_15, q_16, q_17, q_20, q_30, q_31, q_32, q_40, q_45, q_60, q_80, q_81, q_82, q_100, q_320, q_328, q_399, q_400, q_3280, q_nc, q_eq, q_lt, q_le, q_add, q_mul, q_in, q_inno, q_no_eq, q_no_eq', q_no_lt, q_lt_no, q_no_le, q_le_no, o1_some, o2_some, lt_do, x1_inl, x1_inr, x2_inl, x2_inr, if_true, if_false, if_pos, if_neg, rvi_t, rvi_f, bt_f, bf_t, bb_t, bb_f, not_true_eq_false, not_false_eq_true]
      · by_cases hpi : p < i
        · exact hd p hpi
        · rw [hn p (by show i ≤ p; omega) (by omega), getD_of_drop hF (by show i ≤ p; omega)]
          show NO = oI ((mts (((List.range a).map (M0 (o + 18))).drop i) (((List.range b).map (M0 (o + 20))).drop j) j).getD (p - i) none)
          by_cases h1 : i < a
          · have h2 : b ≤ j := Nat.not_lt.mp (fun z => hc ⟨h1, z⟩)
            rw [dr_nil (A := M0 (o + 20)) h2, mts_nil2]
            simp only [List.getD_eq_getElem?_getD, List.getElem?_map]
            cases (((List.range a).map (M0 (o + 18))).drop i)[p - i]? <;> rfl
          · rw [dr_nil (A := M0 (o + 18)) (show a ≤ i by omega), mts_nil]
            rfl
