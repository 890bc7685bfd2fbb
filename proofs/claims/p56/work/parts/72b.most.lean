/-! HOW MANY PAIRS THERE CAN BE -/
theorem s64 : ∀ n, n < 64 → (((nI n).toInt64 &&& 63).toBitVec.smod 64).toNat = n := by decide +kernel
theorem bl_shr (n : Nat) (hn : n < 64) (x : Int64) {i : Nat} (hi : n + i < 64) : bl (x >>> ((nI n).toInt64 &&& 63)) i = bl x (n + i) := by
  unfold bl
  rw [Int64.toBitVec_shiftRight]
  show (x.toBitVec.sshiftRight (((nI n).toInt64 &&& 63).toBitVec.smod 64).toNat).getLsbD i = _
  rw [s64 n hn, BitVec.getLsbD_sshiftRight]
  simp [hi, show i < 64 by omega]
theorem bl_shl (n : Nat) (hn : n < 64) (x : Int64) {i : Nat} (hi : i < 64) : bl (x <<< ((nI n).toInt64 &&& 63)) i = (decide (n ≤ i) && bl x (i - n)) := by
  unfold bl
  rw [Int64.toBitVec_shiftLeft]
  show (x.toBitVec <<< (((nI n).toInt64 &&& 63).toBitVec.smod 64).toNat).getLsbD i = _
  rw [s64 n hn, BitVec.getLsbD_shiftLeft]
  rcases Nat.lt_or_ge i n with h | h
  · simp [h, Nat.not_le.mpr h]
  · simp [hi, h, Nat.not_lt.mpr h]
theorem bl_ext {x y : Int64} (h : ∀ i, i < 64 → bl x i = bl y i) : x = y := Int64.toBitVec_inj.mp (BitVec.eq_of_getLsbD_eq (fun i hi => h i hi))
theorem bl_15 : ∀ i, i < 64 → bl 15 i = decide (i < 4) := by decide +kernel
theorem bl_of : ∀ v, v < 16 → ∀ i, i < 64 → bl (Int64.ofNat v) i = v.testBit i := by decide +kernel
theorem tb_16 : ∀ v, v < 16 → ∀ i, i < 64 → 4 ≤ i → v.testBit i = false := by decide +kernel
theorem cmp_16 : ∀ a, a < 16 → ∀ b, b < 16 → (0 < lg_cmp (Int64.ofNat a) (Int64.ofNat b) ↔ b < a) := by decide +kernel
theorem one_16 : ∀ a, a < 16 → (1 : Int64) + Int64.ofNat a = Int64.ofNat (a + 1) := by decide +kernel
theorem i32_16 : ∀ a, a < 16 → (Int64.ofNat a).toInt32 = nI a := by decide +kernel
def rep (x : Int64) (v : Nat → Nat) : Prop := ∀ m, m ≤ 11 → ∀ i, i < 4 → bl x (4 * m + i) = (v m).testBit i
theorem rep_nib {x : Int64} {v : Nat → Nat} (h : rep x v) {m : Nat} (hm : m ≤ 11) (hv : v m < 16) : (x >>> ((nI (4 * m)).toInt64 &&& 63)) &&& 15 = Int64.ofNat (v m) := by
  apply bl_ext
  intro i hi
  rw [bl_and, bl_15 i hi, bl_of _ hv i hi]
  by_cases c : i < 4
  · rw [decide_eq_true c, Bool.and_true, bl_shr (4 * m) (by omega) x (by omega), h m hm i c]
  · rw [decide_eq_false c, Bool.and_false, tb_16 _ hv i hi (by omega)]
theorem rep_low {x : Int64} {v : Nat → Nat} (h : rep x v) (hv : v 0 < 16) : x &&& 15 = Int64.ofNat (v 0) := by
  apply bl_ext
  intro i hi
  rw [bl_and, bl_15 i hi, bl_of _ hv i hi]
  by_cases c : i < 4
  · rw [decide_eq_true c, Bool.and_true, ← h 0 (by omega) i c, Nat.mul_zero, Nat.zero_add]
  · rw [decide_eq_false c, Bool.and_false, tb_16 _ hv i hi (by omega)]
theorem rep_upd {x : Int64} {w : Nat → Nat} (h : rep x w) {m0 v : Nat} (hm : m0 ≤ 11) (hv : v < 16) (h0 : w m0 = 0) : rep (x ||| (Int64.ofNat v <<< ((nI (4 * m0)).toInt64 &&& 63))) (fun m => if m = m0 then v else w m) := by
  intro m hm2 i hi
  rw [bl_or, h m hm2 i hi, bl_shl (4 * m0) (by omega) _ (by omega)]
  by_cases c : m = m0
  · subst c
    simp only [if_true]
    rw [h0, decide_eq_true (by omega), bl_of v hv _ (by omega), show 4 * m + i - 4 * m = i by omega]
    simp
  · simp only [c, if_false]
    by_cases c2 : m0 ≤ m
    · rw [decide_eq_true (by omega), bl_of v hv _ (by omega), tb_16 v hv _ (by omega) (by omega)]
      simp
    · rw [decide_eq_false (by omega)]
      simp
theorem rep_0 {v : Nat → Nat} (h : ∀ m, m ≤ 11 → v m = 0) : rep 0 v := fun m hm i _ => by rw [bl_0, h m hm, Nat.zero_testBit]
theorem rep_cong {x : Int64} {v w : Nat → Nat} (h : rep x v) (e : ∀ m, m ≤ 11 → v m = w m) : rep x w := fun m hm i hi => by rw [h m hm i hi, e m hm]
theorem sub1_dn (t : Nat) : nI t - 1 = dn t := by
  unfold dn
  by_cases c : t = 0
  · rw [if_pos c, c]; rfl
  · rw [if_neg c, q_1, q_sub (by omega)]
theorem drop_cons' {F : List Int32} {k : Nat} (h : k < F.length) : F.drop k = ln F k :: F.drop (k + 1) := by
  rw [lnN, dif_pos h]; exact List.drop_eq_getElem_cons h
section
variable {n : Nat} {gh : rC_gh} {C R A : rv_Mem}
theorem mo_35 (hR : Rn n gh C R) {c c' f k : Nat} (hc : c < n) (hc' : c' < n) (hf : f < 4) (hk : k < (fl R c f).length) (k21 : rv_Mem → Int32 → Int32 → Int32 → Int32 → Int64 → Int32 → Option (Int32 × rv_Mem)) (x4 : Int32) (x5 : Int64) (h5 : rep x5 (fun j => lcs ((fl R c f).drop (k + 1)) ((fl R c' f).drop j))) : ∀ t fuel (x8 : Int64), t ≤ (fl R c' f).length → t < fuel → rep x8 (fun j => if t ≤ j then lcs ((fl R c f).drop k) ((fl R c' f).drop j) else 0) →
    ∃ y, rep y (fun j => lcs ((fl R c f).drop k) ((fl R c' f).drop j)) ∧ gp_most_35 gh A k21 fuel C (nI c) (nI c') (nI f) x4 x5 (nI k) x8 (dn t) = k21 C (nI c) (nI c') (nI f) x4 y (nI k + (-1))
  | t, 0, _, _, h2, _ => absurd h2 (Nat.not_lt_zero _)
  | 0, fuel + 1, x8, _, _, h8 => by
    refine ⟨x8, rep_cong h8 (fun m _ => if_pos (Nat.zero_le _)), ?_⟩
    show gp_most_35_s gh A k21 (gp_most_35 gh A k21 fuel) C (nI c) (nI c') (nI f) x4 x5 (nI k) x8 NO = _
    unfold gp_most_35_s
    rw [if_neg (by rw [q_0, q_le_no (by omega)]; exact id)]
  | t + 1, fuel + 1, x8, h1, h2, h8 => by
    have hF := fl_10 hR (Or.inl hc) hf
    have hG := fl_10 hR (Or.inl hc') hf
    have bF : ∀ a j, lcs ((fl R c f).drop a) ((fl R c' f).drop j) < 16 := fun a j => by
      have := lcs_le ((fl R c f).drop a) ((fl R c' f).drop j)
      rw [List.length_drop] at this; omega
    have bF2 : ∀ j, lcs ((fl R c f).drop (k + 1)) ((fl R c' f).drop j) < 15 := fun j => by
      have := lcs_le ((fl R c f).drop (k + 1)) ((fl R c' f).drop j)
      rw [List.length_drop] at this; omega
    have e1 := rep_nib h5 (show t + 1 ≤ 11 by omega) (bF (k + 1) (t + 1))
    have e2 := rep_nib h5 (show t ≤ 11 by omega) (bF (k + 1) t)
    have e3 := rep_nib h8 (show t + 1 ≤ 11 by omega) (by simp only [Nat.le_refl, if_true]; exact bF k (t + 1))
    simp only [Nat.le_refl, if_true] at e3
    have eL := lcs_three (ln (fl R c f) k) (ln (fl R c' f) t) ((fl R c f).drop (k + 1)) ((fl R c' f).drop (t + 1))
    rw [← drop_cons' hk, ← drop_cons' (show t < (fl R c' f).length by omega)] at eL
    generalize hl : lcs ((fl R c f).drop k) ((fl R c' f).drop t) = l at eL
    have hl16 : l < 16 := by rw [← hl]; exact bF k t
    have i4 : (4 : Int32) * nI t = nI (4 * t) := by rw [q_4, q_mul]
    have i44 : (4 : Int32) * nI t + 4 = nI (4 * (t + 1)) := by rw [i4, q_4, q_add]; rfl
    have edn : dn (t + 1) = nI t := by unfold dn; rw [if_neg (by omega)]; rfl
    have h8' : rep (x8 ||| (Int64.ofNat l <<< ((nI (4 * t)).toInt64 &&& 63))) (fun j => if t ≤ j then lcs ((fl R c f).drop k) ((fl R c' f).drop j) else 0) := by
      refine rep_cong (rep_upd h8 (show t ≤ 11 by omega) hl16 (if_neg (by omega))) (fun m _ => ?_)
      by_cases q : m = t
      · subst q; simp [hl]
      · simp only [q, if_false]
        by_cases q2 : t ≤ m
        · rw [if_pos q2, if_pos (by omega)]
        · rw [if_neg q2, if_neg (by omega)]
    obtain ⟨y, y1, y2⟩ := mo_35 hR hc hc' hf hk k21 x4 x5 h5 t fuel _ (by omega) (by omega) h8'
    refine ⟨y, y1, ?_⟩
    rw [← y2, ← dn_m1 t]
    -- the greatest of the three
    have e142 : ∀ s : Nat, s < 16 → gp_most_78 gh A k21 (gp_most_35 gh A k21 fuel) C (nI c) (nI c') (nI f) x4 x5 (nI k) x8 (nI t) (Int64.ofNat s) = gp_most_35 gh A k21 fuel C (nI c) (nI c') (nI f) x4 x5 (nI k) (x8 ||| (Int64.ofNat (max s (max (lcs ((fl R c f).drop (k + 1)) ((fl R c' f).drop t)) (lcs ((fl R c f).drop k) ((fl R c' f).drop (t + 1))))) <<< ((nI (4 * t)).toInt64 &&& 63))) (nI t + (-1)) := fun s hs => by
      unfold gp_most_78 gp_most_123 gp_most_142
      rw [i44, i4, e2, e3]
      have b1 := bF (k + 1) t
      have b2 := bF k (t + 1)
      generalize lcs ((fl R c f).drop (k + 1)) ((fl R c' f).drop t) = u at b1 ⊢
      generalize lcs ((fl R c f).drop k) ((fl R c' f).drop (t + 1)) = v at b2 ⊢
      by_cases q1 : u < s
      · rw [if_pos ((cmp_16 s hs u b1).mpr q1)]
        by_cases q2 : v < s
        · rw [if_pos ((cmp_16 s hs v b2).mpr q2), show max s (max u v) = s by omega]
        · rw [if_neg (fun z => q2 ((cmp_16 s hs v b2).mp z)), show max s (max u v) = v by omega]
      · rw [if_neg (fun z => q1 ((cmp_16 s hs u b1).mp z))]
        by_cases q2 : v < u
        · rw [if_pos ((cmp_16 u b1 v b2).mpr q2), show max s (max u v) = u by omega]
        · rw [if_neg (fun z => q2 ((cmp_16 u b1 v b2).mp z)), show max s (max u v) = v by omega]
    rw [edn]
    show gp_most_35_s gh A k21 (gp_most_35 gh A k21 fuel) C (nI c) (nI c') (nI f) x4 x5 (nI k) x8 (nI t) = _
    unfold gp_most_35_s
    rw [if_pos (by rw [q_0, q_le (by omega) (by omega)]; omega), ak_line hR (Or.inl ⟨hc, rfl⟩) hf (by omega), x1k, ak_line hR (Or.inl ⟨hc', rfl⟩) hf (by omega), x1k, i44, e1]
    by_cases q : ln (fl R c f) k = ln (fl R c' f) t
    · rw [if_pos q] at eL ⊢
      rw [one_16 _ (bF (k + 1) (t + 1)), e142 _ (by have := bF2 (t + 1); omega), ← eL]
    · rw [if_neg q] at eL ⊢
      rw [show (0 : Int64) = Int64.ofNat 0 from rfl, e142 0 (by omega), ← eL]
theorem mo_21 (hR : Rn n gh C R) {c c' f : Nat} (hc : c < n) (hc' : c' < n) (hf : f < 4) : ∀ t fuel (x5 : Int64), t ≤ (fl R c f).length → t < fuel → rep x5 (fun j => lcs ((fl R c f).drop t) ((fl R c' f).drop j)) → gp_most_21 gh A fuel C (nI c) (nI c') (nI f) (nI (fl R c' f).length) x5 (dn t) = some (nI (lcs (fl R c f) (fl R c' f)), C)
  | t, 0, _, _, h2, _ => absurd h2 (Nat.not_lt_zero _)
  | 0, fuel + 1, x5, _, _, h5 => by
    have hF := fl_10 hR (Or.inl hc) hf
    have hl := lcs_le (fl R c f) (fl R c' f)
    show gp_most_21_s gh A (gp_most_21 gh A fuel) C (nI c) (nI c') (nI f) (nI (fl R c' f).length) x5 NO = _
    unfold gp_most_21_s
    have e := rep_low h5 (show lcs ((fl R c f).drop 0) ((fl R c' f).drop 0) < 16 by rw [List.drop_zero, List.drop_zero]; omega)
    simp only [List.drop_zero] at e
    rw [if_neg (by rw [q_0, q_le_no (by omega)]; exact id), e, i32_16 _ (by omega)]
  | t + 1, fuel + 1, x5, h1, h2, h5 => by
    have hF := fl_10 hR (Or.inl hc) hf
    have hG := fl_10 hR (Or.inl hc') hf
    obtain ⟨y, y1, y2⟩ := mo_35 (A := A) hR hc hc' hf (show t < (fl R c f).length by omega) (gp_most_21 gh A fuel) (nI (fl R c' f).length) x5 h5 (fl R c' f).length rv_FU 0 (Nat.le_refl _) (FU_lt (by omega)) (rep_0 (fun m _ => by
      by_cases q : (fl R c' f).length ≤ m
      · rw [if_pos q, List.drop_eq_nil_of_le q, lcs_nil2]
      · rw [if_neg q]))
    have edn : dn (t + 1) = nI t := by unfold dn; rw [if_neg (by omega)]; rfl
    rw [edn]
    show gp_most_21_s gh A (gp_most_21 gh A fuel) C (nI c) (nI c') (nI f) (nI (fl R c' f).length) x5 (nI t) = _
    unfold gp_most_21_s
    have e1 : nI (fl R c' f).length - 1 = dn (fl R c' f).length := sub1_dn _
    rw [if_pos (by rw [q_0, q_le (by omega) (by omega)]; omega), e1, y2, dn_m1]
    exact mo_21 hR hc hc' hf t fuel y (by omega) (by omega) y1
theorem ak_most (hR : Rn n gh C R) {c c' f : Nat} (hc : c < n) (hc' : c' < n) (hf : f < 4) : gp_most gh C A (nI c) (nI c') (nI f) = some (nI (lcs (fl R c f) (fl R c' f)), C) := by
  have hF := fl_10 hR (Or.inl hc) hf
  unfold gp_most
  rw [ak_size hR (Or.inl ⟨hc', rfl⟩) hf, o2_some, ak_size hR (Or.inl ⟨hc, rfl⟩) hf, o2_some]
  have e1 : nI (fl R c f).length - 1 = dn (fl R c f).length := sub1_dn _
  rw [e1]
  exact mo_21 hR hc hc' hf _ rv_FU 0 (Nat.le_refl _) (FU_lt (by omega)) (rep_0 (fun m _ => by rw [List.drop_length, lcs_nil]))
end
