/-! addRule, dropRule -/
theorem up_eqf {α : Type} {g h : Nat → α → α} : ∀ (d k : Nat) (a : α), (∀ j, k ≤ j → j < k + d → g j = h j) → up g d k a = up h d k a := fun d k a hg => up_congr d k a (fun j a h1 h2 => by rw [hg j h1 h2])
theorem rlk_congr {nr : Nat} {a46 a47 a48 a49 b46 b47 b48 b49 : Nat → Int32} (h6 : ∀ i, i < nr → a46 i = b46 i) (h7 : ∀ i, i < nr → a47 i = b47 i) (h8 : ∀ i, i < nr → a48 i = b48 i) (h9 : ∀ i, i < nr → rv_z (a49 i) = rv_z (b49 i)) : ∀ k, rlk nr a46 a47 a48 a49 k = rlk nr b46 b47 b48 b49 k := by
  intro k
  induction k with
  | zero => rfl
  | succ k ih =>
    rw [rlk_s, rlk_s, ih]
    unfold rlr
    refine up_eqf nr 0 _ (fun j _ hj => ?_)
    funext h s
    unfold rl1 rlh
    rw [h6 j (by omega), h7 j (by omega), h8 j (by omega), h9 j (by omega)]
theorem found_congr {nr : Nat} {a46 a47 a48 a49 b46 b47 b48 b49 : Nat → Int32} (h6 : ∀ i, i < nr → a46 i = b46 i) (h7 : ∀ i, i < nr → a47 i = b47 i) (h8 : ∀ i, i < nr → a48 i = b48 i) (h9 : ∀ i, i < nr → rv_z (a49 i) = rv_z (b49 i)) : found nr a46 a47 a48 a49 ↔ found nr b46 b47 b48 b49 := by
  unfold found
  rw [← rlk_s, ← rlk_s, rlk_congr h6 h7 h8 h9 17, rlk_congr h6 h7 h8 h9 16]
theorem Rn_rul {n : Nat} {gh : rC_gh} {C C' R R' : rv_Mem} (h : Rn n gh C R) (hC : ∀ k, k ≠ 4 → (k < 43 ∨ 47 < k) → C' k = C k) (hR : ∀ k, k ≤ 44 ∨ (50 ≤ k ∧ k ≤ 52) → R' k = R k) (h64 : rv_z (R' 64 0) = false) (rul : A_rul C' R') : Rn n gh C' R' := by
  refine Rn_set h (fun k hk => hC k (by omega) (by omega)) (fun k hk => hC k (by omega) (by omega)) (fun k hk => hR k (by omega)) h64 ?_ ?_ ?_ rul ?_
  · rw [hC 22 (by omega) (by omega), hC 51 (by omega) (by omega), hR 1 (by omega), hR 9 (by omega), hR 10 (by omega)]; exact h.tip
  · rw [hC 41 (by omega) (by omega), hC 42 (by omega) (by omega), hR 22 (by omega), hR 23 (by omega)]; exact h.vot
  · have := h.ols
    unfold A_ols at this ⊢
    rw [hC 48 (by omega) (by omega), hC 49 (by omega) (by omega), hC 50 (by omega) (by omega), hC 5 (by omega) (by omega), hR 41 (by omega), hR 42 (by omega), hR 43 (by omega), hR 44 (by omega)]; exact this
  · have := h.mis
    unfold A_mis at this ⊢
    rw [hC 12 (by omega) (by omega), hC 13 (by omega) (by omega), hC 0 (by omega) (by omega), hR 50 (by omega), hR 51 (by omega), hR 52 (by omega)]; exact this
def rrow (C R : rv_Mem) (i : Nat) : Prop := (∃ s, 8 ≤ s ∧ s < 16 ∧ C 43 i = nI s ∧ R 46 i = nI s) ∧ (∃ v, v < 65536 ∧ C 44 i = nI v ∧ R 47 i = nI v) ∧ (∃ v, v < 65536 ∧ C 45 i = nI v ∧ R 48 i = nI v) ∧ rv_z (C 46 i) = rv_z (R 49 i)
theorem rul_heads {nr : Nat} {C R : rv_Mem} (hn : nr ≤ 20) (h : ∀ i, i < nr → rrow C R i) : heads nr (R 46) := ⟨hn, fun i hi => by
  obtain ⟨⟨s, s1, s2, -, s3⟩, -⟩ := h i hi
  exact ⟨s, s1, s2, s3⟩⟩
theorem rul_rules {nr : Nat} {C R : rv_Mem} (h6 : C 4 6 = nI nr) (h : ∀ i, i < nr → rrow C R i) : rules nr C (R 46) (R 47) (R 48) (R 49) := ⟨h6, fun i hi => by
  obtain ⟨⟨s, -, -, s2, s3⟩, ⟨v, -, v2, v3⟩, ⟨w, -, w2, w3⟩, z⟩ := h i hi
  exact ⟨by rw [s2, s3], by rw [v2, v3], by rw [w2, w3], z⟩⟩
theorem rul_of {nr : Nat} {C R : rv_Mem} (h1 : 1 ≤ nr) (h2 : nr ≤ 20) (h3 : C 4 6 = nI nr) (h4 : R 45 0 = nI nr) (h5 : ∀ i, i < nr → rrow C R i) (h6 : found nr (R 46) (R 47) (R 48) (R 49)) (h7 : isH (C 47) (rlk nr (R 46) (R 47) (R 48) (R 49) 16)) (h8 : C 4 5 = nI (mx (rlk nr (R 46) (R 47) (R 48) (R 49) 16))) : A_rul C R := by
  have hh := heads_hh (rul_heads h2 h5)
  have b8 := mx_le (high_8 h6 hh)
  refine ⟨nr, h1, h2, h3, h4, h5, h6, h7, mx (rlk nr (R 46) (R 47) (R 48) (R 49) 16), h8, by omega, fun s hs => ?_, ?_⟩
  · by_cases c : 8 ≤ s
    · exact mx_ge c hs
    · rw [rlk_out hh 16 s (by omega)]; exact Nat.zero_le _
  · rcases mx_at (rlk nr (R 46) (R 47) (R 48) (R 49) 16) with h | ⟨s, s1, s2, s3⟩
    · exact Or.inl h
    · exact Or.inr ⟨s, s2, s3⟩
theorem Rn.rules' {n : Nat} {gh : rC_gh} {C R : rv_Mem} (hR : Rn n gh C R) : ∃ nr, 1 ≤ nr ∧ nr ≤ 20 ∧ C 4 6 = nI nr ∧ R 45 0 = nI nr ∧ (∀ i, i < nr → rrow C R i) ∧ found nr (R 46) (R 47) (R 48) (R 49) ∧ isH (C 47) (rlk nr (R 46) (R 47) (R 48) (R 49) 16) ∧ ∃ m, C 4 5 = nI m ∧ m ≤ 8 ∧ (∀ s, rlk nr (R 46) (R 47) (R 48) (R 49) 16 s ≤ m) := by
  obtain ⟨nr, a1, a2, a3, a4, a5, a6, a7, m, b1, b2, b3, b4⟩ := hR.rul
  have hh := heads_hh (rul_heads a2 a5)
  refine ⟨nr, a1, a2, a3, a4, a5, a6, a7, m, b1, ?_, fun s => ?_⟩
  · rcases b4 with h | ⟨s, s1, s2⟩
    · omega
    · rw [← s2]; exact high_8 a6 hh s
  · by_cases c : s < 16
    · exact b3 s c
    · rw [rlk_out hh 16 s (by omega)]; exact Nat.zero_le _
theorem d_range {x : Int32} {a b : Nat} (hb : b < 2147483648) (hab : a ≤ b) : (∃ v, a ≤ v ∧ v < b ∧ x = nI v ∧ nI a ≤ x ∧ ¬ nI b ≤ x ∧ x < nI b ∧ f12_isIn x (nI a) (nI b - 1) = some true) ∨ ((¬ nI a ≤ x ∨ (nI a ≤ x ∧ nI b ≤ x ∧ ¬ x < nI b)) ∧ f12_isIn x (nI a) (nI b - 1) = some false) := by
  rcases q_any x with hx | ⟨v, hv, rfl⟩
  · right
    refine ⟨Or.inl ?_, s12_isIn_neg hx (by omega)⟩
    rw [Int32.le_iff_toInt_le, q_ti (by omega)]
    rw [Int32.lt_iff_toInt_lt] at hx
    have : (0 : Int32).toInt = 0 := rfl
    omega
  · by_cases h0 : b = 0
    · subst h0
      have e : nI 0 - 1 = NO := rfl
      rw [e]
      right
      refine ⟨Or.inr ⟨by rw [q_le (by omega) hv]; omega, by rw [q_le (by omega) hv]; omega, by rw [q_lt hv (by omega)]; omega⟩, ?_⟩
      unfold f12_isIn
      rw [if_pos (by rw [q_le (by omega) hv]; omega), if_neg (by rw [q_le_no hv]; exact fun z => z)]
    · rw [q_1, q_sub (show 1 ≤ b by omega), s12_isIn hv (by omega) (by omega)]
      by_cases c : a ≤ v
      · by_cases d : v < b
        · left
          exact ⟨v, c, d, rfl, by rw [q_le (by omega) hv]; exact c, by rw [q_le hb hv]; omega, by rw [q_lt hv hb]; exact d, by rw [decide_eq_true (by omega)]⟩
        · right
          exact ⟨Or.inr ⟨by rw [q_le (by omega) hv]; exact c, by rw [q_le hb hv]; omega, by rw [q_lt hv hb]; omega⟩, by rw [decide_eq_false (by omega)]⟩
      · right
        exact ⟨Or.inl (by rw [q_le (by omega) hv]; exact c), by rw [decide_eq_false (by omega)]⟩
theorem h_addRule : ∀ gh MC MR, Rel gh MC MR → ∀ p1 p2 p3, rS_addRule Rel gh MC MR p1 p2 p3 := fun gh C R h p1 p2 p3 => by
  obtain ⟨n, hR⟩ := h
  obtain ⟨nr, a1, a2, a3, a4, a5, a6, a7, m, b1, b2, b3⟩ := hR.rules'
  have hd := rul_heads a2 a5
  unfold rS_addRule
  have hR1 : Rn n gh C (rv_u R 66 0 0) := Rn_66 hR
  have bad : f11_addRule gh C p1 p2 p3 = some (.inr (2, C)) → f12_addRule R p1 p2 p3 = f12_addRule_38 R p1 p2 p3 → (∃ (MC' MR' : rv_Mem) (v : Int32), f11_addRule gh C p1 p2 p3 = some (.inr (2, MC')) ∧ f12_addRule R p1 p2 p3 = some (v, MR') ∧ MR' 66 0 = 1 ∧ Rel gh MC' MR') := fun h1 h2 => ⟨C, rv_u R 66 0 1, 0, h1, by rw [h2]; rfl, mu_same _ _ _ _, ⟨n, Rn_66 hR⟩⟩
  have r1 := d_range (x := p1) (a := 8) (b := 16) (by omega) (by omega)
  have r2 := d_range (x := p2) (a := 0) (b := 65536) (by omega) (by omega)
  have r3 := d_range (x := p3) (a := 0) (b := 65536) (by omega) (by omega)
  rcases r1 with ⟨s, s1, s2, rfl, s3, s4, s5, s6⟩ | ⟨s1, s2⟩
  · rcases r2 with ⟨v, -, v2, rfl, v3, v4, v5, v6⟩ | ⟨v1, v2⟩
    · rcases r3 with ⟨w, -, w2, rfl, w3, w4, w5, w6⟩ | ⟨w1, w2⟩
      · have eC : f11_addRule gh C (nI s) (nI v) (nI w) = rv_o2 (f8_tryAdd gh C (nI s) (nI v) (nI w)) (fun r2 M3 => (if r2 = (-1) then (some (.inr (3, M3))) else (some (.inl (r2, M3))))) := by
          unfold f11_addRule
          rw [if_pos (show (8 : Int32) ≤ nI s from s3), if_neg (show ¬ (16 : Int32) ≤ nI s from s4), if_pos (show (0 : Int32) ≤ nI v from v3), if_pos (show nI v < 65536 from v5), if_pos (show (0 : Int32) ≤ nI w from w3), if_neg (show ¬ (65536 : Int32) ≤ nI w from w4)]
        have eR : f12_addRule R (nI s) (nI v) (nI w) = if (rv_u R 66 0 0) 45 0 = 20 then f12_addRule_60 (rv_u R 66 0 0) (nI s) (nI v) (nI w) 2 else f12_addRule_60 (rv_u R 66 0 0) (nI s) (nI v) (nI w) 0 := by
          unfold f12_addRule
          have s6' : f12_isIn (nI s) 8 15 = some true := s6
          have v6' : f12_isIn (nI v) 0 65535 = some true := v6
          have w6' : f12_isIn (nI w) 0 65535 = some true := w6
          rw [s6', o1_some, if_pos rfl, v6', o1_some, if_pos rfl, w6', o1_some, if_pos rfl]
          rfl
        have e45 : (rv_u R 66 0 0) 45 0 = nI nr := by rw [mu_ne (by omega)]; exact a4
        rw [e45] at eR
        by_cases full : nr = 20
        · right; right
          refine ⟨C, rv_u (rv_u R 66 0 0) 66 0 2, 0, ?_, ?_, mu_same _ _ _ _, ⟨n, Rn_66 hR1⟩⟩
          · rw [eC]
            unfold f8_tryAdd
            rw [if_pos (by rw [a3, q_20, q_le (by omega) (by omega)]; omega)]
            rfl
          · rw [eR, if_pos (by rw [full]; rfl)]
            rfl
        · rw [if_neg (by rw [q_20, q_eq (by omega) (by omega)]; exact full)] at eR
          -- the reference with one rule more
          have y : ∀ k, k ≠ 66 → (rv_u (rv_u R 66 0 0) 66 0 0) k = R k := fun k hk => by rw [mu_ne hk, mu_ne hk]
          generalize hR8 : rv_u (rv_u (rv_u (rv_u (rv_u (rv_u (rv_u R 66 0 0) 66 0 0) 46 nr (nI s)) 47 nr (nI v)) 48 nr (nI w)) 49 nr (rv_i false)) 45 0 (nI (nr + 1)) = R8
          have f46 : ∀ i, R8 46 i = if i = nr then nI s else R 46 i := fun i => by
            rw [← hR8, mu_ne (by omega), mu_ne (by omega), mu_ne (by omega), mu_ne (by omega)]
            by_cases e : i = nr
            · rw [if_pos e, e, mu_same]
            · rw [if_neg e, mu_ne2 e, y 46 (by omega)]
          have f47 : ∀ i, R8 47 i = if i = nr then nI v else R 47 i := fun i => by
            rw [← hR8, mu_ne (by omega), mu_ne (by omega), mu_ne (by omega)]
            by_cases e : i = nr
            · rw [if_pos e, e, mu_same]
            · rw [if_neg e, mu_ne2 e, mu_ne (by omega), y 47 (by omega)]
          have f48 : ∀ i, R8 48 i = if i = nr then nI w else R 48 i := fun i => by
            rw [← hR8, mu_ne (by omega), mu_ne (by omega)]
            by_cases e : i = nr
            · rw [if_pos e, e, mu_same]
            · rw [if_neg e, mu_ne2 e, mu_ne (by omega), mu_ne (by omega), y 48 (by omega)]
          have f49 : ∀ i, R8 49 i = if i = nr then rv_i false else R 49 i := fun i => by
            rw [← hR8, mu_ne (by omega)]
            by_cases e : i = nr
            · rw [if_pos e, e, mu_same]
            · rw [if_neg e, mu_ne2 e, mu_ne (by omega), mu_ne (by omega), mu_ne (by omega), y 49 (by omega)]
          have f45 : R8 45 0 = nI (nr + 1) := by rw [← hR8, mu_same]
          have fo : ∀ k, k ≠ 66 → (k < 45 ∨ 49 < k) → R8 k = R k := fun k h1 h2 => by
            rw [← hR8, mu_ne (by omega), mu_ne (by omega), mu_ne (by omega), mu_ne (by omega), mu_ne (by omega), y k h1]
          have f66 : R8 66 0 = 0 := by rw [← hR8, mu_ne (by omega), mu_ne (by omega), mu_ne (by omega), mu_ne (by omega), mu_ne (by omega), mu_same]
          have eR8 : f12_addRule_60 (rv_u R 66 0 0) (nI s) (nI v) (nI w) 0 = rv_o2 (f12_laysHeights R8) (fun r10 M11 => (if r10 = true then f12_addRule_139 M11 r10 (M11 45 0) false else f12_addRule_139 M11 r10 (M11 45 0) true)) := by
            unfold f12_addRule_60
            show rv_o2 (some (true, rv_u (rv_u R 66 0 0) 66 0 0)) _ = _
            have z45 : (rv_u (rv_u R 66 0 0) 66 0 0) 45 0 = nI nr := by rw [y 45 (by omega)]; exact a4
            simp (disch := omega) only [o2_some, bt_f, if_false, z45, q_in, if_pos, q_nc, lt_do, mu_ne, q_succ, hR8]
          -- the class with one rule more
          generalize hC5 : rv_u (rv_u (rv_u (rv_u (rv_u C 43 nr (nI s)) 44 nr (nI v)) 45 nr (nI w)) 46 nr (rv_i false)) 4 6 (nI (nr + 1)) = C5
          have g43 : ∀ i, C5 43 i = if i = nr then nI s else C 43 i := fun i => by
            rw [← hC5, mu_ne (by omega), mu_ne (by omega), mu_ne (by omega), mu_ne (by omega)]
            by_cases e : i = nr
            · rw [if_pos e, e, mu_same]
            · rw [if_neg e, mu_ne2 e]
          have g44 : ∀ i, C5 44 i = if i = nr then nI v else C 44 i := fun i => by
            rw [← hC5, mu_ne (by omega), mu_ne (by omega), mu_ne (by omega)]
            by_cases e : i = nr
            · rw [if_pos e, e, mu_same]
            · rw [if_neg e, mu_ne2 e, mu_ne (by omega)]
          have g45 : ∀ i, C5 45 i = if i = nr then nI w else C 45 i := fun i => by
            rw [← hC5, mu_ne (by omega), mu_ne (by omega)]
            by_cases e : i = nr
            · rw [if_pos e, e, mu_same]
            · rw [if_neg e, mu_ne2 e, mu_ne (by omega), mu_ne (by omega)]
          have g46 : ∀ i, C5 46 i = if i = nr then rv_i false else C 46 i := fun i => by
            rw [← hC5, mu_ne (by omega)]
            by_cases e : i = nr
            · rw [if_pos e, e, mu_same]
            · rw [if_neg e, mu_ne2 e, mu_ne (by omega), mu_ne (by omega), mu_ne (by omega)]
          have go : ∀ k, k ≠ 4 → (k < 43 ∨ 46 < k) → C5 k = C k := fun k h1 h2 => by
            rw [← hC5, mu_ne h1, mu_ne (by omega), mu_ne (by omega), mu_ne (by omega), mu_ne (by omega)]
          have g4 : C5 4 6 = nI (nr + 1) := by rw [← hC5, mu_same]
          have eC5 : f8_tryAdd gh C (nI s) (nI v) (nI w) = rv_o2 (f8_findLevels gh C5) (fun r7 M8 => (if r7 = false then rv_lt (rv_u M8 4 6 ((M8 4 6) - 1)) (fun M9 => rv_o2 (f8_findLevels gh M9) (fun r11 M12 => (some ((-1), M12)))) else (some (nI nr, M8)))) := by
            unfold f8_tryAdd
            rw [if_neg (by rw [a3, q_20, q_le (by omega) (by omega)]; omega)]
            simp (disch := omega) only [a3, q_in, if_pos, q_nc, lt_do, mu_ne, q_succ, hC5]
          rw [eC5] at eC
          rw [eR8] at eR
          have rows5 : ∀ i, i < nr + 1 → rrow C5 R8 i := fun i hi => by
            unfold rrow
            rw [g43, g44, g45, g46, f46, f47, f48, f49]
            by_cases e : i = nr
            · rw [if_pos e, if_pos e, if_pos e, if_pos e, if_pos e, if_pos e, if_pos e, if_pos e]
              exact ⟨⟨s, s1, s2, rfl, rfl⟩, ⟨v, v2, rfl, rfl⟩, ⟨w, w2, rfl, rfl⟩, rfl⟩
            · rw [if_neg e, if_neg e, if_neg e, if_neg e, if_neg e, if_neg e, if_neg e, if_neg e]
              exact a5 i (by omega)
          have hd8 := rul_heads (show nr + 1 ≤ 20 by omega) rows5
          obtain ⟨bC, C6, c1, c2, c3, c4, c5⟩ := s8_findLevels (gh := gh) (rul_rules g4 rows5) hd8
          obtain ⟨bR, R9, d1, d2, d3, d4⟩ := s12_laysHeights (M0 := R8) (nr := nr + 1) f45 hd8
          have ebb : bR = bC := by
            rw [Bool.eq_iff_iff, d3, c4]
          subst ebb
          rw [c1, o2_some] at eC
          rw [d1, o2_some] at eR
          cases hb : bR with
          | true =>
            left
            rw [hb] at eC eR
            rw [if_neg (by simp)] at eC
            rw [if_pos rfl] at eR
            have e9 : R9 45 0 = nI (nr + 1) := by rw [d2 45 (by omega)]; exact f45
            have eR' : f12_addRule_139 R9 true (R9 45 0) false = some (nI nr, rv_u (rv_u R9 45 0 (nI (nr + 1))) 66 0 0) := by
              unfold f12_addRule_139
              rw [e9, rvi_f, lt_do, if_pos rfl, show nI (nr + 1) - nI 0 = nI (nr + 1) from q_sub (Nat.zero_le _)]
              show some ((rv_u (rv_u R9 45 0 (nI (nr + 1))) 66 0 0) 45 0 - 1, _) = _
              rw [mu_ne (by omega), mu_same, q_1, q_sub (by omega)]
              rfl
            rw [eR'] at eR
            refine ⟨nI nr, C6, _, ?_, eR, mu_same _ _ _ _, ⟨n, ?_⟩⟩
            · rw [eC, o2_some, if_neg (by rw [q_no, q_no_eq (by omega)]; exact fun z => z)]
            · have k9 : ∀ k, k ≠ 45 → k ≠ 66 → k ≠ 65 → (rv_u (rv_u R9 45 0 (nI (nr + 1))) 66 0 0) k = R8 k := fun k h1 h2 h3 => by rw [mu_ne h2, mu_ne h1, d2 k h3]
              refine Rn_rul hR (fun k h1 h2 => by rw [c2 k (by omega) h1, go k h1 (by omega)]) (fun k hk => by rw [k9 k (by omega) (by omega) (by omega), fo k (by omega) (by omega)]) (by rw [k9 64 (by omega) (by omega) (by omega), fo 64 (by omega) (by omega)]; exact hR.h64) ?_
              refine rul_of (show 1 ≤ nr + 1 by omega) (by omega) (by rw [c3 6 (by omega)]; exact g4) (by rw [mu_ne (by omega), mu_same]) (fun i hi => ?_) ?_ ?_ ?_
              · have := rows5 i hi
                unfold rrow at this ⊢
                rw [c2 43 (by omega) (by omega), c2 44 (by omega) (by omega), c2 45 (by omega) (by omega), c2 46 (by omega) (by omega), k9 46 (by omega) (by omega) (by omega), k9 47 (by omega) (by omega) (by omega), k9 48 (by omega) (by omega) (by omega), k9 49 (by omega) (by omega) (by omega)]
                exact this
              · rw [k9 46 (by omega) (by omega) (by omega), k9 47 (by omega) (by omega) (by omega), k9 48 (by omega) (by omega) (by omega), k9 49 (by omega) (by omega) (by omega)]
                exact c4.mp hb
              · rw [k9 46 (by omega) (by omega) (by omega), k9 47 (by omega) (by omega) (by omega), k9 48 (by omega) (by omega) (by omega), k9 49 (by omega) (by omega) (by omega)]
                exact (c5 hb).1
              · rw [k9 46 (by omega) (by omega) (by omega), k9 47 (by omega) (by omega) (by omega), k9 48 (by omega) (by omega) (by omega), k9 49 (by omega) (by omega) (by omega)]
                exact (c5 hb).2
          | false =>
            right; right
            rw [hb] at eC eR
            rw [if_pos rfl, lt_do] at eC
            rw [if_neg (by simp)] at eR
            have e9 : R9 45 0 = nI (nr + 1) := by rw [d2 45 (by omega)]; exact f45
            have e6 : C6 4 6 = nI (nr + 1) := by rw [c3 6 (by omega)]; exact g4
            have em : nI (nr + 1) - 1 = nI nr := by rw [q_1, q_sub (by omega)]; rfl
            rw [e6, em] at eC
            have eR' : f12_addRule_139 R9 false (R9 45 0) true = some (0, rv_u (rv_u R9 45 0 (nI nr)) 66 0 2) := by
              unfold f12_addRule_139
              rw [e9, rvi_t, lt_do, if_neg (by simp), show nI (nr + 1) - nI 1 = nI nr from em]
              rfl
            rw [eR'] at eR
            -- the class finds the old levels again
            have k6 : ∀ k, k ≠ 4 → k ≠ 47 → (rv_u C6 4 6 (nI nr)) k = C5 k := fun k h1 h2 => by rw [mu_ne h1, c2 k h2 h1]
            have old : rules nr (rv_u C6 4 6 (nI nr)) (R 46) (R 47) (R 48) (R 49) := by
              refine ⟨mu_same _ _ _ _, fun i hi => ?_⟩
              rw [k6 43 (by omega) (by omega), k6 44 (by omega) (by omega), k6 45 (by omega) (by omega), k6 46 (by omega) (by omega), g43, g44, g45, g46, if_neg (by omega), if_neg (by omega), if_neg (by omega), if_neg (by omega)]
              exact (rul_rules a3 a5).2 i hi
            obtain ⟨b2C, C7, x1, x2, x3, x4, x5⟩ := s8_findLevels (gh := gh) old hd
            have hb2 : b2C = true := x4.mpr a6
            rw [x1, o2_some, o2_some, if_pos rfl] at eC
            refine ⟨C7, _, 0, eC, eR, mu_same _ _ _ _, ⟨n, ?_⟩⟩
            have k9 : ∀ k, k ≠ 45 → k ≠ 66 → k ≠ 65 → (rv_u (rv_u R9 45 0 (nI nr)) 66 0 2) k = R8 k := fun k h1 h2 h3 => by rw [mu_ne h2, mu_ne h1, d2 k h3]
            refine Rn_rul hR (fun k h1 h2 => by rw [x2 k (by omega) h1, k6 k h1 (by omega), go k h1 (by omega)]) (fun k hk => by rw [k9 k (by omega) (by omega) (by omega), fo k (by omega) (by omega)]) (by rw [k9 64 (by omega) (by omega) (by omega), fo 64 (by omega) (by omega)]; exact hR.h64) ?_
            have q6 : ∀ i, i < nr → R8 46 i = R 46 i := fun i hi => by rw [f46, if_neg (by omega)]
            have q7 : ∀ i, i < nr → R8 47 i = R 47 i := fun i hi => by rw [f47, if_neg (by omega)]
            have q8 : ∀ i, i < nr → R8 48 i = R 48 i := fun i hi => by rw [f48, if_neg (by omega)]
            have q9 : ∀ i, i < nr → R8 49 i = R 49 i := fun i hi => by rw [f49, if_neg (by omega)]
            have qk := rlk_congr (nr := nr) q6 q7 q8 (fun i hi => congrArg rv_z (q9 i hi)) 16
            refine rul_of a1 a2 (by rw [x3 6 (by omega), mu_same]) (by rw [mu_ne (by omega), mu_same]) (fun i hi => ?_) ?_ ?_ ?_
            · have := a5 i hi
              unfold rrow at this ⊢
              rw [x2 43 (by omega) (by omega), x2 44 (by omega) (by omega), x2 45 (by omega) (by omega), x2 46 (by omega) (by omega), k6 43 (by omega) (by omega), k6 44 (by omega) (by omega), k6 45 (by omega) (by omega), k6 46 (by omega) (by omega), g43, g44, g45, g46, if_neg (by omega), if_neg (by omega), if_neg (by omega), if_neg (by omega), k9 46 (by omega) (by omega) (by omega), k9 47 (by omega) (by omega) (by omega), k9 48 (by omega) (by omega) (by omega), k9 49 (by omega) (by omega) (by omega), q6 i hi, q7 i hi, q8 i hi, q9 i hi]
              exact this
            · rw [k9 46 (by omega) (by omega) (by omega), k9 47 (by omega) (by omega) (by omega), k9 48 (by omega) (by omega) (by omega), k9 49 (by omega) (by omega) (by omega)]
              exact (found_congr q6 q7 q8 (fun i hi => congrArg rv_z (q9 i hi))).mpr a6
            · rw [k9 46 (by omega) (by omega) (by omega), k9 47 (by omega) (by omega) (by omega), k9 48 (by omega) (by omega) (by omega), k9 49 (by omega) (by omega) (by omega), qk]
              exact (x5 hb2).1
            · rw [k9 46 (by omega) (by omega) (by omega), k9 47 (by omega) (by omega) (by omega), k9 48 (by omega) (by omega) (by omega), k9 49 (by omega) (by omega) (by omega), qk]
              exact (x5 hb2).2
      · right; left
        refine bad ?_ ?_
        · unfold f11_addRule
          rw [if_pos (show (8 : Int32) ≤ nI s from s3), if_neg (show ¬ (16 : Int32) ≤ nI s from s4), if_pos (show (0 : Int32) ≤ nI v from v3), if_pos (show nI v < 65536 from v5)]
          rcases w1 with w1 | ⟨w1, w3, -⟩
          · rw [if_neg (show ¬ (0 : Int32) ≤ p3 from w1)]
          · rw [if_pos (show (0 : Int32) ≤ p3 from w1), if_pos (show (65536 : Int32) ≤ p3 from w3)]
        · unfold f12_addRule
          have s6' : f12_isIn (nI s) 8 15 = some true := s6
          have v6' : f12_isIn (nI v) 0 65535 = some true := v6
          have w6' : f12_isIn p3 0 65535 = some false := w2
          rw [s6', o1_some, if_pos rfl, v6', o1_some, if_pos rfl, w6', o1_some, if_neg (by simp)]
    · right; left
      refine bad ?_ ?_
      · unfold f11_addRule
        rw [if_pos (show (8 : Int32) ≤ nI s from s3), if_neg (show ¬ (16 : Int32) ≤ nI s from s4)]
        rcases v1 with v1 | ⟨v1, -, v3⟩
        · rw [if_neg (show ¬ (0 : Int32) ≤ p2 from v1)]
        · rw [if_pos (show (0 : Int32) ≤ p2 from v1), if_neg (show ¬ p2 < 65536 from v3)]
      · unfold f12_addRule
        have s6' : f12_isIn (nI s) 8 15 = some true := s6
        have v6' : f12_isIn p2 0 65535 = some false := v2
        rw [s6', o1_some, if_pos rfl, v6', o1_some, if_neg (by simp)]
  · right; left
    refine bad ?_ ?_
    · unfold f11_addRule
      rcases s1 with s1 | ⟨s1, s3, -⟩
      · rw [if_neg (show ¬ (8 : Int32) ≤ p1 from s1)]
      · rw [if_pos (show (8 : Int32) ≤ p1 from s1), if_pos (show (16 : Int32) ≤ p1 from s3)]
    · unfold f12_addRule
      have s6' : f12_isIn p1 8 15 = some false := s2
      rw [s6', o1_some, if_neg (by simp)]
theorem h_dropRule : ∀ gh MC MR, Rel gh MC MR → ∀ p1, rS_dropRule Rel gh MC MR p1 := fun gh C R h p1 => by
  obtain ⟨n, hR⟩ := h
  obtain ⟨nr, a1, a2, a3, a4, a5, a6, a7, m, b1, b2, b3⟩ := hR.rules'
  have hd := rul_heads a2 a5
  unfold rS_dropRule
  have hR1 : Rn n gh C (rv_u R 66 0 0) := Rn_66 hR
  have r1 := d_range (x := p1) (a := 0) (b := nr) (by omega) (by omega)
  rcases r1 with ⟨u, -, u2, rfl, u3, u4, u5, u6⟩ | ⟨u1, u2⟩
  · obtain ⟨⟨s, s1, s2, s3, s4⟩, -, -, z⟩ := a5 u u2
    have u20 : rv_in (nI u) 20 = true := q_inb (by omega) (by omega)
    have eC : f11_dropRule gh C (nI u) = rv_o2 (if (rv_z (C 46 u)) = true then (some ((-1), C)) else rv_o2 (f8_findLevels gh (rv_u C 46 u (rv_i true))) (fun r3 M4 => (some ((M4 43 u), M4)))) (fun r2 M3 => (if r2 = (-1) then (some (.inr (1, M3))) else (some (.inl (r2, M3))))) := by
      unfold f11_dropRule f8_tryDrop
      rw [if_pos (show (0 : Int32) ≤ nI u from u3), if_pos (by rw [a3]; exact u5)]
      simp only [u20, if_true, q_nc (show u < 2147483648 by omega), lt_do]
    have eR : f12_dropRule R (nI u) = if rv_z (R 49 u) = true then f12_dropRule_41 (rv_u R 66 0 0) (nI u) true else f12_dropRule_41 (rv_u R 66 0 0) (nI u) false := by
      unfold f12_dropRule
      rw [a4]
      have u6' : f12_isIn (nI u) 0 (nI nr - 1) = some true := u6
      rw [u6', o1_some, if_pos rfl]
      unfold f12_dropRule_20
      rw [goes_t]
      simp only [o2_some, if_true, u20, q_nc (show u < 2147483648 by omega), mu_ne (show 49 ≠ 66 by omega)]
    rw [z] at eC
    by_cases hz : rv_z (R 49 u) = true
    · right
      rw [if_pos hz] at eC eR
      exact ⟨C, rv_u (rv_u R 66 0 0) 66 0 1, 0, by rw [eC]; rfl, by rw [eR]; rfl, mu_same _ _ _ _, ⟨n, Rn_66 hR1⟩⟩
    · left
      rw [if_neg hz] at eC eR
      have eR' : f12_dropRule_41 (rv_u R 66 0 0) (nI u) false = some (nI s, rv_u (rv_u (rv_u R 66 0 0) 66 0 0) 49 u (rv_i true)) := by
        unfold f12_dropRule_41
        rw [goes_t]
        simp only [o2_some, bt_f, if_false, u20, if_true, q_nc (show u < 2147483648 by omega), lt_do]
        rw [mu_ne (by omega), mu_ne (by omega), mu_ne (by omega), s4]
      rw [eR'] at eR
      have y : ∀ k, k ≠ 49 → k ≠ 66 → (rv_u (rv_u (rv_u R 66 0 0) 66 0 0) 49 u (rv_i true)) k = R k := fun k h1 h2 => by rw [mu_ne h1, mu_ne h2, mu_ne h2]
      have y49 : ∀ i, (rv_u (rv_u (rv_u R 66 0 0) 66 0 0) 49 u (rv_i true)) 49 i = if i = u then rv_i true else R 49 i := fun i => by
        by_cases e : i = u
        · rw [if_pos e, e, mu_same]
        · rw [if_neg e, mu_ne2 e, mu_ne (by omega), mu_ne (by omega)]
      have x46 : ∀ i, (rv_u C 46 u (rv_i true)) 46 i = if i = u then rv_i true else C 46 i := fun i => by
        by_cases e : i = u
        · rw [if_pos e, e, mu_same]
        · rw [if_neg e, mu_ne2 e]
      have y66 : (rv_u (rv_u (rv_u R 66 0 0) 66 0 0) 49 u (rv_i true)) 66 0 = 0 := by rw [mu_ne (by omega), mu_same]
      generalize (rv_u (rv_u (rv_u R 66 0 0) 66 0 0) 49 u (rv_i true)) = R' at *
      have rows : ∀ i, i < nr → rrow (rv_u C 46 u (rv_i true)) R' i := fun i hi => by
        have := a5 i hi
        unfold rrow at this ⊢
        rw [mu_ne (by omega), mu_ne (by omega), mu_ne (by omega), x46, y49, y 46 (by omega) (by omega), y 47 (by omega) (by omega), y 48 (by omega) (by omega)]
        refine ⟨this.1, this.2.1, this.2.2.1, ?_⟩
        by_cases e : i = u
        · rw [if_pos e, if_pos e]
        · rw [if_neg e, if_neg e]; exact this.2.2.2
      have hd' := rul_heads a2 rows
      have f' : found nr (R' 46) (R' 47) (R' 48) (R' 49) := by
        refine pre_16 (heads_hh hd') (P := rlk nr (R 46) (R 47) (R 48) (R 49) 16) ?_
        rw [pre_iff]
        intro i hi hzi
        rw [y49] at hzi
        rw [y 46 (by omega) (by omega), y 47 (by omega) (by omega), y 48 (by omega) (by omega)]
        by_cases e : i = u
        · rw [if_pos e, rvz_i] at hzi; cases hzi
        · rw [if_neg e] at hzi
          exact pre_iff.mp (fix_pre a6) i hi hzi
      obtain ⟨b, C6, c1, c2, c3, c4, c5⟩ := s8_findLevels (gh := gh) (rul_rules (by rw [mu_ne (by omega)]; exact a3) rows) hd'
      have hb : b = true := c4.mpr f'
      rw [c1, o2_some, o2_some, c2 43 (by omega) (by omega), mu_ne (show 43 ≠ 46 by omega), s3, if_neg (by rw [q_no, q_no_eq (by omega)]; exact fun z => z)] at eC
      refine ⟨nI s, C6, R', eC, eR, ?_, ⟨n, ?_⟩⟩
      · exact y66
      · refine Rn_rul hR (fun k h1 h2 => by rw [c2 k (by omega) h1, mu_ne (by omega)]) (fun k hk => y k (by omega) (by omega)) (by rw [y 64 (by omega) (by omega)]; exact hR.h64) ?_
        refine rul_of a1 a2 (by rw [c3 6 (by omega), mu_ne (by omega)]; exact a3) (by rw [y 45 (by omega) (by omega)]; exact a4) (fun i hi => ?_) f' (c5 hb).1 (c5 hb).2
        have := rows i hi
        unfold rrow at this ⊢
        rw [c2 43 (by omega) (by omega), c2 44 (by omega) (by omega), c2 45 (by omega) (by omega), c2 46 (by omega) (by omega)]
        exact this
  · right
    refine ⟨C, rv_u R 66 0 1, 0, ?_, ?_, mu_same _ _ _ _, ⟨n, Rn_66 hR⟩⟩
    · unfold f11_dropRule f8_tryDrop
      rcases u1 with u1 | ⟨u1, -, u3⟩
      · rw [if_neg (show ¬ (0 : Int32) ≤ p1 from u1)]; rfl
      · rw [if_pos (show (0 : Int32) ≤ p1 from u1), if_neg (by rw [a3]; exact u3)]; rfl
    · unfold f12_dropRule
      rw [a4]
      have u6' : f12_isIn p1 0 (nI nr - 1) = some false := u2
      rw [u6', o1_some, if_neg (by simp)]
      rfl
