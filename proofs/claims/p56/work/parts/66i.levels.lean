/-! HEIGHTS, BOTH SIDES -/
theorem q_max {a b : Nat} (ha : a < 2147483648) (hb : b < 2147483648) : (if nI a < nI b then nI b else nI a) = nI (max a b) := by
  simp only [q_lt ha hb]
  by_cases c : a < b
  · rw [if_pos c, show max a b = b by omega]
  · rw [if_neg c, show max a b = a by omega]
def isH (c : Nat → Int32) (h : Nat → Nat) : Prop := ∀ s, s < 16 → c s = nI (h s)
theorem rlh_b {r47 r48 : Nat → Int32} {h : Nat → Nat} {u B : Nat} (hB : ∀ s, h s ≤ B) : rlh r47 r48 h u ≤ B + 1 := by
  rw [rlh_le]
  intro s _ _
  unfold tm
  have := hB s
  split
  · omega
  · split <;> omega
theorem up_tm_b {r47 r48 : Nat → Int32} {h : Nat → Nat} {u B : Nat} (hB : ∀ s, h s ≤ B) (d : Nat) : up (fun s a => max a (tm r47 r48 h u s)) d 8 0 ≤ B + 1 := by
  rw [up_max_le]
  refine ⟨Nat.zero_le _, fun s _ _ => ?_⟩
  unfold tm
  have := hB s
  split
  · omega
  · split <;> omega
theorem s8_levelNeeded {gh : rC_gh} {M : rv_Mem} {r47 r48 : Nat → Int32} {h : Nat → Nat} {u B : Nat} (hu : u < 20) (e44 : M 44 u = r47 u) (e45 : M 45 u = r48 u) (hH : isH (M 47) h) (hB : ∀ s, h s ≤ B) (hB2 : B < 100000) : f8_levelNeeded gh M (nI u) = some (nI (rlh r47 r48 h u)) := by
  have L := rv_ui (z := (fun _ _ _ => none)) (F := f8_levelNeeded_5_s gh M) (fun t j (a : Nat) => t (nI u) (nI a) (nI j)) 16 (fun j a => 8 ≤ j ∧ a = up (fun s a => max a (tm r47 r48 h u s)) (j - 8) 8 0) (fun a => some (nI a)) ?_ ?_ rv_FU 8 0 (by omega) (FU_lt (by omega)) ⟨Nat.le_refl _, rfl⟩
  · obtain ⟨a, ⟨-, rfl⟩, x2⟩ := L
    exact x2
  · rintro t j a hj ⟨h8, rfl⟩
    have ab := up_tm_b (r47 := r47) (r48 := r48) (u := u) hB (j - 8)
    generalize ha : up (fun s a => max a (tm r47 r48 h u s)) (j - 8) 8 0 = a at ab
    have hj1 := hB j
    have e : up (fun s a => max a (tm r47 r48 h u s)) (j + 1 - 8) 8 0 = max a (tm r47 r48 h u j) := by
      rw [show j + 1 - 8 = (j - 8) + 1 by omega, up_snoc, ha, show 8 + (j - 8) = j by omega]
    refine ⟨max a (tm r47 r48 h u j), ⟨by omega, e.symm⟩, ?_⟩
    show f8_levelNeeded_5_s gh M t (nI u) (nI a) (nI j) = t (nI u) (nI (max a (tm r47 r48 h u j))) (nI (j + 1))
    unfold f8_levelNeeded_5_s f8_levelNeeded_35 f8_levelNeeded_61 tm
    have h16 : rv_in (nI j) 16 = true := q_inb hj (by omega)
    have h20 : rv_in (nI u) 20 = true := q_inb hu (by omega)
    have hjh := hH j hj
    rw [if_pos (by rw [q_16, q_lt (by omega) (by omega)]; exact hj)]
    simp only [h16, h20, if_true, q_nc (show u < 2147483648 by omega), q_nc (show j < 2147483648 by omega), e44, e45, hjh, s11_isIn (show j < 32 by omega), o1_some, q_succ]
    rw [q_max (by omega) (by omega)]
    have q2 : ∀ x, x ≤ 200000 → (if nI x < nI (h j + 1) then nI (h j + 1) else nI x) = nI (max x (h j + 1)) := fun x hx => q_max (by omega) (by omega)
    rw [q2 a (by omega), q2 (max a (h j)) (by omega)]
    cases bt (r47 u) j with
    | true =>
      cases bt (r48 u) j with
      | true =>
        simp only [if_true]
        rw [show max (max a (h j)) (h j + 1) = max a (h j + 1) by omega]
      | false => simp only [bf_t, if_true, if_false]
    | false =>
      cases bt (r48 u) j with
      | true => simp only [bf_t, if_true, if_false]
      | false => simp only [bf_t, if_false]; rw [show max a 0 = a by omega]
  · rintro t a -
    show f8_levelNeeded_5_s gh M t (nI u) (nI a) (nI 16) = _
    unfold f8_levelNeeded_5_s
    rw [if_neg (by rw [q_16, q_lt (by omega) (by omega)]; omega)]
theorem s12_leastHeight {M : rv_Mem} {h : Nat → Nat} {u B : Nat} (hu : u < 20) (hH : isH (M 65) h) (hB : ∀ s, h s ≤ B) (hB2 : B < 100000) : f12_leastHeight M (nI u) = some (nI (rlh (M 47) (M 48) h u)) := by
  have L := rv_ui (z := (fun _ _ _ => none)) (F := f12_leastHeight_5_s M) (fun t j (a : Nat) => t (nI u) (nI a) (nI j)) 16 (fun j a => 8 ≤ j ∧ a = up (fun s a => max a (tm (M 47) (M 48) h u s)) (j - 8) 8 0) (fun a => some (nI a)) ?_ ?_ rv_FU 8 0 (by omega) (FU_lt (by omega)) ⟨Nat.le_refl _, rfl⟩
  · obtain ⟨a, ⟨-, rfl⟩, x2⟩ := L
    exact x2
  · rintro t j a hj ⟨h8, rfl⟩
    have ab := up_tm_b (r47 := M 47) (r48 := M 48) (u := u) hB (j - 8)
    generalize ha : up (fun s a => max a (tm (M 47) (M 48) h u s)) (j - 8) 8 0 = a at ab
    have hj1 := hB j
    have e : up (fun s a => max a (tm (M 47) (M 48) h u s)) (j + 1 - 8) 8 0 = max a (tm (M 47) (M 48) h u j) := by
      rw [show j + 1 - 8 = (j - 8) + 1 by omega, up_snoc, ha, show 8 + (j - 8) = j by omega]
    refine ⟨max a (tm (M 47) (M 48) h u j), ⟨by omega, e.symm⟩, ?_⟩
    show f12_leastHeight_5_s M t (nI u) (nI a) (nI j) = t (nI u) (nI (max a (tm (M 47) (M 48) h u j))) (nI (j + 1))
    have h16 : rv_in (nI j) 16 = true := q_inb hj (by omega)
    have h20 : rv_in (nI u) 20 = true := q_inb hu (by omega)
    have hjh := hH j hj
    have e84 : ∀ v, v < 2147483648 → f12_leastHeight_84 M t (nI u) (nI a) (nI j) (nI v) = t (nI u) (nI (max a v)) (nI (j + 1)) := fun v hv => by
      unfold f12_leastHeight_84 f12_leastHeight_98
      simp (disch := omega) only [q_lt, q_succ]
      by_cases c : a < v
      · rw [if_pos c, show max a v = v by omega]
      · rw [if_neg c, show max a v = a by omega]
    unfold f12_leastHeight_5_s f12_leastHeight_30 f12_leastHeight_51 tm
    rw [if_pos (by rw [q_16, q_lt (by omega) (by omega)]; exact hj)]
    simp only [h16, h20, if_true, q_nc (show u < 2147483648 by omega), q_nc (show j < 2147483648 by omega), hjh, b_test (show j < 32 by omega), q_succ]
    have e0 : f12_leastHeight_84 M t (nI u) (nI a) (nI j) 0 = t (nI u) (nI (max a 0)) (nI (j + 1)) := e84 0 (by omega)
    rw [e84 (h j + 1) (by omega), e84 (h j) (by omega), e0]
    cases bt (M 47 u) j <;> cases bt (M 48 u) j <;> rfl
  · rintro t a -
    show f12_leastHeight_5_s M t (nI u) (nI a) (nI 16) = _
    unfold f12_leastHeight_5_s
    rw [if_neg (by rw [q_16, q_lt (by omega) (by omega)]; omega)]
theorem rl1_b {r46 r47 r48 r49 : Nat → Int32} {h : Nat → Nat} {u B : Nat} (hB : ∀ s, h s ≤ B) (s : Nat) : rl1 r46 r47 r48 r49 u h s ≤ B + 1 := by
  unfold rl1
  have h1 := rlh_b (r47 := r47) (r48 := r48) (u := u) hB
  have h2 := hB s
  split <;> omega
theorem up_rl1_b {r46 r47 r48 r49 : Nat → Int32} : ∀ (d k : Nat) (h : Nat → Nat) (B : Nat), (∀ s, h s ≤ B) → ∀ s, up (rl1 r46 r47 r48 r49) d k h s ≤ B + d := by
  intro d
  induction d with
  | zero => intro k h B hB s; exact hB s
  | succ d ih =>
    intro k h B hB s
    have := ih (k + 1) _ (B + 1) (fun s => rl1_b (r46 := r46) (r47 := r47) (r48 := r48) (r49 := r49) (u := k) hB s) s
    show up (rl1 r46 r47 r48 r49) d (k + 1) (rl1 r46 r47 r48 r49 k h) s ≤ B + (d + 1)
    omega
theorem rlk_b {nr : Nat} {r46 r47 r48 r49 : Nat → Int32} : ∀ k s, rlk nr r46 r47 r48 r49 k s ≤ nr * k := by
  intro k
  induction k with
  | zero => intro s; exact Nat.zero_le _
  | succ k ih =>
    intro s
    have := up_rl1_b (r46 := r46) (r47 := r47) (r48 := r48) (r49 := r49) nr 0 _ _ ih s
    rw [Nat.mul_succ]
    exact this
/-- rules as both sides have them -/
def rules (nr : Nat) (M : rv_Mem) (r46 r47 r48 r49 : Nat → Int32) : Prop := M 4 6 = nI nr ∧ ∀ i, i < nr → M 43 i = r46 i ∧ M 44 i = r47 i ∧ M 45 i = r48 i ∧ rv_z (M 46 i) = rv_z (r49 i)
def heads (nr : Nat) (r46 : Nat → Int32) : Prop := nr ≤ 20 ∧ ∀ i, i < nr → ∃ s, 8 ≤ s ∧ s < 16 ∧ r46 i = nI s
theorem heads_hh {nr : Nat} {r46 : Nat → Int32} (h : heads nr r46) : ∀ u, u < nr → 8 ≤ (r46 u).toNatClampNeg ∧ (r46 u).toNatClampNeg < 16 := fun u hu => by
  obtain ⟨s, s1, s2, s3⟩ := h.2 u hu
  rw [s3, q_nc (by omega)]
  exact ⟨s1, s2⟩
def mx (h : Nat → Nat) : Nat := up (fun s a => max a (h s)) 8 8 0
theorem isH_u {M : rv_Mem} {k : Nat} {r46 r47 r48 r49 : Nat → Int32} {h : Nat → Nat} {u hd : Nat} (hH : isH (M k) h) (e : r46 u = nI hd) (hhd : hd < 16) (hz : rv_z (r49 u) = false) : isH (rv_u M k hd (nI (max (h hd) (rlh r47 r48 h u))) k) (rl1 r46 r47 r48 r49 u h) := by
  intro s hs
  unfold rl1
  rw [e, q_nc (by omega)]
  by_cases c : s = hd
  · subst c
    rw [mu_same, if_pos ⟨rfl, hz⟩]
  · rw [mu_ne2 c, if_neg (fun z => c z.1)]
    exact hH s hs
theorem rl1_d {r46 r47 r48 r49 : Nat → Int32} {h : Nat → Nat} {u : Nat} (hz : rv_z (r49 u) = true) : rl1 r46 r47 r48 r49 u h = h := by
  funext s
  unfold rl1
  rw [hz, if_neg (fun z => by cases z.2)]
theorem rl1_no {r46 r47 r48 r49 : Nat → Int32} {h : Nat → Nat} {u hd : Nat} (e : r46 u = nI hd) (hhd : hd < 16) (hz : rlh r47 r48 h u ≤ h hd) : rl1 r46 r47 r48 r49 u h = h := by
  funext s
  unfold rl1
  rw [e, q_nc (by omega)]
  by_cases c : s = hd ∧ rv_z (r49 u) = false
  · rw [if_pos c, c.1]; omega
  · rw [if_neg c]
/-- one round of the class -/
theorem s8_round {gh : rC_gh} {k12 : rv_Mem → Bool → Int32 → Option (Bool × rv_Mem)} {M0 : rv_Mem} {nr k : Nat} {r46 r47 r48 r49 : Nat → Int32} (hr : rules nr M0 r46 r47 r48 r49) (hh : heads nr r46) (hk : k ≤ 17) (h0 : isH (M0 47) (rlk nr r46 r47 r48 r49 k)) :
    ∃ M' b, f8_findLevels_26 gh k12 rv_FU M0 false (nI k) 0 = k12 M' b (nI (k + 1)) ∧ (∀ q, q ≠ 47 → M' q = M0 q) ∧ isH (M' 47) (rlk nr r46 r47 r48 r49 (k + 1)) ∧ (b = false → rlr nr r46 r47 r48 r49 (rlk nr r46 r47 r48 r49 k) = rlk nr r46 r47 r48 r49 k) ∧ (b = true → rlr nr r46 r47 r48 r49 (rlk nr r46 r47 r48 r49 k) ≠ rlk nr r46 r47 r48 r49 k) := by
  have hn := hh.1
  have kb := rlk_b (nr := nr) (r46 := r46) (r47 := r47) (r48 := r48) (r49 := r49) k
  have nk : nr * k ≤ 340 := by
    have := Nat.mul_le_mul hn hk
    omega
  have L := rv_ui (z := (fun _ _ _ _ => none)) (F := f8_findLevels_26_s gh k12) (fun t j (s : rv_Mem × Bool) => t s.1 s.2 (nI k) (nI j)) nr (fun j s => (∀ q, q ≠ 47 → s.1 q = M0 q) ∧ isH (s.1 47) (up (rl1 r46 r47 r48 r49) j 0 (rlk nr r46 r47 r48 r49 k)) ∧ (s.2 = false → up (rl1 r46 r47 r48 r49) j 0 (rlk nr r46 r47 r48 r49 k) = rlk nr r46 r47 r48 r49 k) ∧ (s.2 = true → ∃ q, rlk nr r46 r47 r48 r49 k q < up (rl1 r46 r47 r48 r49) j 0 (rlk nr r46 r47 r48 r49 k) q)) (fun s => k12 s.1 s.2 (nI (k + 1))) ?_ ?_ rv_FU 0 (M0, false) (Nat.zero_le _) (FU_lt (by omega)) ⟨fun _ _ => rfl, h0, fun _ => rfl, fun h => by cases h⟩
  · obtain ⟨⟨M', b⟩, ⟨x1, x2, x3, x4⟩, x5⟩ := L
    refine ⟨M', b, x5, x1, x2, x3, fun hb e => ?_⟩
    obtain ⟨q, hq⟩ := x4 hb
    have e : up (rl1 r46 r47 r48 r49) nr 0 (rlk nr r46 r47 r48 r49 k) = rlk nr r46 r47 r48 r49 k := e
    rw [e] at hq
    omega
  · rintro t j ⟨M, b⟩ hj ⟨i1, i2, i3, i4⟩
    have i1 : ∀ q, q ≠ 47 → M q = M0 q := i1
    have i2 : isH (M 47) (up (rl1 r46 r47 r48 r49) j 0 (rlk nr r46 r47 r48 r49 k)) := i2
    have i3 : b = false → up (rl1 r46 r47 r48 r49) j 0 (rlk nr r46 r47 r48 r49 k) = rlk nr r46 r47 r48 r49 k := i3
    have i4 : b = true → ∃ q, rlk nr r46 r47 r48 r49 k q < up (rl1 r46 r47 r48 r49) j 0 (rlk nr r46 r47 r48 r49 k) q := i4
    have es : up (rl1 r46 r47 r48 r49) (j + 1) 0 (rlk nr r46 r47 r48 r49 k) = rl1 r46 r47 r48 r49 j (up (rl1 r46 r47 r48 r49) j 0 (rlk nr r46 r47 r48 r49 k)) := by rw [up_snoc, Nat.zero_add]
    have hb := up_rl1_b (r46 := r46) (r47 := r47) (r48 := r48) (r49 := r49) j 0 _ _ kb
    have hinf := up_infl (r46 := r46) (r47 := r47) (r48 := r48) (r49 := r49) j 0 (rlk nr r46 r47 r48 r49 k)
    rw [es]
    generalize up (rl1 r46 r47 r48 r49) j 0 (rlk nr r46 r47 r48 r49 k) = h at *
    obtain ⟨hd, hd1, hd2, hd3⟩ := hh.2 j hj
    obtain ⟨g1, g2, g3, g4⟩ := hr.2 j hj
    have m6 : M 4 6 = nI nr := by rw [i1 4 (by omega)]; exact hr.1
    have h20 : rv_in (nI j) 20 = true := q_inb (by omega) (by omega)
    have h16 : rv_in (nI hd) 16 = true := q_inb hd2 (by omega)
    have f43 : M 43 j = nI hd := by rw [i1 43 (by omega), g1, hd3]
    have ht : M 47 hd = nI (h hd) := i2 hd hd2
    have lb := rlh_b (r47 := r47) (r48 := r48) (u := j) hb
    have bb := hb hd
    have e52 : ∀ v, v < 2147483648 → f8_findLevels_52 gh k12 t M b (nI k) (nI j) (nI v) = if h hd < v then t (rv_u M 47 hd (nI v)) true (nI k) (nI (j + 1)) else t M b (nI k) (nI (j + 1)) := fun v hv => by
      unfold f8_findLevels_52 f8_findLevels_85
      simp only [h20, if_true, q_nc (show j < 2147483648 by omega), f43, h16, q_nc (show hd < 2147483648 by omega), ht, lt_do, q_succ]
      simp only [q_lt (show h hd < 2147483648 by omega) hv]
    have step : f8_findLevels_26_s gh k12 t M b (nI k) (nI j) = if rv_z (r49 j) = true then f8_findLevels_52 gh k12 t M b (nI k) (nI j) (nI 0) else f8_findLevels_52 gh k12 t M b (nI k) (nI j) (nI (rlh r47 r48 h j)) := by
      unfold f8_findLevels_26_s
      rw [if_pos (by rw [m6, q_lt (by omega) (by omega)]; exact hj), if_pos h20, q_nc (by omega), i1 46 (by omega), g4, s8_levelNeeded (r47 := r47) (r48 := r48) (h := h) (B := nr * k + j) (by omega) (by rw [i1 44 (by omega)]; exact g2) (by rw [i1 45 (by omega)]; exact g3) i2 hb (by omega), o1_some]
      rfl
    show ∃ a' : rv_Mem × Bool, _ ∧ f8_findLevels_26_s gh k12 t M b (nI k) (nI j) = _
    rw [step]
    by_cases hz : rv_z (r49 j) = true
    · refine ⟨(M, b), ⟨i1, ?_, ?_, ?_⟩, by rw [if_pos hz, e52 0 (by omega), if_neg (by omega)]⟩
      · rw [rl1_d hz]; exact i2
      · rw [rl1_d hz]; exact i3
      · rw [rl1_d hz]; exact i4
    · have hz' : rv_z (r49 j) = false := by simpa using hz
      rw [if_neg hz, e52 _ (by omega)]
      by_cases c : h hd < rlh r47 r48 h j
      · rw [if_pos c]
        have hu := isH_u (r49 := r49) (r47 := r47) (r48 := r48) i2 hd3 hd2 hz'
        rw [show max (h hd) (rlh r47 r48 h j) = rlh r47 r48 h j by omega] at hu
        refine ⟨(rv_u M 47 hd (nI (rlh r47 r48 h j)), true), ⟨fun q hq => by show rv_u M 47 hd _ q = _; rw [mu_ne hq]; exact i1 q hq, hu, fun z => (by cases z), fun _ => ⟨hd, ?_⟩⟩, rfl⟩
        have h1 := hinf hd
        unfold rl1
        rw [hd3, q_nc (by omega), if_pos ⟨rfl, hz'⟩]
        omega
      · rw [if_neg c]
        have e1 := rl1_no (r49 := r49) (r47 := r47) (r48 := r48) hd3 hd2 (show rlh r47 r48 h j ≤ h hd by omega)
        refine ⟨(M, b), ⟨i1, ?_, ?_, ?_⟩, rfl⟩
        · rw [e1]; exact i2
        · rw [e1]; exact i3
        · rw [e1]; exact i4
  · rintro t ⟨M, b⟩ ⟨i1, -⟩
    have i1 : ∀ q, q ≠ 47 → M q = M0 q := i1
    show f8_findLevels_26_s gh k12 t M b (nI k) (nI nr) = _
    unfold f8_findLevels_26_s
    rw [if_neg (by rw [i1 4 (by omega), hr.1, q_lt (by omega) (by omega)]; omega), q_succ]
