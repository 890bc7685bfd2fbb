/-! HEIGHTS, BOTH SIDES, WHOLE -/
/-- that the heights can be found -/
def found (nr : Nat) (r46 r47 r48 r49 : Nat → Int32) : Prop := rlr nr r46 r47 r48 r49 (rlk nr r46 r47 r48 r49 16) = rlk nr r46 r47 r48 r49 16
theorem mx_ge {h : Nat → Nat} {s : Nat} (h1 : 8 ≤ s) (h2 : s < 16) : h s ≤ mx h := (up_max_le (f := h) 8 8 0).mp (Nat.le_refl _) |>.2 s h1 h2
theorem mx_le {h : Nat → Nat} {B : Nat} (hB : ∀ s, h s ≤ B) : mx h ≤ B := (up_max_le (f := h) 8 8 0).mpr ⟨Nat.zero_le _, fun j _ _ => hB j⟩
theorem up_max_at {f : Nat → Nat} : ∀ (d k a : Nat), up (fun s a => max a (f s)) d k a = a ∨ ∃ j, k ≤ j ∧ j < k + d ∧ up (fun s a => max a (f s)) d k a = f j := by
  intro d
  induction d with
  | zero => intro k a; exact Or.inl rfl
  | succ d ih =>
    intro k a
    rcases ih (k + 1) (max a (f k)) with h | ⟨j, j1, j2, j3⟩
    · by_cases c : a < f k
      · right
        refine ⟨k, Nat.le_refl _, by omega, ?_⟩
        show up (fun s a => max a (f s)) d (k + 1) (max a (f k)) = f k
        rw [h]; omega
      · left
        show up (fun s a => max a (f s)) d (k + 1) (max a (f k)) = a
        rw [h]; omega
    · right
      exact ⟨j, by omega, by omega, j3⟩
theorem mx_at (h : Nat → Nat) : mx h = 0 ∨ ∃ s, 8 ≤ s ∧ s < 16 ∧ h s = mx h := by
  rcases up_max_at (f := h) 8 8 0 with h1 | ⟨j, j1, j2, j3⟩
  · exact Or.inl h1
  · exact Or.inr ⟨j, j1, by omega, j3.symm⟩
theorem s8_highest {gh : rC_gh} {M0 : rv_Mem} {h : Nat → Nat} {B : Nat} (b : Bool) (hH : isH (M0 47) h) (hB : ∀ s, h s ≤ B) (hB2 : B < 100000) :
    f8_findLevels_97 gh M0 b = some (!b, rv_u M0 4 5 (nI (mx h))) := by
  have L := rv_ui (z := (fun _ _ _ => none)) (F := f8_findLevels_105_s gh) (fun t j (a : Nat) => t (rv_u M0 4 5 (nI a)) b (nI j)) 16 (fun j a => 8 ≤ j ∧ a = up (fun s a => max a (h s)) (j - 8) 8 0) (fun a => some (!b, rv_u M0 4 5 (nI a))) ?_ ?_ rv_FU 8 0 (by omega) (FU_lt (by omega)) ⟨Nat.le_refl _, rfl⟩
  · obtain ⟨a, ⟨-, rfl⟩, x2⟩ := L
    rw [show (16 - 8 : Nat) = 8 from rfl] at x2
    unfold f8_findLevels_97 mx
    rw [lt_do]
    exact x2
  · rintro t j a hj ⟨h8, rfl⟩
    have ab : up (fun s a => max a (h s)) (j - 8) 8 0 ≤ B := (up_max_le (f := h) _ 8 0).mpr ⟨Nat.zero_le _, fun i _ _ => hB i⟩
    generalize ha : up (fun s a => max a (h s)) (j - 8) 8 0 = a at ab
    have hj1 := hB j
    refine ⟨max a (h j), ⟨by omega, by rw [show j + 1 - 8 = (j - 8) + 1 by omega, up_snoc, ha, show 8 + (j - 8) = j by omega]⟩, ?_⟩
    show f8_findLevels_105_s gh t (rv_u M0 4 5 (nI a)) b (nI j) = _
    unfold f8_findLevels_105_s
    have hjh := hH j hj
    rw [if_pos (by rw [q_16, q_lt (by omega) (by omega)]; exact hj), if_pos (q_inb hj (by omega)), q_nc (by omega), mu_same, mu_ne (show 47 ≠ 4 by omega), hjh, q_max (by omega) (by omega), q_succ]
    show t (rv_u (rv_u M0 4 5 (nI a)) 4 5 (nI (max a (h j)))) b (nI (j + 1)) = _
    congr 1
    funext x y
    unfold rv_u
    split <;> rfl
  · rintro t a -
    show f8_findLevels_105_s gh t (rv_u M0 4 5 (nI a)) b (nI 16) = _
    unfold f8_findLevels_105_s
    rw [if_neg (by rw [q_16, q_lt (by omega) (by omega)]; omega)]
    cases b <;> rfl
theorem s8_findLevels {gh : rC_gh} {M0 : rv_Mem} {nr : Nat} {r46 r47 r48 r49 : Nat → Int32} (hr : rules nr M0 r46 r47 r48 r49) (hh : heads nr r46) :
    ∃ b M', f8_findLevels gh M0 = some (b, M') ∧ (∀ q, q ≠ 47 → q ≠ 4 → M' q = M0 q) ∧ (∀ j, j ≠ 5 → M' 4 j = M0 4 j) ∧ (b = true ↔ found nr r46 r47 r48 r49) ∧ (b = true → isH (M' 47) (rlk nr r46 r47 r48 r49 16) ∧ M' 4 5 = nI (mx (rlk nr r46 r47 r48 r49 16))) := by
  obtain ⟨M1, g1, g2, g3, -⟩ := sJ_fill (gh := gh) (C := M0) (k := 47) (L := 16) 0 rfl rfl (by omega)
  have hn := hh.1
  have hhh := heads_hh hh
  have L := rv_ux (z := (fun _ _ _ => none)) (F := f8_findLevels_12_s gh) (fun t k (s : rv_Mem × Bool) => t s.1 s.2 (nI k)) 17 (fun k s => (∀ q, q ≠ 47 → s.1 q = M0 q) ∧ isH (s.1 47) (rlk nr r46 r47 r48 r49 k) ∧ (s.2 = false → 1 ≤ k ∧ rlr nr r46 r47 r48 r49 (rlk nr r46 r47 r48 r49 (k - 1)) = rlk nr r46 r47 r48 r49 (k - 1)) ∧ (s.2 = true → k = 0 ∨ rlr nr r46 r47 r48 r49 (rlk nr r46 r47 r48 r49 (k - 1)) ≠ rlk nr r46 r47 r48 r49 (k - 1)))
    (fun r => ∃ M2 b k, k ≤ 17 ∧ r = f8_findLevels_97 gh M2 b ∧ (∀ q, q ≠ 47 → M2 q = M0 q) ∧ isH (M2 47) (rlk nr r46 r47 r48 r49 k) ∧ (b = false → found nr r46 r47 r48 r49 ∧ rlk nr r46 r47 r48 r49 k = rlk nr r46 r47 r48 r49 16) ∧ (b = true → ¬ found nr r46 r47 r48 r49)) ?_ ?_ rv_FU 0 (M1, true) (Nat.zero_le _) (FU_lt (by omega)) ⟨g2, fun s hs => g3 s hs, fun z => (by cases z), fun _ => Or.inl rfl⟩
  · obtain ⟨M2, b, k, hk, x1, x2, x3, x4, x5⟩ := L
    have kb := rlk_b (nr := nr) (r46 := r46) (r47 := r47) (r48 := r48) (r49 := r49) k
    have nk : nr * k ≤ 340 := by
      have := Nat.mul_le_mul hn hk
      omega
    have hq := s8_highest (gh := gh) b x3 kb (by omega)
    refine ⟨!b, rv_u M2 4 5 (nI (mx (rlk nr r46 r47 r48 r49 k))), ?_, fun q h1 h2 => by rw [mu_ne h2]; exact x2 q h1, fun j hj => by rw [mu_ne2 hj, x2 4 (by omega)], ?_, fun hb => ?_⟩
    · unfold f8_findLevels
      show rv_o1 (fJ_fill gh M0 47 0) _ = _
      rw [g1, o1_some]
      exact x1.trans hq
    · cases b with
      | false => exact ⟨fun _ => (x4 rfl).1, fun _ => rfl⟩
      | true => exact ⟨fun z => (by cases z), fun z => absurd z (x5 rfl)⟩
    · have hb : b = false := by simpa using hb
      rw [← (x4 hb).2, mu_ne (by omega), mu_same]
      exact ⟨x3, rfl⟩
  · rintro t k ⟨M, b⟩ hk ⟨i1, i2, i3, i4⟩
    have i1 : ∀ q, q ≠ 47 → M q = M0 q := i1
    have i2 : isH (M 47) (rlk nr r46 r47 r48 r49 k) := i2
    show (∃ M2 b2 k2, _ ∧ f8_findLevels_12_s gh t M b (nI k) = _ ∧ _) ∨ ∃ a' : rv_Mem × Bool, _ ∧ f8_findLevels_12_s gh t M b (nI k) = _
    have step : f8_findLevels_12_s gh t M b (nI k) = if b = true then f8_findLevels_26 gh t rv_FU M false (nI k) 0 else f8_findLevels_97 gh M b := by
      unfold f8_findLevels_12_s
      rw [if_pos (by rw [q_16, q_le (by omega) (by omega)]; omega)]
    rw [step]
    cases b with
    | true =>
      have i1 : ∀ q, q ≠ 47 → M q = M0 q := i1
      right
      rw [if_pos rfl]
      obtain ⟨M', b', x1, x2, x3, x4, x5⟩ := s8_round (gh := gh) (k12 := t) (M0 := M) (r47 := r47) (r48 := r48) (r49 := r49) ⟨by rw [i1 4 (by omega)]; exact hr.1, fun i hi => by rw [i1 43 (by omega), i1 44 (by omega), i1 45 (by omega), i1 46 (by omega)]; exact hr.2 i hi⟩ hh (show k ≤ 17 by omega) i2
      exact ⟨(M', b'), ⟨fun q hq => by show M' q = _; rw [x2 q hq, i1 q hq], x3, fun z => ⟨by omega, x4 z⟩, fun z => Or.inr (x5 z)⟩, x1⟩
    | false =>
      left
      obtain ⟨k1, hfix⟩ := i3 rfl
      have f16 := fix_16 hhh hfix
      have ek : rlk nr r46 r47 r48 r49 k = rlk nr r46 r47 r48 r49 (k - 1) := by
        rw [show k = (k - 1) + 1 by omega, rlk_s, hfix]
        rfl
      exact ⟨M, false, k, by omega, by rw [if_neg (by simp)], i1, i2, fun _ => ⟨f16.2, by rw [ek, f16.1]⟩, fun z => (by cases z)⟩
  · rintro t ⟨M, b⟩ ⟨i1, i2, i3, i4⟩
    have i1 : ∀ q, q ≠ 47 → M q = M0 q := i1
    have i2 : isH (M 47) (rlk nr r46 r47 r48 r49 17) := i2
    have i3 : b = false → 1 ≤ 17 ∧ rlr nr r46 r47 r48 r49 (rlk nr r46 r47 r48 r49 16) = rlk nr r46 r47 r48 r49 16 := i3
    have i4 : b = true → 17 = 0 ∨ rlr nr r46 r47 r48 r49 (rlk nr r46 r47 r48 r49 16) ≠ rlk nr r46 r47 r48 r49 16 := i4
    refine ⟨M, b, 17, Nat.le_refl _, ?_, i1, i2, fun hb => ⟨(i3 hb).2, (i3 hb).2⟩, fun hb z => ?_⟩
    · show f8_findLevels_12_s gh t M b (nI 17) = _
      unfold f8_findLevels_12_s
      rw [if_neg (by rw [q_16, q_le (by omega) (by omega)]; omega)]
    · rcases i4 hb with h | h
      · omega
      · exact h z
/-- one round of the reference -/
theorem s12_round {k25 : rv_Mem → Bool → Int32 → Option (Bool × rv_Mem)} {M0 : rv_Mem} {nr k hi0 : Nat} (h45 : M0 45 0 = nI nr) (hh : heads nr (M0 46)) (hk : k ≤ 1000) (h0 : isH (M0 65) (rlk nr (M0 46) (M0 47) (M0 48) (M0 49) k)) (hi1 : hi0 ≤ 30000) (hle : ∀ s, rlk nr (M0 46) (M0 47) (M0 48) (M0 49) k s ≤ hi0) (hf : found nr (M0 46) (M0 47) (M0 48) (M0 49) → hi0 ≤ 8) :
    ∃ M' b hi, f12_laysHeights_39 k25 rv_FU M0 false (nI hi0) 0 = k25 M' b (nI hi) ∧ (∀ q, q ≠ 65 → M' q = M0 q) ∧ isH (M' 65) (rlk nr (M0 46) (M0 47) (M0 48) (M0 49) (k + 1)) ∧ (b = false → rlr nr (M0 46) (M0 47) (M0 48) (M0 49) (rlk nr (M0 46) (M0 47) (M0 48) (M0 49) k) = rlk nr (M0 46) (M0 47) (M0 48) (M0 49) k) ∧ (b = true → rlr nr (M0 46) (M0 47) (M0 48) (M0 49) (rlk nr (M0 46) (M0 47) (M0 48) (M0 49) k) ≠ rlk nr (M0 46) (M0 47) (M0 48) (M0 49) k) ∧ hi ≤ hi0 + nr ∧ (∀ s, rlk nr (M0 46) (M0 47) (M0 48) (M0 49) (k + 1) s ≤ hi) ∧ (found nr (M0 46) (M0 47) (M0 48) (M0 49) → hi ≤ 8) := by
  have hn := hh.1
  have hhh := heads_hh hh
  generalize e46 : M0 46 = r46 at *
  generalize e47 : M0 47 = r47 at *
  generalize e48 : M0 48 = r48 at *
  generalize e49 : M0 49 = r49 at *
  have L := rv_ui (z := (fun _ _ _ _ => none)) (F := f12_laysHeights_39_s k25) (fun t j (s : rv_Mem × Bool × Nat) => t s.1 s.2.1 (nI s.2.2) (nI j)) nr (fun j s => (∀ q, q ≠ 65 → s.1 q = M0 q) ∧ isH (s.1 65) (up (rl1 r46 r47 r48 r49) j 0 (rlk nr r46 r47 r48 r49 k)) ∧ (s.2.1 = false → up (rl1 r46 r47 r48 r49) j 0 (rlk nr r46 r47 r48 r49 k) = rlk nr r46 r47 r48 r49 k) ∧ (s.2.1 = true → ∃ q, rlk nr r46 r47 r48 r49 k q < up (rl1 r46 r47 r48 r49) j 0 (rlk nr r46 r47 r48 r49 k) q) ∧ s.2.2 ≤ hi0 + j ∧ (∀ q, up (rl1 r46 r47 r48 r49) j 0 (rlk nr r46 r47 r48 r49 k) q ≤ s.2.2) ∧ (found nr r46 r47 r48 r49 → s.2.2 ≤ 8)) (fun s => k25 s.1 s.2.1 (nI s.2.2)) ?_ ?_ rv_FU 0 (M0, false, hi0) (Nat.zero_le _) (FU_lt (by omega)) ⟨fun _ _ => rfl, h0, fun _ => rfl, fun h => (by cases h), Nat.le_refl _, hle, hf⟩
  · obtain ⟨⟨M', b, hi⟩, ⟨x1, x2, x3, x4, x6, x7, x8⟩, x5⟩ := L
    refine ⟨M', b, hi, x5, x1, x2, x3, fun hb e => ?_, x6, x7, x8⟩
    obtain ⟨q, hq⟩ := x4 hb
    have e : up (rl1 r46 r47 r48 r49) nr 0 (rlk nr r46 r47 r48 r49 k) = rlk nr r46 r47 r48 r49 k := e
    rw [e] at hq
    omega
  · rintro t j ⟨M, b, hi⟩ hj ⟨i1, i2, i3, i4, i5, i6, i7⟩
    have i1 : ∀ q, q ≠ 65 → M q = M0 q := i1
    have i2 : isH (M 65) (up (rl1 r46 r47 r48 r49) j 0 (rlk nr r46 r47 r48 r49 k)) := i2
    have i3 : b = false → up (rl1 r46 r47 r48 r49) j 0 (rlk nr r46 r47 r48 r49 k) = rlk nr r46 r47 r48 r49 k := i3
    have i4 : b = true → ∃ q, rlk nr r46 r47 r48 r49 k q < up (rl1 r46 r47 r48 r49) j 0 (rlk nr r46 r47 r48 r49 k) q := i4
    have i5 : hi ≤ hi0 + j := i5
    have i6 : ∀ q, up (rl1 r46 r47 r48 r49) j 0 (rlk nr r46 r47 r48 r49 k) q ≤ hi := i6
    have i7 : found nr r46 r47 r48 r49 → hi ≤ 8 := i7
    have es : up (rl1 r46 r47 r48 r49) (j + 1) 0 (rlk nr r46 r47 r48 r49 k) = rl1 r46 r47 r48 r49 j (up (rl1 r46 r47 r48 r49) j 0 (rlk nr r46 r47 r48 r49 k)) := by rw [up_snoc, Nat.zero_add]
    have hinf := up_infl (r46 := r46) (r47 := r47) (r48 := r48) (r49 := r49) j 0 (rlk nr r46 r47 r48 r49 k)
    have hlow : found nr r46 r47 r48 r49 → ∀ q, up (rl1 r46 r47 r48 r49) j 0 (rlk nr r46 r47 r48 r49 k) q ≤ rlk nr r46 r47 r48 r49 16 q := fun z => up_pre (fix_pre z) j 0 _ (by omega) (rlk_pre (fix_pre z) k)
    rw [es]
    generalize up (rl1 r46 r47 r48 r49) j 0 (rlk nr r46 r47 r48 r49 k) = h at *
    obtain ⟨hd, hd1, hd2, hd3⟩ := hh.2 j hj
    have m6 : M 45 0 = nI nr := by rw [i1 45 (by omega)]; exact h45
    have h20 : rv_in (nI j) 20 = true := q_inb (by omega) (by omega)
    have h16 : rv_in (nI hd) 16 = true := q_inb hd2 (by omega)
    have f46 : M 46 j = nI hd := by rw [i1 46 (by omega), e46, hd3]
    have ht : M 65 hd = nI (h hd) := i2 hd hd2
    have lb := rlh_b (r47 := r47) (r48 := r48) (u := j) i6
    have bb := i6 hd
    have e148 : ∀ (M1 : rv_Mem) (w : Bool) v, v ≤ hi + 1 → (if nI hi < nI v then f12_laysHeights_148 k25 t M1 w (nI j) (nI v) else f12_laysHeights_148 k25 t M1 w (nI j) (nI hi)) = t M1 w (nI (max hi v)) (nI (j + 1)) := fun M1 w v hv => by
      unfold f12_laysHeights_148
      rw [q_succ]
      simp only [q_lt (show hi < 2147483648 by omega) (show v < 2147483648 by omega)]
      by_cases c : hi < v
      · rw [if_pos c, show max hi v = v by omega]
      · rw [if_neg c, show max hi v = hi by omega]
    have e92 : ∀ (w : Bool) v, v ≤ hi + 1 → f12_laysHeights_92 k25 t M (nI hi) (nI j) (nI v) w = t (rv_u M 65 hd (nI (max (h hd) v))) w (nI (max hi v)) (nI (j + 1)) := fun w v hv => by
      unfold f12_laysHeights_92 f12_laysHeights_135
      simp only [h20, if_true, q_nc (show j < 2147483648 by omega), f46, h16, q_nc (show hd < 2147483648 by omega), ht, lt_do]
      rw [e148 _ w v hv, e148 _ w v hv]
      simp only [q_lt (show h hd < 2147483648 by omega) (show v < 2147483648 by omega)]
      by_cases c : h hd < v
      · rw [if_pos c, show max (h hd) v = v by omega]
      · rw [if_neg c, show max (h hd) v = h hd by omega]
    have e65 : ∀ v, v ≤ hi + 1 → f12_laysHeights_65 k25 t M b (nI hi) (nI j) (nI v) = t (rv_u M 65 hd (nI (max (h hd) v))) (b || decide (h hd < v)) (nI (max hi v)) (nI (j + 1)) := fun v hv => by
      unfold f12_laysHeights_65 f12_laysHeights_87
      rw [e92 true v hv, e92 false v hv]
      simp only [h20, if_true, q_nc (show j < 2147483648 by omega), f46, h16, q_nc (show hd < 2147483648 by omega), ht, q_lt (show h hd < 2147483648 by omega) (show v < 2147483648 by omega)]
      cases b with
      | true => rfl
      | false =>
        rw [if_pos rfl, Bool.false_or]
        by_cases c : h hd < v
        · rw [if_pos c, decide_eq_true c]
        · rw [if_neg c, decide_eq_false c]
    have step : f12_laysHeights_39_s k25 t M b (nI hi) (nI j) = if rv_z (r49 j) = true then f12_laysHeights_65 k25 t M b (nI hi) (nI j) (nI 0) else f12_laysHeights_65 k25 t M b (nI hi) (nI j) (nI (rlh r47 r48 h j)) := by
      unfold f12_laysHeights_39_s
      rw [if_pos (by rw [m6, q_lt (by omega) (by omega)]; exact hj), if_pos h20, q_nc (by omega), i1 49 (by omega), e49, s12_leastHeight (h := h) (B := hi) (by omega) i2 i6 (by omega), o1_some, i1 47 (by omega), i1 48 (by omega), e47, e48]
      rfl
    show ∃ a' : rv_Mem × Bool × Nat, _ ∧ f12_laysHeights_39_s k25 t M b (nI hi) (nI j) = _
    rw [step]
    have same : rv_u M 65 hd (nI (h hd)) = M := by
      funext x y
      unfold rv_u
      by_cases c : x = 65 ∧ y = hd
      · rw [if_pos c, c.1, c.2, ht]
      · rw [if_neg c]
    by_cases hz : rv_z (r49 j) = true
    · rw [if_pos hz, e65 0 (by omega), show max (h hd) 0 = h hd by omega, same, show max hi 0 = hi by omega, decide_eq_false (show ¬ h hd < 0 by omega), Bool.or_false, rl1_d hz]
      exact ⟨(M, b, hi), ⟨i1, i2, i3, i4, by show hi ≤ hi0 + (j + 1); omega, i6, i7⟩, rfl⟩
    · have hz' : rv_z (r49 j) = false := by simpa using hz
      rw [if_neg hz, e65 _ lb]
      have low8 : found nr r46 r47 r48 r49 → rlh r47 r48 h j ≤ 8 := fun z => by
        have a1 := rlh_mono (r47 := r47) (r48 := r48) (hlow z) j
        have a2 := pre_iff.mp (fix_pre z) j hj hz'
        have a3 := high_8 z hhh (r46 j).toNatClampNeg
        omega
      have hu := isH_u (r49 := r49) (r47 := r47) (r48 := r48) i2 hd3 hd2 hz'
      refine ⟨(rv_u M 65 hd (nI (max (h hd) (rlh r47 r48 h j))), b || decide (h hd < rlh r47 r48 h j), max hi (rlh r47 r48 h j)), ⟨fun q hq => by show rv_u M 65 hd _ q = _; rw [mu_ne hq]; exact i1 q hq, hu, fun z => ?_, fun z => ?_, ?_, fun q => ?_, fun z => ?_⟩, rfl⟩
      · have z : (b || decide (h hd < rlh r47 r48 h j)) = false := z
        rw [Bool.or_eq_false_iff] at z
        have c : ¬ h hd < rlh r47 r48 h j := of_decide_eq_false z.2
        rw [rl1_no hd3 hd2 (by omega)]
        exact i3 z.1
      · have z : (b || decide (h hd < rlh r47 r48 h j)) = true := z
        by_cases c : h hd < rlh r47 r48 h j
        · refine ⟨hd, ?_⟩
          have h1 := hinf hd
          unfold rl1
          rw [hd3, q_nc (by omega), if_pos ⟨rfl, hz'⟩]
          omega
        · rw [decide_eq_false c, Bool.or_false] at z
          obtain ⟨q, hq⟩ := i4 z
          exact ⟨q, by have := rl1_infl (r46 := r46) (r47 := r47) (r48 := r48) (r49 := r49) j h q; omega⟩
      · show max hi (rlh r47 r48 h j) ≤ hi0 + (j + 1)
        omega
      · show rl1 r46 r47 r48 r49 j h q ≤ max hi (rlh r47 r48 h j)
        unfold rl1
        have := i6 q
        split <;> omega
      · have a1 := low8 z
        have a2 := i7 z
        show max hi (rlh r47 r48 h j) ≤ 8
        omega
  · rintro t ⟨M, b, hi⟩ ⟨i1, -⟩
    have i1 : ∀ q, q ≠ 65 → M q = M0 q := i1
    show f12_laysHeights_39_s k25 t M b (nI hi) (nI nr) = _
    unfold f12_laysHeights_39_s
    rw [if_neg (by rw [i1 45 (by omega), h45, q_lt (by omega) (by omega)]; omega)]
theorem s12_laysHeights {M0 : rv_Mem} {nr : Nat} (h45 : M0 45 0 = nI nr) (hh : heads nr (M0 46)) :
    ∃ b M', f12_laysHeights M0 = some (b, M') ∧ (∀ q, q ≠ 65 → M' q = M0 q) ∧ (b = true ↔ found nr (M0 46) (M0 47) (M0 48) (M0 49)) ∧ (b = true → isH (M' 65) (rlk nr (M0 46) (M0 47) (M0 48) (M0 49) 16)) := by
  have hn := hh.1
  have hhh := heads_hh hh
  have Z := rv_ui (z := (fun _ _ => none)) (F := f12_laysHeights_2_s) (fun t j (M : rv_Mem) => t M (nI j)) 16 (fun j M => (∀ q, q ≠ 65 → M q = M0 q) ∧ ∀ s, s < j → M 65 s = nI 0) (fun M => f12_laysHeights_25 rv_FU M true 0) ?_ ?_ rv_FU 0 M0 (Nat.zero_le _) (FU_lt (by omega)) ⟨fun _ _ => rfl, fun s hs => absurd hs (Nat.not_lt_zero _)⟩
  · obtain ⟨M1, ⟨z1, z2⟩, z3⟩ := Z
    have L := rv_ux (z := (fun _ _ _ => none)) (F := f12_laysHeights_25_s) (fun t (_ : Nat) (s : rv_Mem × Bool × Nat) => t s.1 s.2.1 (nI s.2.2)) 200 (fun k s => (∀ q, q ≠ 65 → s.1 q = M0 q) ∧ isH (s.1 65) (rlk nr (M0 46) (M0 47) (M0 48) (M0 49) k) ∧ (s.2.1 = false → 1 ≤ k ∧ rlr nr (M0 46) (M0 47) (M0 48) (M0 49) (rlk nr (M0 46) (M0 47) (M0 48) (M0 49) (k - 1)) = rlk nr (M0 46) (M0 47) (M0 48) (M0 49) (k - 1)) ∧ (s.2.1 = true → k ≤ sm (rlk nr (M0 46) (M0 47) (M0 48) (M0 49) k)) ∧ s.2.2 ≤ 20 * k ∧ (∀ q, rlk nr (M0 46) (M0 47) (M0 48) (M0 49) k q ≤ s.2.2) ∧ (found nr (M0 46) (M0 47) (M0 48) (M0 49) → s.2.2 ≤ 8))
      (fun r => ∃ b M', r = some (b, M') ∧ (∀ q, q ≠ 65 → M' q = M0 q) ∧ (b = true ↔ found nr (M0 46) (M0 47) (M0 48) (M0 49)) ∧ (b = true → isH (M' 65) (rlk nr (M0 46) (M0 47) (M0 48) (M0 49) 16))) ?_ ?_ rv_FU 0 (M1, true, 0) (Nat.zero_le _) (FU_lt (by omega)) ⟨z1, z2, fun z => (by cases z), fun _ => Nat.zero_le _, Nat.le_refl _, fun _ => Nat.le_refl _, fun _ => Nat.zero_le _⟩
    · obtain ⟨b, M', x1, x2⟩ := L
      exact ⟨b, M', z3.trans x1, x2⟩
    · rintro t k ⟨M, b, hi⟩ hk ⟨i1, i2, i3, i4, i5, i6, i7⟩
      have i1 : ∀ q, q ≠ 65 → M q = M0 q := i1
      have i2 : isH (M 65) (rlk nr (M0 46) (M0 47) (M0 48) (M0 49) k) := i2
      have i5 : hi ≤ 20 * k := i5
      have i6 : ∀ q, rlk nr (M0 46) (M0 47) (M0 48) (M0 49) k q ≤ hi := i6
      have i7 : found nr (M0 46) (M0 47) (M0 48) (M0 49) → hi ≤ 8 := i7
      have step : f12_laysHeights_25_s t M b (nI hi) = if b = true then (if hi < 17 then f12_laysHeights_39 t rv_FU M false (nI hi) 0 else some (false, M)) else (if hi < 17 then some (true, M) else some (false, M)) := by
        unfold f12_laysHeights_25_s f12_laysHeights_158
        simp only [q_17, q_lt (show hi < 2147483648 by omega) (show 17 < 2147483648 by omega)]
        by_cases c : hi < 17
        · rw [if_pos c, if_pos c, if_pos c]
        · rw [if_neg c, if_neg c, if_neg c]
      show (∃ b2 M', f12_laysHeights_25_s t M b (nI hi) = _ ∧ _) ∨ ∃ a' : rv_Mem × Bool × Nat, _ ∧ f12_laysHeights_25_s t M b (nI hi) = _
      rw [step]
      cases b with
      | true =>
        have i1 : ∀ q, q ≠ 65 → M q = M0 q := i1
        have i5 : hi ≤ 20 * k := i5
        have i6 : ∀ q, rlk nr (M0 46) (M0 47) (M0 48) (M0 49) k q ≤ hi := i6
        have i7 : found nr (M0 46) (M0 47) (M0 48) (M0 49) → hi ≤ 8 := i7
        rw [if_pos rfl]
        by_cases c : hi < 17
        · right
          rw [if_pos c]
          have i4 : k ≤ sm (rlk nr (M0 46) (M0 47) (M0 48) (M0 49) k) := i4 rfl
          obtain ⟨M', b', hi', x1, x2, x3, x4, x5, x6, x7, x8⟩ := s12_round (k25 := t) (M0 := M) (nr := nr) (k := k) (hi0 := hi) (by rw [i1 45 (by omega)]; exact h45) (by rw [i1 46 (by omega)]; exact hh) (by omega) (by rw [i1 46 (by omega), i1 47 (by omega), i1 48 (by omega), i1 49 (by omega)]; exact i2) (by omega) (by rw [i1 46 (by omega), i1 47 (by omega), i1 48 (by omega), i1 49 (by omega)]; exact i6) (by rw [i1 46 (by omega), i1 47 (by omega), i1 48 (by omega), i1 49 (by omega)]; exact i7)
          rw [i1 46 (by omega), i1 47 (by omega), i1 48 (by omega), i1 49 (by omega)] at x3 x4 x5 x7 x8
          refine ⟨(M', b', hi'), ⟨fun q hq => by show M' q = _; rw [x2 q hq, i1 q hq], x3, fun z => ⟨by omega, x4 z⟩, fun z => ?_, ?_, x7, x8⟩, x1⟩
          · have := sm_round hhh (x5 z)
            omega
          · show hi' ≤ 20 * (k + 1)
            omega
        · left
          rw [if_neg c]
          exact ⟨false, M, rfl, i1, ⟨fun z => (by cases z), fun z => absurd (i7 z) (by omega)⟩, fun z => (by cases z)⟩
      | false =>
        left
        rw [if_neg (by simp)]
        obtain ⟨k1, hfix⟩ := i3 rfl
        have f16 := fix_16 hhh hfix
        have h8 : hi ≤ 8 := i7 f16.2
        rw [if_pos (by omega)]
        have ek : rlk nr (M0 46) (M0 47) (M0 48) (M0 49) k = rlk nr (M0 46) (M0 47) (M0 48) (M0 49) (k - 1) := by
          rw [show k = (k - 1) + 1 by omega, rlk_s, hfix]
          rfl
        exact ⟨true, M, rfl, i1, ⟨fun _ => f16.2, fun _ => rfl⟩, fun _ => by rw [f16.1, ← ek]; exact i2⟩
    · rintro t ⟨M, b, hi⟩ ⟨i1, i2, i3, i4, i5, i6, i7⟩
      have i1 : ∀ q, q ≠ 65 → M q = M0 q := i1
      have i2 : isH (M 65) (rlk nr (M0 46) (M0 47) (M0 48) (M0 49) 200) := i2
      have i5 : hi ≤ 20 * 200 := i5
      have i6 : ∀ q, rlk nr (M0 46) (M0 47) (M0 48) (M0 49) 200 q ≤ hi := i6
      have i7 : found nr (M0 46) (M0 47) (M0 48) (M0 49) → hi ≤ 8 := i7
      have step : f12_laysHeights_25_s t M b (nI hi) = if b = true then (if hi < 17 then f12_laysHeights_39 t rv_FU M false (nI hi) 0 else some (false, M)) else (if hi < 17 then some (true, M) else some (false, M)) := by
        unfold f12_laysHeights_25_s f12_laysHeights_158
        simp only [q_17, q_lt (show hi < 2147483648 by omega) (show 17 < 2147483648 by omega)]
        by_cases c : hi < 17
        · rw [if_pos c, if_pos c, if_pos c]
        · rw [if_neg c, if_neg c, if_neg c]
      show ∃ b2 M', f12_laysHeights_25_s t M b (nI hi) = _ ∧ _
      rw [step]
      cases b with
      | true =>
        rw [if_pos rfl]
        have i4 : 200 ≤ sm (rlk nr (M0 46) (M0 47) (M0 48) (M0 49) 200) := i4 rfl
        have i6 : ∀ q, rlk nr (M0 46) (M0 47) (M0 48) (M0 49) 200 q ≤ hi := i6
        have i7 : found nr (M0 46) (M0 47) (M0 48) (M0 49) → hi ≤ 8 := i7
        have c : ¬ hi < 17 := by
          intro c
          have := sm_le (b := fun _ => 16) (fun s => (by have := i6 s; omega : rlk nr (M0 46) (M0 47) (M0 48) (M0 49) 200 s ≤ 16))
          have e : sm (fun _ => 16) = 128 := rfl
          omega
        rw [if_neg c]
        exact ⟨false, M, rfl, i1, ⟨fun z => (by cases z), fun z => absurd (i7 z) (by omega)⟩, fun z => (by cases z)⟩
      | false =>
        rw [if_neg (by simp)]
        obtain ⟨k1, hfix⟩ := i3 rfl
        have hfix : rlr nr (M0 46) (M0 47) (M0 48) (M0 49) (rlk nr (M0 46) (M0 47) (M0 48) (M0 49) 199) = rlk nr (M0 46) (M0 47) (M0 48) (M0 49) 199 := hfix
        have f16 := fix_16 hhh hfix
        have h8 : hi ≤ 8 := i7 f16.2
        rw [if_pos (by omega)]
        have ek : rlk nr (M0 46) (M0 47) (M0 48) (M0 49) 200 = rlk nr (M0 46) (M0 47) (M0 48) (M0 49) 199 := hfix
        exact ⟨true, M, rfl, i1, ⟨fun _ => f16.2, fun _ => rfl⟩, fun _ => by rw [f16.1, ← ek]; exact i2⟩
  · intro t j M hj ⟨i1, i2⟩
    refine ⟨rv_u M 65 j (nI 0), ⟨fun q hq => by rw [mu_ne hq]; exact i1 q hq, fun s hs => ?_⟩, ?_⟩
    · by_cases e : s = j
      · subst e; rw [mu_same]
      · rw [mu_ne2 e]; exact i2 s (by omega)
    · show f12_laysHeights_2_s t M (nI j) = _
      unfold f12_laysHeights_2_s
      rw [if_pos (by rw [q_16, q_lt (by omega) (by omega)]; exact hj), if_pos (q_inb hj (by omega)), q_nc (by omega), q_succ]
      rfl
  · intro t M _
    show f12_laysHeights_2_s t M (nI 16) = _
    unfold f12_laysHeights_2_s
    rw [if_neg (by rw [q_16, q_lt (by omega) (by omega)]; omega)]
