/-! WHAT FOLLOWS -/
section
variable {nr : Nat} {r46 r47 r48 r49 : Nat → Int32} {H : Nat → Nat}
/-- one pass over the rules at a height -/
def ps (nr : Nat) (r46 r47 r48 r49 : Nat → Int32) (H : Nat → Nat) (L : Nat) (x : Int32) : Int32 := up (fun u x => if rv_z (r49 u) = false ∧ H (r46 u).toNatClampNeg = L ∧ (r47 u &&& (x ^^^ (-1))) = 0 ∧ (r48 u &&& x) = 0 then x ||| ((1 : Int32) <<< (r46 u &&& 31)) else x) nr 0 x
def itr (nr : Nat) (r46 r47 r48 r49 : Nat → Int32) (H : Nat → Nat) (L : Nat) (x : Int32) : Nat → Int32
  | 0 => x
  | k + 1 => ps nr r46 r47 r48 r49 H L (itr nr r46 r47 r48 r49 H L x k)
def st (nr : Nat) (r46 r47 r48 r49 : Nat → Int32) (H : Nat → Nat) (L : Nat) (x : Int32) : Int32 := itr nr r46 r47 r48 r49 H L x 9
def hold (nr : Nat) (r46 r47 r48 r49 : Nat → Int32) (H : Nat → Nat) (x : Int32) : Int32 := up (st nr r46 r47 r48 r49 H) 17 0 x
theorem ps_bits (hh : heads nr r46) (L : Nat) (x : Int32) : ∀ i, i < 32 → (bt x i = true → bt (ps nr r46 r47 r48 r49 H L x) i = true) ∧ ((i < 8 ∨ 16 ≤ i) → bt (ps nr r46 r47 r48 r49 H L x) i = bt x i) := by
  have h := up_inv (g := fun u x => if rv_z (r49 u) = false ∧ H (r46 u).toNatClampNeg = L ∧ (r47 u &&& (x ^^^ (-1))) = 0 ∧ (r48 u &&& x) = 0 then x ||| ((1 : Int32) <<< (r46 u &&& 31)) else x) (fun _ y => ∀ i, i < 32 → (bt x i = true → bt y i = true) ∧ ((i < 8 ∨ 16 ≤ i) → bt y i = bt x i)) nr 0 x (fun i _ => ⟨fun h => h, fun _ => rfl⟩) (fun j y _ hj hy => ?_)
  · exact h
  · intro i hi
    obtain ⟨h1, h2⟩ := hy i hi
    show (bt x i = true → bt (if _ then _ else _) i = true) ∧ (_ → bt (if _ then _ else _) i = bt x i)
    obtain ⟨s, s1, s2, s3⟩ := hh.2 j (by omega)
    by_cases c : rv_z (r49 j) = false ∧ H (r46 j).toNatClampNeg = L ∧ (r47 j &&& (y ^^^ (-1))) = 0 ∧ (r48 j &&& y) = 0
    · rw [if_pos c, b_or, s3, b_shl1 s (by omega) i hi]
      refine ⟨fun z => by rw [h1 z]; rfl, fun z => ?_⟩
      rw [decide_eq_false (show ¬ i = s by omega), Bool.or_false]
      exact h2 z
    · rw [if_neg c]
      exact ⟨h1, h2⟩
theorem ps_ne (hh : heads nr r46) {L : Nat} {x : Int32} (h : ps nr r46 r47 r48 r49 H L x ≠ x) : cn (bt x) 8 8 + 1 ≤ cn (bt (ps nr r46 r47 r48 r49 H L x)) 8 8 := by
  have hb := ps_bits (r47 := r47) (r48 := r48) (r49 := r49) (H := H) hh L x
  refine cn_lt 8 8 (fun j _ hj z => (hb j (by omega)).1 z) ?_
  apply Classical.byContradiction
  intro c
  apply h
  apply b_ext
  intro i hi
  obtain ⟨h1, h2⟩ := hb i hi
  by_cases r : i < 8 ∨ 16 ≤ i
  · exact h2 r
  · cases e : bt x i with
    | true => exact h1 e
    | false =>
      cases e2 : bt (ps nr r46 r47 r48 r49 H L x) i with
      | false => rfl
      | true => exact absurd ⟨i, by omega, by omega, e2, by rw [e]; simp⟩ c
theorem itr_stay {L : Nat} {x : Int32} {k : Nat} (h : ps nr r46 r47 r48 r49 H L (itr nr r46 r47 r48 r49 H L x k) = itr nr r46 r47 r48 r49 H L x k) : ∀ d, itr nr r46 r47 r48 r49 H L x (k + d) = itr nr r46 r47 r48 r49 H L x k := by
  intro d
  induction d with
  | zero => rfl
  | succ d ih =>
    show ps nr r46 r47 r48 r49 H L (itr nr r46 r47 r48 r49 H L x (k + d)) = _
    rw [ih, h]
theorem itr_fix (hh : heads nr r46) (L : Nat) (x : Int32) : ∃ k, k ≤ 8 ∧ ps nr r46 r47 r48 r49 H L (itr nr r46 r47 r48 r49 H L x k) = itr nr r46 r47 r48 r49 H L x k := by
  apply Classical.byContradiction
  intro c
  have gr : ∀ k, k ≤ 9 → k ≤ cn (bt (itr nr r46 r47 r48 r49 H L x k)) 8 8 := by
    intro k
    induction k with
    | zero => intro _; exact Nat.zero_le _
    | succ k ih =>
      intro hk
      have h1 := ih (by omega)
      have h2 := ps_ne (r47 := r47) (r48 := r48) (r49 := r49) (H := H) hh (L := L) (x := itr nr r46 r47 r48 r49 H L x k) (fun z => c ⟨k, by omega, z⟩)
      show k + 1 ≤ cn (bt (ps nr r46 r47 r48 r49 H L (itr nr r46 r47 r48 r49 H L x k))) 8 8
      omega
  have := gr 9 (Nat.le_refl _)
  have := cn_le (bt (itr nr r46 r47 r48 r49 H L x 9)) 8 8
  omega
theorem st_ge (hh : heads nr r46) {L : Nat} {x : Int32} {i : Nat} (hi : 8 ≤ i) : itr nr r46 r47 r48 r49 H L x i = st nr r46 r47 r48 r49 H L x := by
  obtain ⟨k, k1, k2⟩ := itr_fix (r47 := r47) (r48 := r48) (r49 := r49) (H := H) hh L x
  have h1 := itr_stay k2 (i - k)
  have h2 := itr_stay k2 (9 - k)
  rw [show k + (i - k) = i by omega] at h1
  rw [show k + (9 - k) = 9 by omega] at h2
  unfold st
  rw [h1, h2]
theorem st_of (hh : heads nr r46) {L : Nat} {x : Int32} {i : Nat} (h : ps nr r46 r47 r48 r49 H L (itr nr r46 r47 r48 r49 H L x i) = itr nr r46 r47 r48 r49 H L x i) : itr nr r46 r47 r48 r49 H L x i = st nr r46 r47 r48 r49 H L x := by
  have h1 := itr_stay h 9
  rw [st_ge hh (show 8 ≤ i + 9 by omega)] at h1
  exact h1.symm
theorem st_bits (hh : heads nr r46) (L : Nat) (x : Int32) (k : Nat) : ∀ i, i < 32 → (i < 8 ∨ 16 ≤ i) → bt (itr nr r46 r47 r48 r49 H L x k) i = bt x i := by
  induction k with
  | zero => intro i _ _; rfl
  | succ k ih =>
    intro i hi hr
    show bt (ps nr r46 r47 r48 r49 H L (itr nr r46 r47 r48 r49 H L x k)) i = _
    rw [(ps_bits hh L _ i hi).2 hr, ih i hi hr]
/-- no rule lies there -/
theorem st_none {L : Nat} (x : Int32) (h : ∀ s, H s < L) : st nr r46 r47 r48 r49 H L x = x := by
  have e : ∀ y, ps nr r46 r47 r48 r49 H L y = y := fun y => by
    unfold ps
    refine up_id nr 0 y (fun j _ _ => ?_)
    have := h (r46 j).toNatClampNeg
    show (if _ then _ else _) = y
    rw [if_neg (fun z => by omega)]
  have : ∀ k, itr nr r46 r47 r48 r49 H L x k = x := by
    intro k
    induction k with
    | zero => rfl
    | succ k ih => show ps nr r46 r47 r48 r49 H L _ = x; rw [ih, e]
  exact this 9
theorem hold_low {m : Nat} (x : Int32) (hm : m ≤ 16) (h : ∀ s, H s ≤ m) : up (st nr r46 r47 r48 r49 H) (m + 1) 0 x = hold nr r46 r47 r48 r49 H x := by
  have e : hold nr r46 r47 r48 r49 H x = up (st nr r46 r47 r48 r49 H) (16 - m) (0 + (m + 1)) (up (st nr r46 r47 r48 r49 H) (m + 1) 0 x) := by
    unfold hold
    rw [← up_add, show (m + 1) + (16 - m) = 17 by omega]
  rw [e]
  generalize up (st nr r46 r47 r48 r49 H) (m + 1) 0 x = y
  exact (up_id (g := st nr r46 r47 r48 r49 H) (16 - m) (0 + (m + 1)) y (fun j h1 _ => st_none y (fun s => by have := h s; omega))).symm
end
/-! the class -/
theorem s8_followOnce {gh : rC_gh} {M : rv_Mem} {nr L B : Nat} {r46 r47 r48 r49 : Nat → Int32} {H : Nat → Nat} (hr : rules nr M r46 r47 r48 r49) (hh : heads nr r46) (hH : isH (M 47) H) (hB : ∀ s, H s ≤ B) (hB2 : B < 100000) (hL : L < 100000) (x : Int32) : f8_followOnce gh M x (nI L) = some (ps nr r46 r47 r48 r49 H L x) := by
  have hn := hh.1
  have R := rv_up0 (z := (fun _ _ _ => none)) (F := f8_followOnce_5_s gh M) (fun t u (x : Int32) => t (nI L) x (nI u)) nr (fun u x => if rv_z (r49 u) = false ∧ H (r46 u).toNatClampNeg = L ∧ (r47 u &&& (x ^^^ (-1))) = 0 ∧ (r48 u &&& x) = 0 then x ||| ((1 : Int32) <<< (r46 u &&& 31)) else x) some (fun t u x hu => ?_) (fun t x => ?_) rv_FU 0 x (Nat.zero_le _) (FU_lt (by omega))
  · exact R
  · show f8_followOnce_5_s gh M t (nI L) x (nI u) = t (nI L) (if _ then _ else _) (nI (u + 1))
    obtain ⟨g1, g2, g3, g4⟩ := hr.2 u hu
    obtain ⟨s, s1, s2, s3⟩ := hh.2 u hu
    have h20 : rv_in (nI u) 20 = true := q_inb (by omega) (by omega)
    have h16 : rv_in (nI s) 16 = true := q_inb s2 (by omega)
    have hb := hB s
    unfold f8_followOnce_5_s f8_followOnce_44 f8_followOnce_45 f8_followOnce_90
    rw [if_pos (by rw [hr.1, q_lt (by omega) (by omega)]; exact hu)]
    simp only [h20, if_true, q_nc (show u < 2147483648 by omega), g1, g2, g3, g4, s3, h16, q_nc (show s < 2147483648 by omega), hH s s2, q_eq (show H s < 2147483648 by omega) (show L < 2147483648 by omega), bf_t, if_false, q_succ]
    by_cases c1 : rv_z (r49 u) = false
    · by_cases c2 : H s = L
      · by_cases c3 : (r47 u &&& (x ^^^ (-1))) = 0
        · by_cases c4 : (r48 u &&& x) = 0
          · rw [if_pos c1, if_pos c2, if_pos c3, if_pos c4, if_pos ⟨c1, c2, c3, c4⟩]
          · rw [if_pos c1, if_pos c2, if_pos c3, if_neg c4, if_neg (fun z => c4 z.2.2.2)]
        · rw [if_pos c1, if_pos c2, if_neg c3, if_neg (fun z => c3 z.2.2.1)]
      · rw [if_pos c1, if_neg c2, if_neg (fun z => c2 z.2.1)]
    · rw [if_neg c1, if_neg (fun z => c1 z.1)]
  · show f8_followOnce_5_s gh M t (nI L) x (nI nr) = _
    unfold f8_followOnce_5_s
    rw [if_neg (by rw [hr.1, q_lt (by omega) (by omega)]; omega)]
theorem s8_follow {gh : rC_gh} {M : rv_Mem} {nr m : Nat} {r46 r47 r48 r49 : Nat → Int32} {H : Nat → Nat} (hr : rules nr M r46 r47 r48 r49) (hh : heads nr r46) (hH : isH (M 47) H) (hm : m ≤ 8) (hB : ∀ s, H s ≤ m) (h5 : M 4 5 = nI m) (x : Int32) : f8_follow gh M x = some (hold nr r46 r47 r48 r49 H x) := by
  have inner : ∀ (t : Int32 → Int32 → Option Int32) L x, L ≤ m → f8_follow_24 gh M t rv_FU x (nI L) true 0 = t (st nr r46 r47 r48 r49 H L x) (nI (L + 1)) := by
    intro t L x hL
    refine rv_ux (z := (fun _ _ _ _ => none)) (F := f8_follow_24_s gh M t) (fun T j (s : Int32 × Bool) => T s.1 (nI L) s.2 (nI j)) 16 (fun j s => s.1 = itr nr r46 r47 r48 r49 H L x j ∧ (s.2 = false → 1 ≤ j ∧ ps nr r46 r47 r48 r49 H L (itr nr r46 r47 r48 r49 H L x (j - 1)) = itr nr r46 r47 r48 r49 H L x (j - 1))) (fun r => r = t (st nr r46 r47 r48 r49 H L x) (nI (L + 1))) ?_ ?_ rv_FU 0 (x, true) (Nat.zero_le _) (FU_lt (by omega)) ⟨rfl, fun z => (by cases z)⟩
    · rintro T j ⟨y, b⟩ hj ⟨i1, i2⟩
      have i1 : y = itr nr r46 r47 r48 r49 H L x j := i1
      show f8_follow_24_s gh M t T y (nI L) b (nI j) = _ ∨ ∃ a' : Int32 × Bool, _ ∧ f8_follow_24_s gh M t T y (nI L) b (nI j) = _
      have step : f8_follow_24_s gh M t T y (nI L) b (nI j) = if b = true then (if ¬ ps nr r46 r47 r48 r49 H L y = y then T (ps nr r46 r47 r48 r49 H L y) (nI L) true (nI (j + 1)) else T (ps nr r46 r47 r48 r49 H L y) (nI L) false (nI (j + 1))) else t y (nI (L + 1)) := by
        unfold f8_follow_24_s f8_follow_57 f8_follow_65
        rw [if_pos (by rw [q_16, q_lt (by omega) (by omega)]; exact hj), s8_followOnce hr hh hH hB (by omega) (by omega), o1_some, q_succ, q_succ]
      rw [step]
      cases b with
      | true =>
        have i1 : y = itr nr r46 r47 r48 r49 H L x j := i1
        right
        rw [if_pos rfl]
        by_cases c : ps nr r46 r47 r48 r49 H L y = y
        · rw [if_neg (fun z => z c)]
          refine ⟨(ps nr r46 r47 r48 r49 H L y, false), ⟨by show ps nr r46 r47 r48 r49 H L y = ps nr r46 r47 r48 r49 H L _; rw [i1], fun _ => ⟨by omega, ?_⟩⟩, rfl⟩
          show ps nr r46 r47 r48 r49 H L (itr nr r46 r47 r48 r49 H L x j) = itr nr r46 r47 r48 r49 H L x j
          rw [← i1]; exact c
        · rw [if_pos c]
          exact ⟨(ps nr r46 r47 r48 r49 H L y, true), ⟨by show ps nr r46 r47 r48 r49 H L y = ps nr r46 r47 r48 r49 H L _; rw [i1], fun z => (by cases z)⟩, rfl⟩
      | false =>
        have i1 : y = itr nr r46 r47 r48 r49 H L x j := i1
        left
        obtain ⟨j1, j2⟩ := i2 rfl
        have e : itr nr r46 r47 r48 r49 H L x j = itr nr r46 r47 r48 r49 H L x (j - 1) := by
          rw [show j = (j - 1) + 1 by omega]; exact j2
        rw [if_neg (by simp), i1, e, st_of hh j2]
    · rintro T ⟨y, b⟩ ⟨i1, -⟩
      have i1 : y = itr nr r46 r47 r48 r49 H L x 16 := i1
      show f8_follow_24_s gh M t T y (nI L) b (nI 16) = _
      unfold f8_follow_24_s f8_follow_65
      rw [if_neg (by rw [q_16, q_lt (by omega) (by omega)]; omega), i1, st_ge hh (by omega), q_succ]
  have R := rv_up0 (z := (fun _ _ => none)) (F := f8_follow_4_s gh M) (fun t L (x : Int32) => t x (nI L)) (m + 1) (st nr r46 r47 r48 r49 H) some (fun t L x hL => ?_) (fun t x => ?_) rv_FU 0 x (Nat.zero_le _) (FU_lt (by omega))
  · unfold f8_follow
    rw [← hold_low x (show m ≤ 16 by omega) hB]
    exact R
  · show f8_follow_4_s gh M t x (nI L) = _
    unfold f8_follow_4_s
    rw [if_pos (by rw [h5, q_le (by omega) (by omega)]; omega), if_pos (by rw [q_16, q_lt (by omega) (by omega)]; omega), inner t L x (by omega)]
  · show f8_follow_4_s gh M t x (nI (m + 1)) = _
    unfold f8_follow_4_s
    rw [if_neg (by rw [h5, q_le (by omega) (by omega)]; omega)]
/-! the reference -/
theorem s12_passR {k10 : rv_Mem → Bool → Int32 → Int32 → Option (Int32 × rv_Mem)} {k24 : rv_Mem → Bool → Int32 → Int32 → Int32 → Option (Int32 × rv_Mem)} {M : rv_Mem} {nr L B : Nat} {H : Nat → Nat} (h45 : M 45 0 = nI nr) (hh : heads nr (M 46)) (hH : isH (M 65) H) (hB : ∀ s, H s ≤ B) (hB2 : B < 100000) (hL : L < 100000) (x y : Int32) : f12_holding_36 k10 k24 rv_FU M true x (nI L) y 0 = k24 M true (ps nr (M 46) (M 47) (M 48) (M 49) H L x) (nI L) y := by
  have hn := hh.1
  have R := rv_up0 (z := (fun _ _ _ _ _ _ => none)) (F := f12_holding_36_s k10 k24) (fun t u (x : Int32) => t M true x (nI L) y (nI u)) nr (fun u x => if rv_z (M 49 u) = false ∧ H (M 46 u).toNatClampNeg = L ∧ (M 47 u &&& (x ^^^ (-1))) = 0 ∧ (M 48 u &&& x) = 0 then x ||| ((1 : Int32) <<< (M 46 u &&& 31)) else x) (fun x => k24 M true x (nI L) y) (fun t u x hu => ?_) (fun t x => ?_) rv_FU 0 x (Nat.zero_le _) (FU_lt (by omega))
  · exact R
  · show f12_holding_36_s k10 k24 t M true x (nI L) y (nI u) = t M true (if _ then _ else _) (nI L) y (nI (u + 1))
    obtain ⟨s, s1, s2, s3⟩ := hh.2 u hu
    have h20 : rv_in (nI u) 20 = true := q_inb (by omega) (by omega)
    have h16 : rv_in (nI s) 16 = true := q_inb s2 (by omega)
    have hb := hB s
    have or0 : x ||| 0 = x := Int32.or_zero
    unfold f12_holding_36_s f12_holding_102 f12_holding_103 f12_holding_124
    rw [if_pos (by rw [h45, q_lt (by omega) (by omega)]; exact hu)]
    simp only [h20, if_true, q_nc (show u < 2147483648 by omega), s3, h16, q_nc (show s < 2147483648 by omega), hH s s2, q_eq (show H s < 2147483648 by omega) (show L < 2147483648 by omega), bf_t, if_false, q_succ, or0]
    by_cases c1 : rv_z (M 49 u) = false
    · by_cases c2 : H s = L
      · by_cases c3 : (M 47 u &&& (x ^^^ (-1))) = 0
        · by_cases c4 : (M 48 u &&& x) = 0
          · rw [if_pos c1, if_pos c2, if_pos c3, if_pos c4, if_pos ⟨c1, c2, c3, c4⟩]
          · rw [if_pos c1, if_pos c2, if_pos c3, if_neg c4, if_neg (fun z => c4 z.2.2.2)]
        · rw [if_pos c1, if_pos c2, if_neg c3, if_neg (fun z => c3 z.2.2.1)]
      · rw [if_pos c1, if_neg c2, if_neg (fun z => c2 z.2.1)]
    · rw [if_neg c1, if_neg (fun z => c1 z.1)]
  · show f12_holding_36_s k10 k24 t M true x (nI L) y (nI nr) = _
    unfold f12_holding_36_s
    rw [if_neg (by rw [h45, q_lt (by omega) (by omega)]; omega)]
theorem s12_holding {M0 : rv_Mem} {nr : Nat} (h45 : M0 45 0 = nI nr) (hh : heads nr (M0 46)) (hf : found nr (M0 46) (M0 47) (M0 48) (M0 49)) (x : Int32) (hx : bt x 31 = false) : ∃ M', f12_holding M0 x = some (hold nr (M0 46) (M0 47) (M0 48) (M0 49) (rlk nr (M0 46) (M0 47) (M0 48) (M0 49) 16) x, M') ∧ ∀ q, q ≠ 65 → M' q = M0 q := by
  obtain ⟨b, M1, b1, b2, b3, b4⟩ := s12_laysHeights h45 hh
  have hb : b = true := b3.mpr hf
  have hH := b4 hb
  subst hb
  have hB := high_8 hf (heads_hh hh)
  generalize hHH : rlk nr (M0 46) (M0 47) (M0 48) (M0 49) 16 = H at *
  have m45 : M1 45 0 = nI nr := by rw [b2 45 (by omega)]; exact h45
  have e46 : M1 46 = M0 46 := b2 46 (by omega)
  have e47 : M1 47 = M0 47 := b2 47 (by omega)
  have e48 : M1 48 = M0 48 := b2 48 (by omega)
  have e49 : M1 49 = M0 49 := b2 49 (by omega)
  have hh1 : heads nr (M1 46) := by rw [e46]; exact hh
  have inner : ∀ (t : rv_Mem → Bool → Int32 → Int32 → Option (Int32 × rv_Mem)) L x, L ≤ 16 → bt x 31 = false → f12_holding_24 t rv_FU M1 true x (nI L) (-1) = t M1 true (st nr (M0 46) (M0 47) (M0 48) (M0 49) H L x) (nI (L + 1)) := by
    intro t L x hL hx31
    refine rv_ux (z := (fun _ _ _ _ _ => none)) (F := f12_holding_24_s t) (fun T j (s : Int32 × Int32) => T M1 true s.1 (nI L) s.2) 20 (fun j s => s.1 = itr nr (M0 46) (M0 47) (M0 48) (M0 49) H L x j ∧ (j = 0 → s.2 = -1) ∧ (1 ≤ j → s.2 = itr nr (M0 46) (M0 47) (M0 48) (M0 49) H L x (j - 1))) (fun r => r = t M1 true (st nr (M0 46) (M0 47) (M0 48) (M0 49) H L x) (nI (L + 1))) ?_ ?_ rv_FU 0 (x, -1) (Nat.zero_le _) (FU_lt (by omega)) ⟨rfl, fun _ => rfl, fun h => by omega⟩
    · rintro T j ⟨y, bf⟩ hj ⟨i1, i2, i3⟩
      have i1 : y = itr nr (M0 46) (M0 47) (M0 48) (M0 49) H L x j := i1
      have i2 : j = 0 → bf = -1 := i2
      have i3 : 1 ≤ j → bf = itr nr (M0 46) (M0 47) (M0 48) (M0 49) H L x (j - 1) := i3
      show f12_holding_24_s t T M1 true y (nI L) bf = _ ∨ ∃ a' : Int32 × Int32, _ ∧ f12_holding_24_s t T M1 true y (nI L) bf = _
      have step : f12_holding_24_s t T M1 true y (nI L) bf = if ¬ bf = y then T M1 true (ps nr (M0 46) (M0 47) (M0 48) (M0 49) H L y) (nI L) y else t M1 true y (nI (L + 1)) := by
        unfold f12_holding_24_s
        rw [s12_passR (H := H) (B := 8) (nr := nr) m45 hh1 hH hB (by omega) (by omega), e46, e47, e48, e49, q_succ]
      rw [step]
      by_cases c : bf = y
      · left
        rw [if_neg (fun z => z c)]
        by_cases h0 : j = 0
        · exfalso
          subst h0
          have i1 : y = x := i1
          rw [i2 rfl, i1] at c
          rw [← c, b_m1 31 (by omega)] at hx31
          cases hx31
        · have i3 := i3 (by omega)
          have fx : ps nr (M0 46) (M0 47) (M0 48) (M0 49) H L (itr nr (M0 46) (M0 47) (M0 48) (M0 49) H L x (j - 1)) = itr nr (M0 46) (M0 47) (M0 48) (M0 49) H L x (j - 1) := by
            have e : itr nr (M0 46) (M0 47) (M0 48) (M0 49) H L x j = ps nr (M0 46) (M0 47) (M0 48) (M0 49) H L (itr nr (M0 46) (M0 47) (M0 48) (M0 49) H L x (j - 1)) := by
              rw [show j = (j - 1) + 1 by omega]; rfl
            rw [← e, ← i1, ← i3, c]
          rw [← c, i3, st_of hh fx]
      · right
        rw [if_pos c]
        exact ⟨(ps nr (M0 46) (M0 47) (M0 48) (M0 49) H L y, y), ⟨by show ps nr (M0 46) (M0 47) (M0 48) (M0 49) H L y = ps nr (M0 46) (M0 47) (M0 48) (M0 49) H L _; rw [i1], fun h => by omega, fun _ => i1⟩, rfl⟩
    · rintro T ⟨y, bf⟩ ⟨i1, i2, i3⟩
      have i1 : y = itr nr (M0 46) (M0 47) (M0 48) (M0 49) H L x 20 := i1
      have i3 : bf = itr nr (M0 46) (M0 47) (M0 48) (M0 49) H L x 19 := i3 (by omega)
      rw [st_ge hh (by omega)] at i1 i3
      show f12_holding_24_s t T M1 true y (nI L) bf = _
      unfold f12_holding_24_s
      rw [if_neg (fun z => z (by rw [i1, i3])), i1, q_succ]
  have R := rv_ui (z := (fun _ _ _ _ => none)) (F := f12_holding_10_s) (fun t L (x : Int32) => t M1 true x (nI L)) 17 (fun L y => bt y 31 = false ∧ y = up (st nr (M0 46) (M0 47) (M0 48) (M0 49) H) L 0 x) (fun y => some (y, M1)) ?_ ?_ rv_FU 0 x (Nat.zero_le _) (FU_lt (by omega)) ⟨hx, rfl⟩
  · obtain ⟨y, ⟨-, y1⟩, y2⟩ := R
    refine ⟨M1, ?_, b2⟩
    unfold f12_holding hold
    rw [b1, o2_some, ← y1]
    exact y2
  · rintro t L y hL ⟨y1, y2⟩
    refine ⟨st nr (M0 46) (M0 47) (M0 48) (M0 49) H L y, ⟨?_, ?_⟩, ?_⟩
    · unfold st
      rw [st_bits hh L y 9 31 (by omega) (by omega)]; exact y1
    · rw [up_snoc, Nat.zero_add, ← y2]
    · show f12_holding_10_s t M1 true y (nI L) = _
      unfold f12_holding_10_s
      rw [if_pos (by rw [q_17, q_lt (by omega) (by omega)]; exact hL), if_pos rfl, inner t L y (by omega) y1]
  · rintro t y -
    show f12_holding_10_s t M1 true y (nI 17) = _
    unfold f12_holding_10_s
    rw [if_neg (by rw [q_17, q_lt (by omega) (by omega)]; omega)]
