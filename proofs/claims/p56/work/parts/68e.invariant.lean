/-! LANDING: the invariant of the loop -/
/-- the memories without what the landing keeps for itself -/
def vC (C M : rv_Mem) : rv_Mem := fun q => if q = 6 ∨ q = 22 ∨ q = 52 then C q else M q
def vR (R S : rv_Mem) : rv_Mem := fun q => if q = 9 ∨ q = 18 then R q else S q
theorem vC_a {C M : rv_Mem} {q : Nat} (h : q = 6 ∨ q = 22 ∨ q = 52) : vC C M q = C q := if_pos h
theorem vC_b {C M : rv_Mem} {q : Nat} (h : ¬ (q = 6 ∨ q = 22 ∨ q = 52)) : vC C M q = M q := if_neg h
theorem vR_a {R S : rv_Mem} {q : Nat} (h : q = 9 ∨ q = 18) : vR R S q = R q := if_pos h
theorem vR_b {R S : rv_Mem} {q : Nat} (h : ¬ (q = 9 ∨ q = 18)) : vR R S q = S q := if_neg h
/-- frames from the start: everything but the rows of new commits, tips, statements and scratch -/
def lfr (n0 : Nat) (C R M S : rv_Mem) : Prop := (∀ q, q ≠ 1 → q ≠ 6 → q ≠ 7 → q ≠ 8 → ¬ (14 ≤ q ∧ q ≤ 19) → q ≠ 22 → ¬ (24 ≤ q ∧ q ≤ 40) → q ≠ 52 → M q = C q) ∧ (∀ q, q = 6 ∨ q = 7 ∨ (10 ≤ q ∧ q ≤ 52 ∧ q ≠ 18) ∨ 63 < q → S q = R q) ∧ (∀ k c, 16 ≤ k → k ≤ 19 → c < n0 ∨ c = 80 → M k c = C k c) ∧ (∀ q c, q = 1 ∨ q = 2 ∨ q = 5 ∨ q = 8 → c < n0 ∨ c = 80 → S q c = R q c) ∧ ∀ c, c < n0 ∨ c = 80 → ∀ f, f < 4 → M 15 (4 * c + f) = C 15 (4 * c + f) ∧ S 3 (4 * c + f) = R 3 (4 * c + f) ∧ ∀ p, p < 10 → M 14 (10 * (4 * c + f) + p) = C 14 (10 * (4 * c + f) + p) ∧ S 4 (10 * (4 * c + f) + p) = R 4 (10 * (4 * c + f) + p)
/-- processed -/
def prc (g left : Int32) (i : Nat) : Prop := bt g i = true ∧ bt left i = false
/-- may own a tip -/
def tow (F : Nat → Prop) (wy : Nat → Nat) (g left : Int32) (p : Nat) : Prop := F p ∨ (prc g left p ∧ wy p = 0)
def lnd (n0 : Nat) (gh : rC_gh) (C R : rv_Mem) (P : Nat → Int32) (wy : Nat → Nat) (F : Nat → Prop) (g sq : Int32) (n : Nat) (M S : rv_Mem) (left : Int32) : Prop := n0 ≤ n ∧ lfr n0 C R M S ∧ Rn n gh (vC C M) (vR R S) ∧ (∀ i, i < gh.1 0 → parS n (vR R S) i = P i) ∧ M 6 5 = sq ∧
  (∀ i, i < 32 → bt left i = true → bt g i = true) ∧ (∀ i p, i < gh.1 0 → p < gh.1 0 → prc g left i → P i = nI p → bt g p = true → bt left p = false) ∧
  (∀ r, r < 2 → ∃ t, t < n ∧ M 22 r = nI t ∧ S 9 r = nI t ∧ S 1 t = nI r ∧ ∀ p, p < gh.1 0 → S 5 t = nI p → tow F wy g left p) ∧
  (∀ i p, i < gh.1 0 → p < gh.1 0 → prc g left i → wy i = 0 → P i = nI p → tow F wy g left p) ∧
  (∀ i, i < gh.1 0 → bt g i = true → bt left i = true → M 52 i = NO) ∧
  (∀ i, i < gh.1 0 → prc g left i → M 52 i = S 18 i ∧ ((bt sq i = true ∧ M 52 i = NO) ∨ ∃ c, c < n ∧ M 52 i = nI c ∧ (S 5 c = NO ∨ S 5 c = nI i) ∧ S 1 c = C (100 + i) 2)) ∧
  ∀ i p, i < gh.1 0 → p < gh.1 0 → prc g left i → P i = nI p → bt sq p = true → M 52 i ≠ NO → M 52 p ≠ NO
theorem parC_of {n : Nat} {gh : rC_gh} {V W M : rv_Mem} (hR : Rn n gh V W) (e23 : M 23 = V 23) (e17 : M 17 = V 17) (e19 : M 19 = V 19) : parC gh M (parS n W) := fun h hh => by
  have hc := hR.ch20
  have hn := hR.n80
  obtain ⟨k, c, k1, k2, k3, k4, c1, c2, c3, c4, c5, c6, c7, c8⟩ := hR.cur hh
  obtain ⟨b, b1, b2, b3, -⟩ := hR.base c1 c2
  have hown : V 19 b = W 5 b := by
    rcases hR.own b (by omega) with ⟨o1, o2⟩ | ⟨g, s, p, o1, -, o2, o3, -⟩
    · rw [o1, o2]
    · rw [o2, o3]
  have e : parS n W h = W 5 b := by
    unfold parS
    rw [c7, q_nc (by omega), b3, q_nc (by omega)]
  rw [e]
  unfold f9_parentNumber
  rw [s9_read (L := 20) (show h < 20 by omega) rfl rfl (by omega), e23, c3, o1_some, s9_read (L := 82) (show c < 82 by omega) rfl rfl (by omega), e17, b2, o1_some, s9_read (L := 82) (show b < 82 by omega) rfl rfl (by omega), e19, hown]
  rfl
theorem curR_of {n : Nat} {gh : rC_gh} {V W S : rv_Mem} (hR : Rn n gh V W) (e0 : S 0 = W 0) (e5 : S 5 = W 5) (e6 : S 6 = W 6) (e14 : S 14 = W 14) {h : Nat} (hh : h < gh.1 0) : f12_current S (nI h) = f12_current W (nI h) := by
  have hc := hR.ch20
  unfold f12_current
  rw [if_pos (q_inb (show h < 20 by omega) (by omega)), q_nc (by omega), if_pos (q_inb (show h < 20 by omega) (by omega)), e14, s12_commitAt (by rw [e0]; exact hR.cnt.2.2.1) hR.n80, s12_commitAt hR.cnt.2.2.1 hR.n80, e5, e6]
theorem parR_of {n : Nat} {gh : rC_gh} {V W S : rv_Mem} (hR : Rn n gh V W) (e0 : S 0 = W 0) (e2 : S 2 = W 2) (e5 : S 5 = W 5) (e6 : S 6 = W 6) (e14 : S 14 = W 14) : parR (gh.1 0) S (parS n W) := fun h hh => by
  have hn := hR.n80
  obtain ⟨k, c, k1, k2, k3, k4, c1, c2, c3, c4, c5, c6, c7, c8⟩ := hR.cur hh
  obtain ⟨b, b1, b2, b3, -⟩ := hR.base c1 c2
  have e : parS n W h = W 5 b := by
    unfold parS
    rw [c7, q_nc (by omega), b3, q_nc (by omega)]
  unfold f12_parent
  rw [curR_of hR e0 e5 e6 e14 hh, c8, o1_some, e]
  simp (disch := omega) only [q_in, if_pos, q_nc, e2, b3, e5]
theorem repR_of {n : Nat} {gh : rC_gh} {V W S : rv_Mem} (hR : Rn n gh V W) (e0 : S 0 = W 0) (e1 : S 1 = W 1) (e5 : S 5 = W 5) (e6 : S 6 = W 6) (e14 : S 14 = W 14) {h r : Nat} (hh : h < gh.1 0) (hr : r < 2) (h2 : V (100 + h) 2 = nI r) : f12_repoOf S (nI h) = some (nI r) := by
  have := hR.repoM (fun _ _ => rfl) hh h2 hr
  unfold f12_repoOf at this ⊢
  rw [curR_of hR e0 e5 e6 e14 hh, e1]
  exact this
