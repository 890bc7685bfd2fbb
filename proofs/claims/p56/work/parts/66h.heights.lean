/-! HEIGHTS: the least ones, how soon they are found, how high they are -/
/-- how many of k, k + 1, .. -/
def cn (p : Nat → Bool) : Nat → Nat → Nat
  | _, 0 => 0
  | k, d + 1 => (if p k = true then 1 else 0) + cn p (k + 1) d
theorem cn_s (p : Nat → Bool) (k d : Nat) : cn p k (d + 1) = (if p k = true then 1 else 0) + cn p (k + 1) d := rfl
theorem cn_le (p : Nat → Bool) : ∀ d k, cn p k d ≤ d := by
  intro d
  induction d with
  | zero => intro k; exact Nat.le_refl _
  | succ d ih =>
    intro k
    have := ih (k + 1)
    rw [cn_s]
    split <;> omega
theorem cn_mono {p q : Nat → Bool} : ∀ d k, (∀ j, k ≤ j → j < k + d → p j = true → q j = true) → cn p k d ≤ cn q k d := by
  intro d
  induction d with
  | zero => intro k _; exact Nat.le_refl _
  | succ d ih =>
    intro k h
    have h1 := ih (k + 1) (fun j h1 h2 => h j (by omega) (by omega))
    have h2 := h k (Nat.le_refl _) (by omega)
    rw [cn_s, cn_s]
    by_cases c : p k = true
    · rw [if_pos c, if_pos (h2 c)]; omega
    · rw [if_neg c]
      split <;> omega
theorem cn_lt {p q : Nat → Bool} : ∀ d k, (∀ j, k ≤ j → j < k + d → p j = true → q j = true) → (∃ j, k ≤ j ∧ j < k + d ∧ q j = true ∧ ¬ p j = true) → cn p k d + 1 ≤ cn q k d := by
  intro d
  induction d with
  | zero => rintro k _ ⟨j, h1, h2, -⟩; omega
  | succ d ih =>
    rintro k h ⟨j, j1, j2, j3, j4⟩
    have h2 := h k (Nat.le_refl _) (by omega)
    rw [cn_s, cn_s]
    by_cases e : j = k
    · subst e
      have h1 := cn_mono d (j + 1) (fun i h1 h2 => h i (by omega) (by omega))
      rw [if_neg j4, if_pos j3]
      omega
    · have h1 := ih (k + 1) (fun i h1 h2 => h i (by omega) (by omega)) ⟨j, by omega, by omega, j3, j4⟩
      by_cases c : p k = true
      · rw [if_pos c, if_pos (h2 c)]; omega
      · rw [if_neg c]
        split <;> omega
theorem cn_full {p : Nat → Bool} : ∀ d k, cn p k d = d → ∀ j, k ≤ j → j < k + d → p j = true := by
  intro d
  induction d with
  | zero => intro k _ j h1 h2; omega
  | succ d ih =>
    intro k h j h1 h2
    have := cn_le p d (k + 1)
    rw [cn_s] at h
    by_cases c : p k = true
    · rw [if_pos c] at h
      by_cases e : j = k
      · rw [e]; exact c
      · exact ih (k + 1) (by omega) j (by omega) (by omega)
    · rw [if_neg c] at h; omega
theorem cn_pos {p : Nat → Bool} {k d j : Nat} (h1 : k ≤ j) (h2 : j < k + d) (h3 : p j = true) : 1 ≤ cn p k d := by
  have := cn_lt (p := fun _ => false) (q := p) d k (fun _ _ _ h => by cases h) ⟨j, h1, h2, h3, by simp⟩
  omega
theorem up_max_le {f : Nat → Nat} {B : Nat} : ∀ (d k a : Nat), up (fun s a => max a (f s)) d k a ≤ B ↔ a ≤ B ∧ ∀ j, k ≤ j → j < k + d → f j ≤ B := by
  intro d
  induction d with
  | zero => intro k a; exact ⟨fun h => ⟨h, fun j h1 h2 => by omega⟩, fun h => h.1⟩
  | succ d ih =>
    intro k a
    show up (fun s a => max a (f s)) d (k + 1) (max a (f k)) ≤ B ↔ _
    rw [ih]
    constructor
    · rintro ⟨h1, h2⟩
      refine ⟨by omega, fun j h3 h4 => ?_⟩
      by_cases e : j = k
      · rw [e]; omega
      · exact h2 j (by omega) (by omega)
    · rintro ⟨h1, h2⟩
      have := h2 k (Nat.le_refl _) (by omega)
      exact ⟨by omega, fun j h3 h4 => h2 j (by omega) (by omega)⟩
/-- one statement's part in a rule's least height -/
def tm (r47 r48 : Nat → Int32) (ht : Nat → Nat) (u s : Nat) : Nat := if bt (r48 u) s = true then ht s + 1 else if bt (r47 u) s = true then ht s else 0
theorem rlh_le {r47 r48 : Nat → Int32} {ht : Nat → Nat} {u B : Nat} : rlh r47 r48 ht u ≤ B ↔ ∀ s, 8 ≤ s → s < 16 → tm r47 r48 ht u s ≤ B := by
  have h := up_max_le (f := tm r47 r48 ht u) (B := B) 8 8 0
  constructor
  · intro h1
    exact (h.mp h1).2
  · intro h1
    exact h.mpr ⟨Nat.zero_le _, h1⟩
theorem tm_mono {r47 r48 : Nat → Int32} {a b : Nat → Nat} (h : ∀ s, a s ≤ b s) (u s : Nat) : tm r47 r48 a u s ≤ tm r47 r48 b u s := by
  unfold tm
  have := h s
  split
  · omega
  · split <;> omega
theorem rlh_mono {r47 r48 : Nat → Int32} {a b : Nat → Nat} (h : ∀ s, a s ≤ b s) (u : Nat) : rlh r47 r48 a u ≤ rlh r47 r48 b u := by
  rw [rlh_le]
  intro s h1 h2
  exact Nat.le_trans (tm_mono h u s) (rlh_le.mp (Nat.le_refl _) s h1 h2)
section
variable {nr : Nat} {r46 r47 r48 r49 : Nat → Int32}
theorem rl1_infl (u : Nat) (ht : Nat → Nat) (s : Nat) : ht s ≤ rl1 r46 r47 r48 r49 u ht s := by
  unfold rl1
  split <;> omega
theorem rl1_mono {a b : Nat → Nat} (h : ∀ s, a s ≤ b s) (u s : Nat) : rl1 r46 r47 r48 r49 u a s ≤ rl1 r46 r47 r48 r49 u b s := by
  unfold rl1
  have h1 := h s
  have h2 := rlh_mono (r47 := r47) (r48 := r48) h u
  split <;> omega
/-- no rule raises P -/
def pre (nr : Nat) (r46 r47 r48 r49 : Nat → Int32) (P : Nat → Nat) : Prop := ∀ u, u < nr → ∀ s, rl1 r46 r47 r48 r49 u P s ≤ P s
theorem pre_iff {P : Nat → Nat} : pre nr r46 r47 r48 r49 P ↔ ∀ u, u < nr → rv_z (r49 u) = false → rlh r47 r48 P u ≤ P (r46 u).toNatClampNeg := by
  constructor
  · intro h u hu hd
    have := h u hu (r46 u).toNatClampNeg
    unfold rl1 at this
    rw [if_pos ⟨rfl, hd⟩] at this
    omega
  · intro h u hu s
    unfold rl1
    by_cases c : s = (r46 u).toNatClampNeg ∧ rv_z (r49 u) = false
    · rw [if_pos c]
      have := h u hu c.2
      rw [← c.1] at this
      omega
    · rw [if_neg c]; exact Nat.le_refl _
theorem up_pre {P : Nat → Nat} (hP : pre nr r46 r47 r48 r49 P) : ∀ d k (a : Nat → Nat), k + d ≤ nr → (∀ s, a s ≤ P s) → ∀ s, up (rl1 r46 r47 r48 r49) d k a s ≤ P s := by
  intro d
  induction d with
  | zero => intro k a _ h; exact h
  | succ d ih =>
    intro k a hk h
    exact ih (k + 1) _ (by omega) (fun s => Nat.le_trans (rl1_mono h k s) (hP k (by omega) s))
theorem rlk_pre {P : Nat → Nat} (hP : pre nr r46 r47 r48 r49 P) : ∀ k s, rlk nr r46 r47 r48 r49 k s ≤ P s := by
  intro k
  induction k with
  | zero => intro s; exact Nat.zero_le _
  | succ k ih => exact up_pre hP nr 0 _ (by omega) ih
theorem up_infl : ∀ d k (a : Nat → Nat) s, a s ≤ up (rl1 r46 r47 r48 r49) d k a s := by
  intro d
  induction d with
  | zero => intro k a s; exact Nat.le_refl _
  | succ d ih => intro k a s; exact Nat.le_trans (rl1_infl k a s) (ih (k + 1) _ s)
theorem rlk_s (k : Nat) : rlk nr r46 r47 r48 r49 (k + 1) = rlr nr r46 r47 r48 r49 (rlk nr r46 r47 r48 r49 k) := rfl
theorem rlk_mono (k s : Nat) : rlk nr r46 r47 r48 r49 k s ≤ rlk nr r46 r47 r48 r49 (k + 1) s := up_infl nr 0 _ s
/-- what a rule asks for is there behind its round -/
theorem rlh_round {a : Nat → Nat} {u : Nat} (hu : u < nr) (hd : rv_z (r49 u) = false) : rlh r47 r48 a u ≤ rlr nr r46 r47 r48 r49 a (r46 u).toNatClampNeg := by
  unfold rlr
  rw [show nr = u + (1 + (nr - (u + 1))) by omega, up_add]
  generalize hb : up (rl1 r46 r47 r48 r49) u 0 a = b
  have hab : ∀ s, a s ≤ b s := fun s => by rw [← hb]; exact up_infl u 0 a s
  rw [up_add, Nat.zero_add]
  refine Nat.le_trans ?_ (up_infl _ _ _ _)
  show _ ≤ rl1 r46 r47 r48 r49 u b (r46 u).toNatClampNeg
  unfold rl1
  rw [if_pos ⟨rfl, hd⟩]
  have := rlh_mono (r47 := r47) (r48 := r48) hab u
  omega
theorem fix_pre {H : Nat → Nat} (h : rlr nr r46 r47 r48 r49 H = H) : pre nr r46 r47 r48 r49 H := by
  rw [pre_iff]
  intro u hu hd
  have := rlh_round (r46 := r46) (r47 := r47) (r48 := r48) (r49 := r49) (a := H) hu hd
  rw [h] at this
  exact this
theorem pre_fix {H : Nat → Nat} (h : pre nr r46 r47 r48 r49 H) : rlr nr r46 r47 r48 r49 H = H := by
  funext s
  exact Nat.le_antisymm (up_pre h nr 0 H (by omega) (fun _ => Nat.le_refl _) s) (up_infl nr 0 H s)
theorem rlk_out (hh : ∀ u, u < nr → 8 ≤ (r46 u).toNatClampNeg ∧ (r46 u).toNatClampNeg < 16) : ∀ k s, (s < 8 ∨ 16 ≤ s) → rlk nr r46 r47 r48 r49 k s = 0 := by
  have one : ∀ d k (a : Nat → Nat), k + d ≤ nr → ∀ s, (s < 8 ∨ 16 ≤ s) → up (rl1 r46 r47 r48 r49) d k a s = a s := by
    intro d
    induction d with
    | zero => intro k a _ s _; rfl
    | succ d ih =>
      intro k a hk s hs
      show up (rl1 r46 r47 r48 r49) d (k + 1) (rl1 r46 r47 r48 r49 k a) s = a s
      rw [ih (k + 1) _ (by omega) s hs]
      unfold rl1
      have := hh k (by omega)
      rw [if_neg (fun z => by omega)]
  intro k
  induction k with
  | zero => intro s _; rfl
  | succ k ih =>
    intro s hs
    rw [rlk_s]
    unfold rlr
    rw [one nr 0 _ (by omega) s hs, ih s hs]
/-- a smaller one that no rule raises isn't there -/
theorem least {N : Nat} {P : Nat → Nat} (hP : pre nr r46 r47 r48 r49 P) (s : Nat) : ¬ P s < rlk nr r46 r47 r48 r49 N s := Nat.not_lt.mpr (rlk_pre hP N s)
/-- every round settles one more -/
theorem settle {N k : Nat} (hh : ∀ u, u < nr → 8 ≤ (r46 u).toNatClampNeg ∧ (r46 u).toNatClampNeg < 16) (hN : rlr nr r46 r47 r48 r49 (rlk nr r46 r47 r48 r49 N) = rlk nr r46 r47 r48 r49 N) (hk : ∃ s, rlk nr r46 r47 r48 r49 k s ≠ rlk nr r46 r47 r48 r49 N s) :
    ∃ s, 8 ≤ s ∧ s < 16 ∧ rlk nr r46 r47 r48 r49 (k + 1) s = rlk nr r46 r47 r48 r49 N s ∧ rlk nr r46 r47 r48 r49 k s ≠ rlk nr r46 r47 r48 r49 N s := by
  have hp := fix_pre hN
  have le : ∀ j s, rlk nr r46 r47 r48 r49 j s ≤ rlk nr r46 r47 r48 r49 N s := rlk_pre hp
  by_cases c : ∃ s, 8 ≤ s ∧ s < 16 ∧ rlk nr r46 r47 r48 r49 (k + 1) s = rlk nr r46 r47 r48 r49 N s ∧ rlk nr r46 r47 r48 r49 k s ≠ rlk nr r46 r47 r48 r49 N s
  · exact c
  · exfalso
    have st : ∀ s, rlk nr r46 r47 r48 r49 (k + 1) s = rlk nr r46 r47 r48 r49 N s → rlk nr r46 r47 r48 r49 k s = rlk nr r46 r47 r48 r49 N s := fun s hs => by
      by_cases h1 : s < 8 ∨ 16 ≤ s
      · rw [rlk_out hh k s h1, rlk_out hh N s h1]
      · by_cases h2 : rlk nr r46 r47 r48 r49 k s = rlk nr r46 r47 r48 r49 N s
        · exact h2
        · exact absurd ⟨s, by omega, by omega, hs, h2⟩ c
    have hP : pre nr r46 r47 r48 r49 (fun s => if rlk nr r46 r47 r48 r49 k s = rlk nr r46 r47 r48 r49 N s then rlk nr r46 r47 r48 r49 N s else rlk nr r46 r47 r48 r49 N s - 1) := by
      rw [pre_iff]
      intro u hu hd
      have base := pre_iff.mp hp u hu hd
      have rnd := rlh_round (nr := nr) (r46 := r46) (r47 := r47) (r48 := r48) (r49 := r49) (a := rlk nr r46 r47 r48 r49 k) hu hd
      rw [← rlk_s] at rnd
      rw [rlh_le] at base rnd ⊢
      intro s h1 h2
      have b := base s h1 h2
      have r := rnd s h1 h2
      have ls := le k s
      have lh := le (k + 1) (r46 u).toNatClampNeg
      by_cases e : rlk nr r46 r47 r48 r49 k (r46 u).toNatClampNeg = rlk nr r46 r47 r48 r49 N (r46 u).toNatClampNeg
      · show tm r47 r48 _ u s ≤ (if _ then _ else _)
        rw [if_pos e]
        have hle : ∀ t, (if rlk nr r46 r47 r48 r49 k t = rlk nr r46 r47 r48 r49 N t then rlk nr r46 r47 r48 r49 N t else rlk nr r46 r47 r48 r49 N t - 1) ≤ rlk nr r46 r47 r48 r49 N t := fun t => by split <;> omega
        exact Nat.le_trans (tm_mono hle u s) b
      · show tm r47 r48 _ u s ≤ (if _ then _ else _)
        rw [if_neg e]
        have ne : rlk nr r46 r47 r48 r49 (k + 1) (r46 u).toNatClampNeg ≠ rlk nr r46 r47 r48 r49 N (r46 u).toNatClampNeg := fun z => e (st _ z)
        unfold tm at b r ⊢
        by_cases m1 : bt (r48 u) s = true
        · rw [if_pos m1] at b r ⊢
          show (if _ then _ else _) + 1 ≤ _
          by_cases f : rlk nr r46 r47 r48 r49 k s = rlk nr r46 r47 r48 r49 N s
          · rw [if_pos f]; omega
          · rw [if_neg f]; omega
        · rw [if_neg m1] at b r ⊢
          by_cases m2 : bt (r47 u) s = true
          · rw [if_pos m2] at b r ⊢
            show (if _ then _ else _) ≤ _
            by_cases f : rlk nr r46 r47 r48 r49 k s = rlk nr r46 r47 r48 r49 N s
            · rw [if_pos f]; omega
            · rw [if_neg f]; omega
          · rw [if_neg m2]; omega
    obtain ⟨s, hs⟩ := hk
    have l1 := le k s
    refine least (N := N) hP s ?_
    show (if _ then _ else _) < _
    rw [if_neg hs]
    omega
theorem fix_8 {N : Nat} (hh : ∀ u, u < nr → 8 ≤ (r46 u).toNatClampNeg ∧ (r46 u).toNatClampNeg < 16) (hN : rlr nr r46 r47 r48 r49 (rlk nr r46 r47 r48 r49 N) = rlk nr r46 r47 r48 r49 N) : rlk nr r46 r47 r48 r49 8 = rlk nr r46 r47 r48 r49 N := by
  have hp := fix_pre hN
  have le : ∀ j s, rlk nr r46 r47 r48 r49 j s ≤ rlk nr r46 r47 r48 r49 N s := rlk_pre hp
  have grow : ∀ k, (∀ s, rlk nr r46 r47 r48 r49 k s = rlk nr r46 r47 r48 r49 N s) ∨ k ≤ cn (fun s => decide (rlk nr r46 r47 r48 r49 k s = rlk nr r46 r47 r48 r49 N s)) 8 8 := by
    intro k
    induction k with
    | zero => exact Or.inr (Nat.zero_le _)
    | succ k ih =>
      have keep : ∀ s, rlk nr r46 r47 r48 r49 k s = rlk nr r46 r47 r48 r49 N s → rlk nr r46 r47 r48 r49 (k + 1) s = rlk nr r46 r47 r48 r49 N s := fun s h => by
        have := rlk_mono (nr := nr) (r46 := r46) (r47 := r47) (r48 := r48) (r49 := r49) k s
        have := le (k + 1) s
        omega
      rcases ih with h | h
      · exact Or.inl fun s => keep s (h s)
      · by_cases c : ∃ s, rlk nr r46 r47 r48 r49 k s ≠ rlk nr r46 r47 r48 r49 N s
        · obtain ⟨s, s1, s2, s3, s4⟩ := settle hh hN c
          right
          have := cn_lt (p := fun s => decide (rlk nr r46 r47 r48 r49 k s = rlk nr r46 r47 r48 r49 N s)) (q := fun s => decide (rlk nr r46 r47 r48 r49 (k + 1) s = rlk nr r46 r47 r48 r49 N s)) 8 8 (fun j _ _ h => decide_eq_true (keep j (of_decide_eq_true h))) ⟨s, s1, by omega, decide_eq_true s3, by simpa using s4⟩
          omega
        · left
          intro s
          apply keep
          exact Classical.byContradiction fun z => c ⟨s, z⟩
  rcases grow 8 with h | h
  · exact funext h
  · have hle := cn_le (fun s => decide (rlk nr r46 r47 r48 r49 8 s = rlk nr r46 r47 r48 r49 N s)) 8 8
    have := cn_full 8 8 (show cn (fun s => decide (rlk nr r46 r47 r48 r49 8 s = rlk nr r46 r47 r48 r49 N s)) 8 8 = 8 by omega)
    funext s
    by_cases h1 : s < 8 ∨ 16 ≤ s
    · rw [rlk_out hh 8 s h1, rlk_out hh N s h1]
    · exact of_decide_eq_true (this s (by omega) (by omega))
theorem rlk_stay {N : Nat} (hN : rlr nr r46 r47 r48 r49 (rlk nr r46 r47 r48 r49 N) = rlk nr r46 r47 r48 r49 N) : ∀ d, rlk nr r46 r47 r48 r49 (N + d) = rlk nr r46 r47 r48 r49 N := by
  intro d
  induction d with
  | zero => rfl
  | succ d ih =>
    show rlr nr r46 r47 r48 r49 (rlk nr r46 r47 r48 r49 (N + d)) = _
    rw [ih, hN]
/-- found at all, found by the sixteenth round -/
theorem fix_16 {N : Nat} (hh : ∀ u, u < nr → 8 ≤ (r46 u).toNatClampNeg ∧ (r46 u).toNatClampNeg < 16) (hN : rlr nr r46 r47 r48 r49 (rlk nr r46 r47 r48 r49 N) = rlk nr r46 r47 r48 r49 N) : rlk nr r46 r47 r48 r49 16 = rlk nr r46 r47 r48 r49 N ∧ rlr nr r46 r47 r48 r49 (rlk nr r46 r47 r48 r49 16) = rlk nr r46 r47 r48 r49 16 := by
  have h8 := fix_8 hh hN
  have h8' : rlr nr r46 r47 r48 r49 (rlk nr r46 r47 r48 r49 8) = rlk nr r46 r47 r48 r49 8 := by rw [h8]; exact hN
  have h16 := rlk_stay h8' 8
  have e16 : rlk nr r46 r47 r48 r49 16 = rlk nr r46 r47 r48 r49 8 := h16
  refine ⟨by rw [e16, h8], by rw [e16, h8']⟩
/-- no height is left out -/
theorem no_gap {N w : Nat} (hN : rlr nr r46 r47 r48 r49 (rlk nr r46 r47 r48 r49 N) = rlk nr r46 r47 r48 r49 N) (hh : ∀ u, u < nr → 8 ≤ (r46 u).toNatClampNeg ∧ (r46 u).toNatClampNeg < 16) (hw : ∃ s, w < rlk nr r46 r47 r48 r49 N s) : ∃ s, 8 ≤ s ∧ s < 16 ∧ rlk nr r46 r47 r48 r49 N s = w := by
  by_cases c : ∃ s, 8 ≤ s ∧ s < 16 ∧ rlk nr r46 r47 r48 r49 N s = w
  · exact c
  · exfalso
    have hp := fix_pre hN
    have ng : ∀ s, 8 ≤ s → s < 16 → rlk nr r46 r47 r48 r49 N s ≠ w := fun s h1 h2 h3 => c ⟨s, h1, h2, h3⟩
    have hP : pre nr r46 r47 r48 r49 (fun s => if w < rlk nr r46 r47 r48 r49 N s then rlk nr r46 r47 r48 r49 N s - 1 else rlk nr r46 r47 r48 r49 N s) := by
      rw [pre_iff]
      intro u hu hd
      have base := pre_iff.mp hp u hu hd
      rw [rlh_le] at base ⊢
      intro s h1 h2
      have b := base s h1 h2
      have n1 := ng s h1 h2
      have n2 := ng _ (hh u hu).1 (hh u hu).2
      unfold tm at b ⊢
      show _ ≤ (if w < rlk nr r46 r47 r48 r49 N (r46 u).toNatClampNeg then rlk nr r46 r47 r48 r49 N (r46 u).toNatClampNeg - 1 else rlk nr r46 r47 r48 r49 N (r46 u).toNatClampNeg)
      by_cases m1 : bt (r48 u) s = true
      · rw [if_pos m1] at b ⊢
        show (if w < rlk nr r46 r47 r48 r49 N s then rlk nr r46 r47 r48 r49 N s - 1 else rlk nr r46 r47 r48 r49 N s) + 1 ≤ _
        split <;> split <;> omega
      · rw [if_neg m1] at b ⊢
        by_cases m2 : bt (r47 u) s = true
        · rw [if_pos m2] at b ⊢
          show (if w < rlk nr r46 r47 r48 r49 N s then rlk nr r46 r47 r48 r49 N s - 1 else rlk nr r46 r47 r48 r49 N s) ≤ _
          split <;> split <;> omega
        · rw [if_neg m2]; omega
    obtain ⟨s, hs⟩ := hw
    refine least (N := N) hP s ?_
    show (if w < rlk nr r46 r47 r48 r49 N s then rlk nr r46 r47 r48 r49 N s - 1 else rlk nr r46 r47 r48 r49 N s) < _
    rw [if_pos hs]
    omega
theorem high_8 {N : Nat} (hN : rlr nr r46 r47 r48 r49 (rlk nr r46 r47 r48 r49 N) = rlk nr r46 r47 r48 r49 N) (hh : ∀ u, u < nr → 8 ≤ (r46 u).toNatClampNeg ∧ (r46 u).toNatClampNeg < 16) (s : Nat) : rlk nr r46 r47 r48 r49 N s ≤ 8 := by
  have grow : ∀ w, (∃ s, w < rlk nr r46 r47 r48 r49 N s) → w + 1 ≤ cn (fun s => decide (rlk nr r46 r47 r48 r49 N s ≤ w)) 8 8 := by
    intro w
    induction w with
    | zero =>
      intro hw
      obtain ⟨t, t1, t2, t3⟩ := no_gap hN hh hw
      exact cn_pos (j := t) t1 (by omega) (decide_eq_true (by omega))
    | succ w ih =>
      rintro ⟨t, ht⟩
      have h1 := ih ⟨t, by omega⟩
      obtain ⟨j, j1, j2, j3⟩ := no_gap hN hh ⟨t, ht⟩
      have := cn_lt (p := fun s => decide (rlk nr r46 r47 r48 r49 N s ≤ w)) (q := fun s => decide (rlk nr r46 r47 r48 r49 N s ≤ w + 1)) 8 8 (fun i _ _ h => decide_eq_true (by have := of_decide_eq_true h; omega)) ⟨j, j1, by omega, decide_eq_true (by omega), by simp; omega⟩
      omega
  apply Classical.byContradiction
  intro c
  have := grow 8 ⟨s, by omega⟩
  have := cn_le (fun s => decide (rlk nr r46 r47 r48 r49 N s ≤ 8)) 8 8
  omega
/-- the heights of the statements, added up -/
def sm (a : Nat → Nat) : Nat := a 8 + a 9 + a 10 + a 11 + a 12 + a 13 + a 14 + a 15
theorem sm_le {a b : Nat → Nat} (h : ∀ s, a s ≤ b s) : sm a ≤ sm b := by
  unfold sm
  have := h 8; have := h 9; have := h 10; have := h 11; have := h 12; have := h 13; have := h 14; have := h 15
  omega
theorem sm_lt {a b : Nat → Nat} (h : ∀ s, a s ≤ b s) {s : Nat} (h1 : 8 ≤ s) (h2 : s < 16) (h3 : a s < b s) : sm a + 1 ≤ sm b := by
  unfold sm
  have := h 8; have := h 9; have := h 10; have := h 11; have := h 12; have := h 13; have := h 14; have := h 15
  have : s = 8 ∨ s = 9 ∨ s = 10 ∨ s = 11 ∨ s = 12 ∨ s = 13 ∨ s = 14 ∨ s = 15 := by omega
  rcases this with rfl | rfl | rfl | rfl | rfl | rfl | rfl | rfl <;> omega
theorem sm_round {k : Nat} (hh : ∀ u, u < nr → 8 ≤ (r46 u).toNatClampNeg ∧ (r46 u).toNatClampNeg < 16) (hk : rlr nr r46 r47 r48 r49 (rlk nr r46 r47 r48 r49 k) ≠ rlk nr r46 r47 r48 r49 k) : sm (rlk nr r46 r47 r48 r49 k) + 1 ≤ sm (rlk nr r46 r47 r48 r49 (k + 1)) := by
  have : ∃ s, rlk nr r46 r47 r48 r49 k s < rlk nr r46 r47 r48 r49 (k + 1) s := by
    apply Classical.byContradiction
    intro c
    apply hk
    funext s
    have h1 := rlk_mono (nr := nr) (r46 := r46) (r47 := r47) (r48 := r48) (r49 := r49) k s
    have h2 : ¬ rlk nr r46 r47 r48 r49 k s < rlk nr r46 r47 r48 r49 (k + 1) s := fun z => c ⟨s, z⟩
    show rlk nr r46 r47 r48 r49 (k + 1) s = _
    omega
  obtain ⟨s, hs⟩ := this
  have hin : 8 ≤ s ∧ s < 16 := by
    apply Classical.byContradiction
    intro c
    have h1 : s < 8 ∨ 16 ≤ s := by omega
    rw [rlk_out hh k s h1, rlk_out hh (k + 1) s h1] at hs
    omega
  exact sm_lt (rlk_mono k) hin.1 hin.2 hs
/-- where some P isn't raised, the heights are found -/
theorem pre_16 {P : Nat → Nat} (hh : ∀ u, u < nr → 8 ≤ (r46 u).toNatClampNeg ∧ (r46 u).toNatClampNeg < 16) (hP : pre nr r46 r47 r48 r49 P) : rlr nr r46 r47 r48 r49 (rlk nr r46 r47 r48 r49 16) = rlk nr r46 r47 r48 r49 16 := by
  apply Classical.byContradiction
  intro c
  have nf : ∀ k, rlr nr r46 r47 r48 r49 (rlk nr r46 r47 r48 r49 k) ≠ rlk nr r46 r47 r48 r49 k := fun k z => c (fix_16 hh z).2
  have gr : ∀ k, k ≤ sm (rlk nr r46 r47 r48 r49 k) := by
    intro k
    induction k with
    | zero => exact Nat.zero_le _
    | succ k ih => have := sm_round hh (nf k); omega
  have := gr (sm P + 1)
  have := sm_le (rlk_pre hP (sm P + 1))
  omega
end
