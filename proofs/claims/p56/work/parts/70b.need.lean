/-! WHAT IS WRONG, WHAT IS RIGHT -/
theorem x1k {α ρ : Type} (x : α) (k : α → Option ρ) (kx : Nat → Option ρ) : lk_x1 (some (.inl x)) k kx = k x := rfl
theorem x1e {α ρ : Type} (e : Nat) (k : α → Option ρ) (kx : Nat → Option ρ) : lk_x1 (some (.inr e)) k kx = kx e := rfl
theorem x3k {α ρ : Type} (x : α) (M : rv_Mem) (k : α → rv_Mem → Option ρ) (kx : Nat → rv_Mem → Option ρ) : lk_x3 (some (.inl (x, M))) k kx = k x M := rfl
theorem x3e {α ρ : Type} (e : Nat) (M : rv_Mem) (k : α → rv_Mem → Option ρ) (kx : Nat → rv_Mem → Option ρ) : lk_x3 (some (.inr (e, M))) k kx = kx e M := rfl
theorem xmk {α ρ : Type} (x : α) (g : rC_gh) (M : rv_Mem) (k : α → rC_gh → rv_Mem → Option ρ) (kx : Nat → Option ρ) : lk_xm (some (.inl (x, g, M))) k kx = k x g M := rfl
theorem xme {α ρ : Type} (e : Nat) (k : α → rC_gh → rv_Mem → Option ρ) (kx : Nat → Option ρ) : lk_xm (some (.inr e)) k kx = kx e := rfl
theorem o3k {α β γ δ : Type} (x : α) (y : β) (z : γ) (k : α → β → γ → Option δ) : lk_o3 (some (x, y, z)) k = k x y z := rfl
theorem hh1 {ρ : Type} (a b c : Option ρ) : lk_hh 1 a b c = a := rfl
theorem hh2 {ρ : Type} (a b c : Option ρ) : lk_hh 2 a b c = b := rfl
theorem hh3 {ρ : Type} (a b c : Option ρ) : lk_hh 3 a b c = c := rfl
/-- a number that is none of N things -/
def Wr (x : Int32) (N : Nat) : Prop := x < 0 ∨ nI N ≤ x
theorem Wr.lo1 (N : Nat) : ∀ r, r < 30 → Wr (-1 - nI r) N := fun r hr => Or.inl ((by decide : ∀ r, r < 30 → (-1 : Int32) - nI r < 0) r hr)
theorem Wr.lo2 (N : Nat) : ∀ r, r < 30 → Wr (-2 - nI r) N := fun r hr => Or.inl ((by decide : ∀ r, r < 30 → (-2 : Int32) - nI r < 0) r hr)
theorem Wr.lo (N : Nat) : Wr (-1) N := Or.inl (by decide)
theorem Wr.hi {N r : Nat} (h : N + r < 2147483648) : Wr (nI N + nI r) N := Or.inr (by rw [q_add, q_le (by omega) h]; omega)
theorem Wr.at {N : Nat} : Wr (nI N) N := Or.inr (Int32.le_refl _)
theorem wr_if {α : Type} {x L : Int32} {N : Nat} (hL : L = nI N) (h : Wr x N) (a b : α) : (if 0 ≤ x then (if L ≤ x then a else b) else a) = a := by
  by_cases h0 : 0 ≤ x
  · rw [if_pos h0]
    rcases h with h | h
    · rw [q_neg h] at h0; exact absurd h0 id
    · rw [hL, if_pos h]
  · rw [if_neg h0]
theorem nd_person {gh : rC_gh} {C : rv_Mem} {x : Int32} (h : Wr x 6) : f11_needPerson gh C x = some (.inr 1) := wr_if rfl h _ _
theorem nd_repo {gh : rC_gh} {C : rv_Mem} {x : Int32} (h : Wr x 2) : f11_needRepository gh C x = some (.inr 1) := wr_if rfl h _ _
theorem nd_file {gh : rC_gh} {C : rv_Mem} {x : Int32} (h : Wr x 4) : f11_needFile gh C x = some (.inr 1) := wr_if rfl h _ _
theorem nd_label {gh : rC_gh} {C : rv_Mem} {x : Int32} (h : Wr x 2) : f11_needLabel gh C x = some (.inr 2) := wr_if rfl h _ _
theorem nd_change {gh : rC_gh} {C : rv_Mem} {x : Int32} (h : Wr x (gh.1 0)) : f11_needChange gh C x = some (.inr 1) := wr_if rfl h _ _
theorem nd_comment {gh : rC_gh} {C : rv_Mem} {x : Int32} (h : Wr x (gh.1 1)) : f11_needComment gh C x = some (.inr 1) := wr_if rfl h _ _
theorem ok_p0 {gh : rC_gh} {C : rv_Mem} : f11_needPerson gh C 0 = some (.inl ()) := rfl
theorem ok_person {gh : rC_gh} {C : rv_Mem} {p : Nat} (h : p < 6) : f11_needPerson gh C (nI p) = some (.inl ()) := by
  unfold f11_needPerson
  rw [if_pos (by rw [q_0, q_le (by omega) (by omega)]; omega), if_neg (by rw [q_6, q_le (by omega) (by omega)]; omega)]
theorem ok_repo {gh : rC_gh} {C : rv_Mem} {p : Nat} (h : p < 2) : f11_needRepository gh C (nI p) = some (.inl ()) := by
  unfold f11_needRepository
  rw [if_pos (by rw [q_0, q_le (by omega) (by omega)]; omega), if_neg (by rw [q_2, q_le (by omega) (by omega)]; omega)]
theorem ok_file {gh : rC_gh} {C : rv_Mem} {p : Nat} (h : p < 4) : f11_needFile gh C (nI p) = some (.inl ()) := by
  unfold f11_needFile
  rw [if_pos (by rw [q_0, q_le (by omega) (by omega)]; omega), if_neg (by rw [q_4, q_le (by omega) (by omega)]; omega)]
theorem ok_label {gh : rC_gh} {C : rv_Mem} {p : Nat} (h : p < 2) : f11_needLabel gh C (nI p) = some (.inl ()) := by
  unfold f11_needLabel
  rw [if_pos (by rw [q_0, q_le (by omega) (by omega)]; omega), if_neg (by rw [q_2, q_le (by omega) (by omega)]; omega)]
section
variable {n : Nat} {gh : rC_gh} {C R : rv_Mem}
theorem nd_commit (hR : Rn n gh C R) {x : Int32} (h : Wr x n) : f11_needCommit gh C x = some (.inr 1) := wr_if hR.cnt.2.1 h _ _
theorem ok_change (hR : Rn n gh C R) {m : Nat} (h : m < gh.1 0) : f11_needChange gh C (nI m) = some (.inl (100 + m)) := by
  have hc := hR.ch20
  unfold f11_needChange
  rw [if_pos (by rw [q_0, q_le (by omega) (by omega)]; omega), if_neg (by rw [q_le (by omega) (by omega)]; omega), if_pos (q_inb h (by omega)), q_nc (by omega), if_pos (is1 h hc)]
theorem ok_commit (hR : Rn n gh C R) {c : Nat} (h : c < n) : f11_needCommit gh C (nI c) = some (.inl ()) := by
  have hn := hR.n80
  unfold f11_needCommit
  rw [hR.cnt.2.1, if_pos (by rw [q_0, q_le (by omega) (by omega)]; omega), if_neg (by rw [q_le (by omega) (by omega)]; omega)]
/-- a row of lines: a commit, or the desk -/
def isRow (n : Nat) (x : Int32) (c : Nat) : Prop := (c < n ∧ x = nI c) ∨ (c = 80 ∧ x = NO)
theorem ok_row (hR : Rn n gh C R) {x : Int32} {c : Nat} (h : isRow n x c) : f11_needCommitOrDesk gh C x = some (.inl (nI c)) := by
  have hn := hR.n80
  unfold f11_needCommitOrDesk
  rcases h with ⟨h, rfl⟩ | ⟨rfl, rfl⟩
  · rw [q_no, if_neg (by rw [q_no_eq (by omega)]; exact id), ok_commit hR h, x1_inl]
  · rw [q_no, if_pos rfl]; rfl
theorem nd_set (hR : Rn n gh C R) {m k : Nat} (h : m < gh.1 0) (hk : R 14 m = nI k) {x : Int32} (hx : Wr x k) : f11_needSet gh C (100 + m) x = some (.inr 1) := by
  obtain ⟨k', k1, k2, k3, k4, -⟩ := hR.sets h
  have e : C (100 + m) 4 = nI k := by rw [k3, ← k4, hk]
  unfold f11_needSet
  rw [if_pos (is1 h hR.ch20), e]
  exact wr_if rfl hx _ _
theorem ok_set (hR : Rn n gh C R) {m k s : Nat} (h : m < gh.1 0) (hk : R 14 m = nI k) (hk80 : k ≤ 80) (hs : s < k) : ∃ c, 2 ≤ c ∧ c < n ∧ C (120 + m) s = nI c ∧ R 5 c = nI m ∧ R 6 c = nI s ∧ mAt n (R 5) (R 6) (nI m) (nI s) = nI c ∧ f11_needSet gh C (100 + m) (nI s) = some (.inl (nI c)) := by
  have hc := hR.ch20
  obtain ⟨c, c1, c2, c3, c4, c5, c6⟩ := hR.at h hk80 hk hs
  obtain ⟨k', k1, k2, k3, k4, -⟩ := hR.sets h
  have e : C (100 + m) 4 = nI k := by rw [k3, ← k4, hk]
  refine ⟨c, c1, c2, c3, c4, c5, c6, ?_⟩
  unfold f11_needSet f0_commitAt
  have hA := isA1 h hc
  have hL : rC_ln (100 + m + 20) = 80 := by unfold rC_ln; rw [if_neg (by omega)]
  rw [if_pos (is1 h hc), e, if_pos (by rw [q_0, q_le (by omega) (by omega)]; omega), if_neg (by rw [q_le (by omega) (by omega)]; omega), if_pos (is1 h hc), if_pos (by rw [q_lt (by omega) (by omega)]; omega), s9_read (L := 80) (by omega) hL hA (by omega), o1_some, show 100 + m + 20 = 120 + m by omega, c3, o1_some]
end
