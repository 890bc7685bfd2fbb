/-! LANDING: one step on both sides, parts -/
/-- the chain's end is the same -/
theorem chain_end {ch : Nat} {P : Nat → Int32} {wy : Nat → Nat} {g sq : Int32} (hc : ch ≤ 20) (hV : parV ch P) (hsq : ∀ p, p < 32 → (bt sq p = true ↔ sqd ch P wy g p)) (hwy : ∀ i p, i < ch → p < ch → P i = nI p → wy i = wy p) {i : Nat} (hi : i < ch) (hg : bt g i = true) (hw : wy i = 2) {e : Nat} (he : e < ch) (h : endOf (cg P sq) i e) : endOf (cg P g) i e := by
  have val := fun d => (pch_cong (f' := cg P sq) (x := nI i) (Or.inr ⟨i, hi, rfl⟩) hc (cg_V hV) (fun _ _ => rfl) d).2
  have F1 : ∀ d j, j < ch → pch (cg P sq) (nI i) d = nI j → bt g j = true ∧ wy j = 2 := by
    refine pch_ind hc (cg_V hV) hi ⟨hg, hw⟩ (fun c p h1 h2 q e => ?_)
    obtain ⟨e1, e2⟩ := cg_inv (by omega) e
    obtain ⟨k, k1, k2, k3, k4, k5⟩ := (hsq p (by omega)).mp e2
    exact ⟨k4, by rw [← hwy c p h1 h2 e1]; exact q.2⟩
  have same : ∀ d, pch (cg P sq) (nI i) d = pch (cg P g) (nI i) d := by
    intro d
    induction d with
    | zero => rfl
    | succ d ih =>
      rw [pch_s, pch_s, ← ih]
      rcases val d with z | ⟨c, c1, c2⟩
      · rw [if_pos z, if_pos z]
      · rw [c2, if_neg (by rw [q_no_eq (by omega)]; simp), if_neg (by rw [q_no_eq (by omega)]; simp), q_nc (by omega)]
        obtain ⟨z1, z2⟩ := F1 d c c1 c2
        exact (cg_sq hc hV hsq hwy c1 z1).1 z2
  obtain ⟨d, d1, d2⟩ := h
  obtain ⟨z1, z2⟩ := F1 d e he d1
  exact ⟨d, by rw [← same]; exact d1, by rw [← (cg_sq hc hV hsq hwy he z1).1 z2]; exact d2⟩
/-- the class's chain of calls, with what follows it -/
theorem tail_K {gh : rC_gh} {M : rv_Mem} {r : Nat} (hr : r < 2) (a : Option Bool) (b : Option (Bool × rv_Mem)) (c : rv_Mem → Option (Int32 × rv_Mem)) (K : Int32 → rv_Mem → Option (Bool × rv_Mem)) :
    (∀ M', (rv_o1 a (fun r17 => (if r17 = false then rv_o2 b (fun r21 M22 => (if r21 = false then (some (false, M22)) else rv_o2 (c M22) (fun r24 M25 => rv_o1 (f9_write gh M25 22 (nI r) r24) (fun M27 => some (true, M27))))) else (some (false, M)))) : Option (Bool × rv_Mem)) = some (false, M') → rv_o1 a (fun r17 => (if r17 = false then rv_o2 b (fun r21 M22 => (if r21 = false then (some (false, M22)) else rv_o2 (c M22) (fun r24 M25 => rv_o1 (f9_write gh M25 22 (nI r) r24) (fun M27 => K r24 M27)))) else (some (false, M)))) = some (false, M')) ∧
    (∀ M', (rv_o1 a (fun r17 => (if r17 = false then rv_o2 b (fun r21 M22 => (if r21 = false then (some (false, M22)) else rv_o2 (c M22) (fun r24 M25 => rv_o1 (f9_write gh M25 22 (nI r) r24) (fun M27 => some (true, M27))))) else (some (false, M)))) : Option (Bool × rv_Mem)) = some (true, M') → rv_o1 a (fun r17 => (if r17 = false then rv_o2 b (fun r21 M22 => (if r21 = false then (some (false, M22)) else rv_o2 (c M22) (fun r24 M25 => rv_o1 (f9_write gh M25 22 (nI r) r24) (fun M27 => K r24 M27)))) else (some (false, M)))) = K (M' 22 r) M') := by
  cases a with
  | none => exact ⟨fun M' h => (by cases h), fun M' h => (by cases h)⟩
  | some w =>
    cases w with
    | true => exact ⟨fun M' h => h, fun M' h => (by cases h)⟩
    | false =>
      rw [o1_some, o1_some, if_pos rfl, if_pos rfl]
      cases b with
      | none => exact ⟨fun M' h => (by cases h), fun M' h => (by cases h)⟩
      | some p =>
        obtain ⟨b1, M22⟩ := p
        rw [o2_some, o2_some]
        cases b1 with
        | false => exact ⟨fun M' h => h, fun M' h => (by cases h)⟩
        | true =>
          rw [if_neg (by simp), if_neg (by simp)]
          cases hcc : c M22 with
          | none => exact ⟨fun M' h => (by cases h), fun M' h => (by cases h)⟩
          | some q =>
            obtain ⟨v, M25⟩ := q
            rw [o2_some, o2_some, s9_write (L := 2) hr rfl rfl (by omega), o1_some, o1_some]
            refine ⟨fun M' h => (by cases h), fun M' h => ?_⟩
            have e : rv_u M25 22 r v = M' := by
              have := Option.some.inj h
              exact congrArg Prod.snd this
            rw [← e, mu_same]
/-- what does not change but in the end -/
def lex (gh : rC_gh) (C R M S : rv_Mem) (g : Int32) : Prop := (∀ r, 2 ≤ r → M 22 r = C 22 r) ∧ (∀ r, 2 ≤ r → S 9 r = R 9 r) ∧ ∀ x, (x < gh.1 0 → bt g x = false) → S 18 x = R 18 x
def lctx (gh : rC_gh) (C R : rv_Mem) (P : Nat → Int32) (ρ wy : Nat → Nat) (g sq : Int32) : Prop := gh.1 0 ≤ 20 ∧ parV (gh.1 0) P ∧ (∀ i p, i < gh.1 0 → p < gh.1 0 → P i = nI p → ρ p < ρ i) ∧ (∀ i, i < gh.1 0 → ∃ r, r < 2 ∧ C (100 + i) 2 = nI r ∧ C 51 r = nI (wy i) ∧ R 10 r = nI (wy i) ∧ wy i < 3) ∧ (∀ a b, a < gh.1 0 → b < gh.1 0 → P a = nI b → C (100 + a) 2 = C (100 + b) 2) ∧ ∀ p, p < 32 → (bt sq p = true ↔ sqd (gh.1 0) P wy g p)
theorem lctx_wy {gh : rC_gh} {C R : rv_Mem} {P : Nat → Int32} {ρ wy : Nat → Nat} {g sq : Int32} (h : lctx gh C R P ρ wy g sq) : ∀ i p, i < gh.1 0 → p < gh.1 0 → P i = nI p → wy i = wy p := fun i p hi hp hP => by
  obtain ⟨h1, h2, h3, h4, h5, h6⟩ := h
  obtain ⟨r, r1, r2, r3, r4, r5⟩ := h4 i hi
  obtain ⟨r', s1, s2, s3, s4, s5⟩ := h4 p hp
  have := h5 i p hi hp hP
  rw [r2, s2, q_eq (by omega) (by omega)] at this
  subst this
  rw [r3, q_eq (by omega) (by omega)] at s3
  exact s3
theorem lctx_sq {gh : rC_gh} {C R : rv_Mem} {P : Nat → Int32} {ρ wy : Nat → Nat} {g sq : Int32} (h : lctx gh C R P ρ wy g sq) {p : Nat} (hp : p < gh.1 0) (hs : bt sq p = true) : wy p = 2 ∧ bt g p = true ∧ ∃ k, k < gh.1 0 ∧ bt g k = true ∧ P k = nI p := by
  have hc := h.1
  obtain ⟨k, k1, k2, k3, k4, k5⟩ := (h.2.2.2.2.2 p (by omega)).mp hs
  exact ⟨by rw [← lctx_wy h k p k1 hp k3]; exact k5, k4, k, k1, k2, k3⟩
theorem lnd_parC {n0 n : Nat} {gh : rC_gh} {C R M S M' : rv_Mem} {P : Nat → Int32} {wy : Nat → Nat} {F : Nat → Prop} {g sq left : Int32} (h : lnd n0 gh C R P wy F g sq n M S left) (e23 : M' 23 = M 23) (e17 : M' 17 = M 17) (e19 : M' 19 = M 19) : parC gh M' P := fun i hi => by
  have := parC_of (M := M') h.2.2.1 (by rw [vC_b (by omega)]; exact e23) (by rw [vC_b (by omega)]; exact e17) (by rw [vC_b (by omega)]; exact e19) i hi
  rw [h.2.2.2.1 i hi] at this; exact this
theorem lnd_parR {n0 n : Nat} {gh : rC_gh} {C R M S S' : rv_Mem} {P : Nat → Int32} {wy : Nat → Nat} {F : Nat → Prop} {g sq left : Int32} (h : lnd n0 gh C R P wy F g sq n M S left) (e0 : S' 0 = S 0) (e2 : S' 2 = S 2) (e5 : S' 5 = S 5) (e6 : S' 6 = S 6) (e14 : S' 14 = S 14) : parR (gh.1 0) S' P := fun i hi => by
  have := parR_of (S := S') h.2.2.1 (by rw [vR_b (by omega)]; exact e0) (by rw [vR_b (by omega)]; exact e2) (by rw [vR_b (by omega)]; exact e5) (by rw [vR_b (by omega)]; exact e6) (by rw [vR_b (by omega)]; exact e14) i hi
  rw [h.2.2.2.1 i hi] at this; exact this
theorem lnd_cur {n0 n : Nat} {gh : rC_gh} {C R M S : rv_Mem} {P : Nat → Int32} {wy : Nat → Nat} {F : Nat → Prop} {g sq left : Int32} (h : lnd n0 gh C R P wy F g sq n M S left) : ∃ cur bsf : Nat → Nat, ∀ j, j < gh.1 0 → cur j < n ∧ bsf j < n ∧ M 23 j = nI (cur j) ∧ M 17 (cur j) = nI (bsf j) ∧ S 2 (cur j) = nI (bsf j) ∧ f12_current S (nI j) = some (nI (cur j)) ∧ S 5 (cur j) = nI j ∧ (∀ r, C (100 + j) 2 = nI r → r < 2 → S 1 (cur j) = nI r ∧ f12_repoOf S (nI j) = some (nI r)) ∧ P j = S 5 (bsf j) := by
  obtain ⟨a1, ⟨b1, b2, b3, b4, b5⟩, a3, a4, -⟩ := h
  have hn := a3.n80
  have hc := a3.ch20
  refine ⟨fun j => (curS n (vR R S) j).toNatClampNeg, fun j => (vR R S 2 (curS n (vR R S) j).toNatClampNeg).toNatClampNeg, fun j hj => ?_⟩
  try dsimp only
  obtain ⟨c, b, r, c1, c2, c3, c4, c5, c6, c7, c8, c9, c10, c11, c12⟩ := a3.curB hj
  have e : parS n (vR R S) j = S 5 b := by
    unfold parS
    rw [c5, q_nc (by omega), c8, q_nc (by omega), vR_b (by omega)]
  rw [c5, q_nc (by omega), c8, q_nc (by omega)]
  rw [vC_b (by omega)] at c6 c7 c10
  rw [vR_b (by omega)] at c8 c9 c12
  have cu : f12_current S (nI j) = some (nI c) := by
    rw [curR_of a3 (by rw [vR_b (by omega)]) (by rw [vR_b (by omega)]) (by rw [vR_b (by omega)]) (by rw [vR_b (by omega)]) hj]; exact c11
  refine ⟨c2, c3, c6, c7, c8, cu, c12, fun r' h1 h2 => ?_, by rw [← a4 j hj]; exact e⟩
  have e2 : M (100 + j) 2 = C (100 + j) 2 := by rw [b1 (100 + j) (by omega) (by omega) (by omega) (by omega) (by omega) (by omega) (by omega) (by omega)]
  rw [e2, h1, q_eq (by omega) (by omega)] at c10
  subst c10
  refine ⟨c9, repR_of a3 (by rw [vR_b (by omega)]) (by rw [vR_b (by omega)]) (by rw [vR_b (by omega)]) (by rw [vR_b (by omega)]) (by rw [vR_b (by omega)]) hj h2 (by rw [vC_b (by omega), e2]; exact h1)⟩
/-- what the reference keeps after a try -/
theorem s12_130n {k47 : rv_Mem → Int32 → Int32 → Int32 → Int32 → Int32 → Int32 → Int32 → Bool → Option (Int32 × rv_Mem)} {S : rv_Mem} {x2 x3 x4 x5 x6 x7 x8 x10 x11 : Int32} {x9 : Bool} (hv : ¬ 0 ≤ x11) : f12_lands_130 k47 rv_FU S x2 x3 x4 x5 x6 x7 x8 x9 x10 x11 0 = k47 S x2 x3 x4 x5 x6 x7 x8 x9 := by
  show rv_fx _ (f12_lands_130_s k47) rv_FU S x2 x3 x4 x5 x6 x7 x8 x9 x10 x11 0 = _
  rw [fx_FU]
  generalize rv_fx _ (f12_lands_130_s k47) 99999 = T
  unfold f12_lands_130_s
  rw [if_neg hv]
  by_cases c : (0 : Int32) < S 11 0
  · rw [if_pos c]
  · rw [if_neg c]
theorem s12_86 {k47 : rv_Mem → Int32 → Int32 → Int32 → Int32 → Int32 → Int32 → Int32 → Bool → Option (Int32 × rv_Mem)} {S : rv_Mem} {x2 x3 x4 x5 x6 left x8 v : Int32} {s0 : Bool} {i : Nat} (hi : i < 20) : f12_lands_86 k47 S x2 x3 x4 x5 x6 left x8 (nI i) v s0 = f12_lands_130 k47 rv_FU (rv_u S 18 i v) x2 x3 x4 x5 x6 (lft left i) (if v = -1 then x8 ||| (1 <<< (nI i &&& 31)) else x8 ||| 0) s0 (nI i) v 0 := by
  unfold f12_lands_86 f12_lands_115 lft
  rw [if_pos (q_inb hi (by omega)), q_nc (by omega)]
  by_cases c : v = -1
  · rw [if_pos c, if_pos c, lt_do]
  · rw [if_neg c, if_neg c, if_pos (q_inb hi (by omega)), lt_do]
