/-! LANDING: one step, with what it does to the trunk -/
section
variable {M M' : rv_Mem} {gh : rC_gh}
theorem fr_addC {n : Nat} {a r b : Int32} (hn : n < 80) (h : f9_addCommit gh M a r b = some (nI n, M')) : M' 17 n = b := by
  unfold f9_addCommit at h
  obtain ⟨w, h1, h⟩ := o1_inv h
  split at h
  · injection h with h
    injection h with h2 h3
    have h2 : NO = nI n := h2
    rw [q_no_eq' (by omega)] at h2; exact h2.elim
  · obtain ⟨M4, h4, h⟩ := o1_inv h
    by_cases i : rv_in (M 1 10) 82 = true
    · rw [if_pos i, lt_do, if_pos i, lt_do, if_pos i, lt_do, if_pos i, lt_do, lt_do] at h
      injection h with h
      injection h with h2 h3
      rw [← h3, h2, q_nc (by omega), mu_ne (by omega), mu_ne (by omega), mu_ne (by omega), mu_same]
    · rw [if_neg i] at h; cases h
theorem tail_inv {r : Nat} (hr : r < 2) {a : Option Bool} {b : Option (Bool × rv_Mem)} {c : rv_Mem → Option (Int32 × rv_Mem)} (h : (rv_o1 a (fun r17 => (if r17 = false then rv_o2 b (fun r21 M22 => (if r21 = false then (some (false, M22)) else rv_o2 (c M22) (fun r24 M25 => rv_o1 (f9_write gh M25 22 (nI r) r24) (fun M27 => some (true, M27))))) else (some (false, M)))) : Option (Bool × rv_Mem)) = some (true, M')) : ∃ M22 v M25, c M22 = some (v, M25) ∧ M' = rv_u M25 22 r v := by
  obtain ⟨w, h1, h⟩ := o1_inv h
  cases w with
  | true => rw [if_neg (by simp)] at h; cases h
  | false =>
    rw [if_pos rfl] at h
    obtain ⟨b1, M22, h2, h⟩ := o2_inv h
    cases b1 with
    | false => rw [if_pos rfl] at h; cases h
    | true =>
      rw [if_neg (by simp)] at h
      obtain ⟨v, M25, h3, h⟩ := o2_inv h
      rw [s9_write (L := 2) hr rfl rfl (by omega), o1_some] at h
      injection h with h
      injection h with h4 h5
      exact ⟨M22, v, M25, h3, h5.symm⟩
end
/-- one change more: passed over, or its commit on the trunk -/
def l_stp (sq : Int32) (n n' i : Nat) (M M' : rv_Mem) : Prop :=
  (bt sq i = true ∧ n' = n ∧ M' = M) ∨ (bt sq i = false ∧ ∃ r t c, r < 2 ∧ M 22 r = nI t ∧ t < n ∧ t < c ∧ c < n' ∧ M' 22 r = nI c ∧ (∀ r', r' ≠ r → M' 22 r' = M 22 r') ∧ M' 17 c = nI t ∧ (∀ x, x < n → M' 17 x = M 17 x) ∧ M' 52 i = nI c ∧ (∀ j, j < 20 → M 52 j ≠ NO → M' 52 j = M 52 j) ∧ (∀ j, j < 20 → M' 52 j = M 52 j ∨ (M' 52 j = nI c ∧ (n ≤ c ∨ j = i))) ∧ ((n' = n + 1 ∧ c = n) ∨ (n' = n ∧ M 23 i = nI c)))
theorem lnd_stepX {n0 n : Nat} {gh : rC_gh} {C R M S : rv_Mem} {P : Nat → Int32} {ρ wy : Nat → Nat} {F : Nat → Prop} {g sq left x8 : Int32} (hx : lctx gh C R P ρ wy g sq) (h : lnd n0 gh C R P wy F g sq n M S left) (hl : lex gh C R M S g) (hx8 : ∀ j, j < 32 → (bt x8 j = true ↔ prc g left j ∧ bt sq j = true)) (h64 : rv_z (R 64 0) = false) (h11 : R 11 0 = nI (gh.1 0)) {i : Nat} (hi : i < gh.1 0) (hfr : free P left i) (k47 : rv_Mem → Int32 → Int32 → Int32 → Int32 → Int32 → Int32 → Int32 → Bool → Option (Int32 × rv_Mem)) (x2 x4 x5 x6 : Int32) :
    (∃ M' S1 S2 x8', f5_tryOne gh M (nI i) = some (false, M') ∧ f12_landsOne S (nI i) g = some (-2, S1) ∧ f12_lands_86 k47 S1 x2 g x4 x5 x6 left x8 (nI i) (-2) false = k47 S2 x2 g x4 x5 x6 (lft left i) x8' false ∧ lfr n0 C R M' S2 ∧ lex gh C R M' S2 g) ∨
    (∃ n' M' S1 v S2 x8', f5_tryOne gh M (nI i) = some (true, M') ∧ f12_landsOne S (nI i) g = some (v, S1) ∧ v ≠ -2 ∧ f12_lands_86 k47 S1 x2 g x4 x5 x6 left x8 (nI i) v true = k47 S2 x2 g x4 x5 x6 (lft left i) x8' true ∧ lnd n0 gh C R P wy F g sq n' M' S2 (lft left i) ∧ lex gh C R M' S2 g ∧ (∀ j, j < 32 → (bt x8' j = true ↔ prc g (lft left i) j ∧ bt sq j = true)) ∧ l_stp sq n n' i M M') := by
  have hwy := lctx_wy hx
  have hsqp := fun p (hp : p < gh.1 0) (hs : bt sq p = true) => lctx_sq hx hp hs
  obtain ⟨cur, bsf, hcb⟩ := lnd_cur h
  have hx' := hx
  obtain ⟨hc, hV, hρ, q4, q5, hsq⟩ := hx'
  have h' := h
  obtain ⟨a1, ⟨b1, b2, b3, b4, b5⟩, a3, a4, a5, a6, a7, a8, a9, a10, a11, a12⟩ := h'
  have hn := a3.n80
  have hg := a6 i (by omega) hfr.1
  obtain ⟨r, r1, r2, r3, r4, r5⟩ := q4 i hi
  obtain ⟨t, t1, t2, t3, t4, t5⟩ := a8 r r1
  obtain ⟨u1, u2, u3, u4, u5, u6, u7, u8, u9⟩ := hcb i hi
  obtain ⟨u10, u11⟩ := u8 r r2 r1
  have c2 : M 16 (cur i) = nI r := by
    obtain ⟨r', y1, y2, y3⟩ := (a3.bas.1 (cur i) u1).1
    rw [vC_b (by omega)] at y2
    rw [vR_b (by omega), u10, q_eq (by omega) (by omega)] at y3
    rw [y2, y3]
  have c51 : M 51 r = nI (wy i) := by rw [b1 51 (by omega) (by omega) (by omega) (by omega) (by omega) (by omega) (by omega) (by omega)]; exact r3
  have c10 : S 10 r = nI (wy i) := by rw [b2 10 (by omega)]; exact r4
  have c11 : S 11 0 = nI (gh.1 0) := by rw [b2 11 (by omega)]; exact h11
  have c64 : rv_z (S 64 0) = false := by rw [b2 64 (by omega)]; exact h64
  have hprc : ∀ j, j < 32 → (prc g (lft left i) j ↔ prc g left j ∨ j = i) := fun j hj => prc_lft (by omega) hj hg
  have ni : ¬ prc g left i := fun z => by have := z.2; rw [hfr.1] at this; cases this
  have xg : ∀ x, (x < gh.1 0 → bt g x = false) → x ≠ i := fun x hh z => by subst z; rw [hh hi] at hg; cases hg
  have x80 : ∀ j, j < 32 → bt sq i = false → (bt (x8 ||| 0) j = true ↔ prc g (lft left i) j ∧ bt sq j = true) := fun j hj hs => by
    rw [b_or, b_0, Bool.or_false, hx8 j hj, hprc j hj]
    constructor
    · rintro ⟨z1, z2⟩; exact ⟨Or.inl z1, z2⟩
    · rintro ⟨z1 | z1, z2⟩
      · exact ⟨z1, z2⟩
      · subst z1; rw [hs] at z2; cases z2
  by_cases hs : bt sq i = true
  · -- squashed
    obtain ⟨w2, -, k, k1, k2, k3⟩ := hsqp i hi hs
    right
    obtain ⟨bb, bb1, bb2⟩ := s12_hasChild (g := g) (p := i) hc c11 (lnd_parR h rfl rfl rfl rfl rfl)
    have hb : bb = true := bb2.mpr ⟨k, k1, k2, k3⟩
    subst hb
    refine ⟨n, M, S, -1, rv_u S 18 i NO, x8 ||| (1 <<< (nI i &&& 31)), s5_trySq hc hi r1 c2 t2 u3 c51 r5 (by omega) (by rw [a5]; exact hs) (by omega), s12_landsSq r1 u11 u6 (by rw [c10, w2]) bb1, by decide, ?_, lnd_sq hc h hi hfr (by omega) hs, lex_of hl (fun _ _ => rfl) (fun r _ => by rw [mu_ne (by omega)]) (fun x hh => by rw [mu_ne2 (xg x hh)]), fun j hj => ?_, Or.inl ⟨hs, rfl, rfl⟩⟩
    · rw [s12_86 (by omega), if_pos rfl, s12_130n (by decide)]; rfl
    · rw [b_or, Bool.or_eq_true, hx8 j hj, b_shl1 i (by omega) j hj, decide_eq_true_iff, hprc j hj]
      constructor
      · rintro (⟨z1, z2⟩ | rfl)
        · exact ⟨Or.inl z1, z2⟩
        · exact ⟨Or.inr rfl, hs⟩
      · rintro ⟨z1 | z1, z2⟩
        · exact Or.inl ⟨z1, z2⟩
        · exact Or.inr z1
  · have hs : bt sq i = false := by
      cases hh : bt sq i with
      | false => rfl
      | true => exact absurd hh hs
    have stC : ∀ j, j < gh.1 0 → (inK P g i j ∧ bt sq j = true → wy j = wy i) := fun j hj ⟨⟨d, hd⟩, _⟩ => pch_ind (Q := fun j => wy j = wy i) hc (cg_V hV) hi rfl (fun c p h1 h2 q e => by
      obtain ⟨e1, e2⟩ := cg_inv (by omega) e
      rw [← hwy c p h1 h2 e1]; exact q) d j hj hd
    by_cases w0 : wy i = 0
    · -- fast forward
      have T := s5_try0 (gh := gh) (M := M) hc hi r1 c2 t2 u3 (by rw [c51, w0]) u4 (by omega) (by omega) (show bsf i < 82 by omega)
      have L := s12_lands0 (S := S) (g := g) r1 u11 u6 (by rw [c10, w0]; rfl) t3 u5 (by omega) (by omega) (show bsf i < 82 by omega)
      by_cases e : bsf i = t
      · right
        rw [if_pos e] at L
        rw [decide_eq_true e] at T
        obtain ⟨S2, s1, s2, s3, s4⟩ := s12_stand (k47 := k47) (S := rv_u (rv_u S 9 r (nI (cur i))) 18 i (nI (cur i))) (P := P) (g := g) (x2 := x2) (x4 := x4) (x5 := x5) (x6 := x6) (x7 := lft left i) (x8 := x8 ||| 0) (x9 := true) (v := cur i) (a := i) hc (by rw [mu_ne (by omega), mu_ne (by omega)]; exact c11) (fun S' hS => lnd_parR h (by rw [hS 0 (by omega), mu_ne (by omega), mu_ne (by omega)]) (by rw [hS 2 (by omega), mu_ne (by omega), mu_ne (by omega)]) (by rw [hS 5 (by omega), mu_ne (by omega), mu_ne (by omega)]) (by rw [hS 6 (by omega), mu_ne (by omega), mu_ne (by omega)]) (by rw [hS 14 (by omega), mu_ne (by omega), mu_ne (by omega)])) hV hρ (by omega) hi hg
        have eS : S2 = rv_u (rv_u S 9 r (nI (cur i))) 18 i (nI (cur i)) := by
          funext q
          by_cases c : q = 18
          · subst c
            funext j
            by_cases cj : j < gh.1 0
            · refine (s4 j cj).2 (fun z => ?_)
              have z1 : bt sq j = true := by
                have := z.1
                rw [x80 j (by omega) hs] at this; exact this.2
              have := stC j cj ⟨z.2.2, z1⟩
              have := (hsqp j cj z1).1
              omega
            · exact s3 j (by omega)
          · exact s2 q c
        subst eS
        refine ⟨n, _, _, nI (cur i), _, x8 ||| 0, T, L, ?_, ?_, lnd_0 hc h hi r1 hfr w0 (fun p hp hP => ?_) u1 u7 u10 r2 t3 (by omega) (by rw [← e]; exact u9), lex_of hl (fun r' hr' => by rw [mu_ne2 (by omega), mu_ne (by omega)]) (fun r' hr' => by rw [mu_ne (by omega), mu_ne2 (by omega)]) (fun x hh => by rw [mu_ne2 (xg x hh), mu_ne (by omega)]), fun j hj => x80 j hj hs, ?_⟩
        · intro z
          have : nI (cur i) < 0 := by rw [z]; decide
          rw [q_0, q_lt (by omega) (by omega)] at this; omega
        · rw [s12_86 (by omega), if_neg (show ¬ nI (cur i) = -1 by rw [q_no, q_no_eq (by omega)]; simp), s1]
        · cases hh : bt sq p with
          | false => rfl
          | true =>
            have := (hsqp p hp hh).1
            have := hwy i p hi hp hP
            omega
        · have mi0 : M 52 i = NO := a10 i hi hg hfr.1
          have tc : t < cur i := by
            rcases a3.own (cur i) u1 with ⟨-, z⟩ | ⟨-, -, -, -, y, -⟩
            · rw [vR_b (by omega), u7, q_no_eq (by omega)] at z; exact z.elim
            · obtain ⟨b', y1, y2, -⟩ := a3.base y u1
              rw [vC_b (by omega), u4, q_eq (by omega) (by omega)] at y2
              omega
          refine Or.inr ⟨hs, r, t, cur i, r1, t2, t1, tc, u1, mu_same _ _ _ _, fun r' hr' => by rw [mu_ne2 hr', mu_ne (by omega)], by rw [mu_ne (by omega), mu_ne (by omega), u4, e], fun x hx => by rw [mu_ne (by omega), mu_ne (by omega)], by rw [mu_ne (by omega), mu_same], fun j hj z => ?_, fun j hj => ?_, Or.inr ⟨rfl, u3⟩⟩
          · have ji : j ≠ i := fun y => z (by rw [y]; exact mi0)
            rw [mu_ne (by omega), mu_ne2 ji]
          · by_cases ji : j = i
            · right
              exact ⟨by rw [ji, mu_ne (by omega), mu_same], Or.inr ji⟩
            · left
              rw [mu_ne (by omega), mu_ne2 ji]
      · left
        rw [if_neg e] at L
        rw [decide_eq_false e] at T
        refine ⟨_, _, rv_u (rv_u S 9 r (nI t)) 18 i (-2), x8 ||| 0, T, L, by rw [s12_86 (by omega), if_neg (by decide), s12_130n (by decide)], ⟨fun q x1 x2 x3 x4 x5 x6 x7 x8 => by rw [mu_ne x6, mu_ne x8]; exact b1 q x1 x2 x3 x4 x5 x6 x7 x8, fun q hq => by rw [mu_ne (by omega), mu_ne (by omega)]; exact b2 q hq, fun k c' x y hcc => by rw [mu_ne (by omega), mu_ne (by omega)]; exact b3 k c' x y hcc, fun q c' hq hcc => by rw [mu_ne (by omega), mu_ne (by omega)]; exact b4 q c' hq hcc, fun c' hcc f hf => by rw [mu_ne (by omega), mu_ne (by omega), mu_ne (by omega), mu_ne (by omega), mu_ne (by omega), mu_ne (by omega), mu_ne (by omega), mu_ne (by omega)]; exact b5 c' hcc f hf⟩, lex_of hl (fun r' hr' => by rw [mu_ne2 (by omega), mu_ne (by omega)]) (fun r' hr' => by rw [mu_ne (by omega), mu_ne2 (by omega)]) (fun x hh => by rw [mu_ne2 (xg x hh), mu_ne (by omega)])⟩
    · -- merge
      obtain ⟨e, e1, e2, e3⟩ := lnd_base (t := t) hx h (fun j hj => by obtain ⟨y1, y2, y3, y4, y5, y6, -⟩ := hcb j hj; exact ⟨y1, y2, y3, y4, y5, y6⟩) hi hg r1 w0 r5 c10
      have L := s12_landsM (S := S) (g := g) (P := P) r1 u11 u6 (show cur i < 82 by omega) c10 r5 w0 (fun w2 => by
        obtain ⟨bb, bb1, bb2⟩ := s12_hasChild (g := g) (p := i) hc c11 (lnd_parR h rfl rfl rfl rfl rfl)
        cases bb with
        | false => exact bb1
        | true =>
          obtain ⟨k, k1, k2, k3⟩ := bb2.mp rfl
          have : bt sq i = true := (hsq i (by omega)).mpr ⟨k, k1, k2, k3, hg, by rw [hwy k i k1 hi k3]; exact w2⟩
          rw [hs] at this; cases this) t3 u5 (lnd_parR h rfl rfl rfl rfl rfl i hi)
      rw [e3] at L
      have T := s5_tryHead (gh := gh) (M := M) hc hi r1 c2 t2 u3 c51 (by omega)
      rw [if_neg (show ¬ nI (wy i) = 0 by rw [q_0, q_eq (by omega) (by omega)]; exact w0), a5, hs, if_neg (by simp), e2] at T
      simp only [o1_some] at T
      obtain ⟨tk1, tk2⟩ := tail_K (gh := gh) (M := M) r1 (f9_isFull gh M) (f2_mergeRows gh M (nI (bsf e)) (nI (cur i)) (nI t)) (fun M22 => f9_addCommit gh M22 81 (nI r) (nI t)) (fun r24 M27 => rv_o1 (f5_standFor gh M27 (nI i) r24) (fun M29 => (some (true, M29))))
      obtain ⟨y1, y2, -⟩ := hcb e e1
      rcases a3.landMerge (M := M) (S := S) (c0 := bsf e) (c1 := cur i) (t := t) (r := r) (fun q hq => (vC_b (by omega)).symm) (fun q hq => (vR_b (by omega)).symm) c64 y2 u1 t1 r1 (by rw [vR_b (by omega)]; exact t4) with ⟨M', S', l1, l2, l3, l4⟩ | ⟨M1, S1, l1, l2, n80, l4, l5, l6, l7, l8, l9, l10, l11⟩
      · left
        rw [tk1 M' l1] at T
        rw [l2] at L
        refine ⟨M', S', rv_u S' 18 i (-2), x8 ||| 0, T, L, by rw [s12_86 (by omega), if_neg (by decide), s12_130n (by decide)], ⟨fun q x1 x2 x3 x4 x5 x6 x7 x8 => by rw [l3.1 q x3 x4 (by omega) (by omega) (by omega)]; exact b1 q x1 x2 x3 x4 x5 x6 x7 x8, fun q hq => by rw [mu_ne (by omega), l4.1 q (by omega) (by omega) (by omega)]; exact b2 q hq, fun k c' x y hcc => by rw [l3.1 k (by omega) (by omega) (by omega) (by omega) (by omega)]; exact b3 k c' x y hcc, fun q c' hq hcc => by rw [mu_ne (by omega), l4.1 q (by omega) (by omega) (by omega)]; exact b4 q c' hq hcc, fun c' hcc f hf => ?_⟩, lex_of hl (fun r' hr' => by rw [l3.1 22 (by omega) (by omega) (by omega) (by omega) (by omega)]) (fun r' hr' => by rw [mu_ne (by omega), l4.1 9 (by omega) (by omega) (by omega)]) (fun x hh => by rw [mu_ne2 (xg x hh), l4.1 18 (by omega) (by omega) (by omega)])⟩
        rw [mu_ne (by omega), mu_ne (by omega)]
        obtain ⟨z1, z2, z3⟩ := b5 c' hcc f hf
        refine ⟨by rw [l3.2.1 _ (by omega)]; exact z1, by rw [l4.2.1 _ (by omega)]; exact z2, fun p hp => ?_⟩
        rw [l3.2.2 _ (by omega), l4.2.2 _ (by omega)]
        exact z3 p hp
      · right
        rw [tk2 _ l1, mu_same] at T
        rw [l2] at L
        have nN : nI n ≠ NO := by rw [Ne, q_no_eq (by omega)]; simp
        obtain ⟨v1, v2⟩ := l6 (vC C M1) (vR R S1) (fun k hk => by rw [vC_b (by omega)]) (fun k h1 h7 h8 h14 h24 => by
          by_cases z : k = 6 ∨ k = 22 ∨ k = 52
          · rw [vC_a z, vC_a z]
          · rw [vC_b z, vC_b z, l4 k h1 h7 h8 h14 h24]) (fun k hk => by rw [vR_b (by omega)]) (fun k hk => by
          by_cases z : k = 9 ∨ k = 18
          · rw [vR_a z, vR_a z]
          · rw [vR_b z, vR_b z, l5 k (by omega)]) (by rw [vR_b (by omega), l5 64 (by omega)]; exact c64)
        have pC : ∀ M', (∀ q, q ≠ 52 → M' q = rv_u M1 22 r (nI n) q) → parC gh M' P := fun M' hM j hj => by
          have := parC_of (M := M') v1 (by rw [vC_b (by omega), hM 23 (by omega), mu_ne (by omega)]) (by rw [vC_b (by omega), hM 17 (by omega), mu_ne (by omega)]) (by rw [vC_b (by omega), hM 19 (by omega), mu_ne (by omega)]) j hj
          rw [v2 j hj, a4 j hj] at this; exact this
        have pR : ∀ S', (∀ q, q ≠ 18 → S' q = rv_u (rv_u S1 9 r (nI n)) 18 i (nI n) q) → parR (gh.1 0) S' P := fun S' hS j hj => by
          have := parR_of (S := S') v1 (by rw [vR_b (by omega), hS 0 (by omega), mu_ne (by omega), mu_ne (by omega)]) (by rw [vR_b (by omega), hS 2 (by omega), mu_ne (by omega), mu_ne (by omega)]) (by rw [vR_b (by omega), hS 5 (by omega), mu_ne (by omega), mu_ne (by omega)]) (by rw [vR_b (by omega), hS 6 (by omega), mu_ne (by omega), mu_ne (by omega)]) (by rw [vR_b (by omega), hS 14 (by omega), mu_ne (by omega), mu_ne (by omega)]) j hj
          rw [v2 j hj, a4 j hj] at this; exact this
        obtain ⟨M', f1, f2, f3⟩ := s5_standFor (M := rv_u M1 22 r (nI n)) (P := P) (x := sq) (v := n) (a := i) hc pC hV (by rw [mu_ne (by omega), l4 6 (by omega) (by omega) (by omega) (by omega) (by omega)]; exact a5) hρ (by omega) hi
        rw [f1, o1_some] at T
        obtain ⟨S2, s1, s2, s3, s4⟩ := s12_stand (k47 := k47) (S := rv_u (rv_u S1 9 r (nI n)) 18 i (nI n)) (P := P) (g := g) (x2 := x2) (x4 := x4) (x5 := x5) (x6 := x6) (x7 := lft left i) (x8 := x8 ||| 0) (x9 := true) (v := n) (a := i) hc (by rw [mu_ne (by omega), mu_ne (by omega), l5 11 (by omega)]; exact c11) pR hV hρ (by omega) hi hg
        obtain ⟨K1, K2, K3, K4⟩ := chain_K hc hV hsq hwy hi hg hfr a7
        have e52 : ∀ j, rv_u M1 22 r (nI n) 52 j = M 52 j := fun j => by rw [mu_ne (by omega), l4 52 (by omega) (by omega) (by omega) (by omega) (by omega)]
        have e18 : ∀ j, j ≠ i → rv_u (rv_u S1 9 r (nI n)) 18 i (nI n) 18 j = S 18 j := fun j hj => by rw [mu_ne2 hj, mu_ne (by omega), l5 18 (by omega)]
        have mi : M 52 i = NO := a10 i hi hg hfr.1
        refine ⟨n + 1, M', _, nI n, S2, x8 ||| 0, T, L, ?_, ?_, ?_, ?_, fun j hj => x80 j hj hs, ?_⟩
        · intro z
          have : nI n < 0 := by rw [z]; decide
          rw [q_0, q_lt (by omega) (by omega)] at this; omega
        · rw [s12_86 (by omega), if_neg (show ¬ nI n = -1 by rw [q_no, q_no_eq (by omega)]; simp), s1]
        · refine lnd_M (K := inK P sq i) hc h hi r1 hfr w0 n80 l4 l5 l6 l7 l8 l9 l10 l11 ⟨0, rfl⟩ (fun j hj hk => (K1 j hj hk).imp id And.left) (fun j hj hk => ?_) K3 f2 (fun j hj => ?_) (fun q hq => by rw [s2 q hq, mu_ne hq]) (fun j hj => ?_)
          · have := K4 (fun a => C (100 + a) 2) (fun a b ha hb hP => q5 a b ha hb hP) j hj hk
            have this : C (100 + j) 2 = C (100 + i) 2 := this
            rw [this]; exact r2
          · have := f3 j (by omega)
            rw [e52 j] at this
            exact this
          · by_cases eji : j = i
            · subst eji
              refine ⟨fun _ => ?_, fun z => absurd ⟨⟨0, rfl⟩, mi⟩ z⟩
              rw [(s4 j hj).2 (fun z => nN (by have := z.2.1; rw [mu_same] at this; exact this)), mu_same]
            · have st := s4 j hj
              rw [e18 j eji] at st
              constructor
              · rintro ⟨z1, z2⟩
                obtain ⟨z3, z4⟩ := (K2 j hj eji).mp z1
                rcases K1 j hj z1 with z5 | ⟨z5, -⟩
                · exact absurd z5 eji
                · exact st.1 ⟨(x80 j (by omega) hs).mpr ⟨(hprc j (by omega)).mpr (Or.inl z5), z3⟩, by rw [← (a11 j hj z5).1]; exact z2, z4⟩
              · intro z
                refine st.2 (fun y => z ?_)
                obtain ⟨y1, y2⟩ := (x80 j (by omega) hs).mp y.1
                rcases (hprc j (by omega)).mp y1 with y3 | y3
                · exact ⟨(K2 j hj eji).mpr ⟨y2, y.2.2⟩, by rw [(a11 j hj y3).1]; exact y.2.1⟩
                · exact absurd y3 eji
        · refine lex_of hl (fun r' hr' => by rw [f2 22 (by omega), mu_ne2 (by omega), l4 22 (by omega) (by omega) (by omega) (by omega) (by omega)]) (fun r' hr' => by rw [s2 9 (by omega), mu_ne (by omega), mu_ne2 (by omega), l5 9 (by omega)]) (fun x hh => ?_)
          by_cases cx : x < gh.1 0
          · rw [(s4 x cx).2 (fun z => ?_), e18 x (xg x hh)]
            have := (x80 x (by omega) hs).mp z.1
            have := this.1.1
            rw [hh cx] at this; cases this
          · rw [s3 x (by omega), e18 x (xg x hh)]
        · have e17 : M1 17 n = nI t := by
            obtain ⟨M22, v, M25, y1, y2⟩ := tail_inv r1 l1
            have ev : v = nI n := by
              have := congrFun (congrFun y2 22) r
              rw [mu_same, mu_same] at this; exact this.symm
            rw [ev] at y1
            have y3 := fr_addC n80 y1
            have := congrFun (congrFun y2 17) n
            rw [mu_ne (by omega), mu_ne (by omega)] at this
            rw [this]; exact y3
          have mk : ∀ q, q ≠ 52 → M' q = rv_u M1 22 r (nI n) q := f2
          refine Or.inr ⟨hs, r, t, n, r1, t2, t1, t1, by omega, by rw [mk 22 (by omega), mu_same], fun r' hr' => by rw [mk 22 (by omega), mu_ne2 hr', l4 22 (by omega) (by omega) (by omega) (by omega) (by omega)], by rw [mk 17 (by omega), mu_ne (by omega)]; exact e17, fun x hx => by rw [mk 17 (by omega), mu_ne (by omega)]; exact l10 17 (by omega) (by omega) x (by omega), (f3 i (by omega)).1 ⟨⟨0, rfl⟩, by rw [e52 i]; exact mi⟩, fun j hj z => ?_, fun j hj => ?_, Or.inl ⟨rfl, rfl⟩⟩
          · rw [(f3 j hj).2 (fun y => z (by rw [← e52 j]; exact y.2)), e52 j]
          · by_cases y : (∃ d, pch (cg P sq) (nI i) d = nI j) ∧ rv_u M1 22 r (nI n) 52 j = NO
            · exact Or.inr ⟨(f3 j hj).1 y, Or.inl (Nat.le_refl _)⟩
            · left
              rw [(f3 j hj).2 y, e52 j]
