/-! LANDING: the loop, with the trunk's way -/
/-- a way along the bases, each commit with Q -/
def pth (B : Nat → Int32) (Q : Nat → Prop) : Nat → Nat → Nat → Prop
  | 0, a, z => a = z
  | L + 1, a, z => Q a ∧ ∃ b, b < a ∧ B a = nI b ∧ pth B Q L b z
theorem pth_mono {B B' : Nat → Int32} {Q Q' : Nat → Prop} (hQ : ∀ c, Q c → Q' c) (hB : ∀ c, Q c → B' c = B c) : ∀ L a z, pth B Q L a z → pth B' Q' L a z
  | 0, _, _, h => h
  | L + 1, a, z, ⟨h1, b, h0, h2, h3⟩ => ⟨hQ a h1, b, h0, by rw [hB a h1]; exact h2, pth_mono hQ hB L b z h3⟩
def onT (gh : rC_gh) (g sq : Int32) (n : Nat) (M : rv_Mem) (left : Int32) (c : Nat) : Prop := c < n ∧ ∃ i, i < gh.1 0 ∧ prc g left i ∧ bt sq i = false ∧ M 52 i = nI c
def lpX (n0 : Nat) (gh : rC_gh) (C : rv_Mem) (g sq : Int32) (n : Nat) (M : rv_Mem) (left : Int32) : Prop := ∃ L : Nat → Nat, (∀ r, r < 2 → ∃ t z, M 22 r = nI t ∧ C 22 r = nI z ∧ t < n ∧ pth (M 17) (onT gh g sq n M left) (L r) t z) ∧ L 0 + L 1 + cn (bt left) 0 (gh.1 0) ≤ cn (bt g) 0 (gh.1 0) ∧ n ≤ n0 + (L 0 + L 1) ∧ (∀ i, i < gh.1 0 → prc g left i → bt sq i = false → 1 ≤ L 0 + L 1) ∧ ∀ i, i < gh.1 0 → M 52 i = NO ∨ ∃ c, c < n ∧ M 52 i = nI c ∧ (n0 ≤ c ∨ C 23 i = nI c)
theorem lp_step {n0 n n' i : Nat} {gh : rC_gh} {C R M M' S : rv_Mem} {P : Nat → Int32} {wy : Nat → Nat} {F : Nat → Prop} {g sq left : Int32} (hc : gh.1 0 ≤ 20) (hgc : ∀ i, i < 32 → gh.1 0 ≤ i → bt g i = false) (h : lnd n0 gh C R P wy F g sq n M S left) (hp : lpX n0 gh C g sq n M left) (hi : i < gh.1 0) (hl : bt left i = true) (hs : l_stp sq n n' i M M') : lpX n0 gh C g sq n' M' (lft left i) := by
  obtain ⟨a1, ⟨b1, -⟩, a3, -, -, a6, -, -, -, a10, -, -⟩ := h
  have hn := a3.n80
  have hg := a6 i (by omega) hl
  have h23 : M 23 = C 23 := b1 23 (by omega) (by omega) (by omega) (by omega) (by omega) (by omega) (by omega) (by omega)
  have hprc : ∀ j, j < 32 → (prc g (lft left i) j ↔ prc g left j ∨ j = i) := fun j hj => prc_lft (by omega) hj hg
  have ni : ¬ prc g left i := fun z => by have := z.2; rw [hl] at this; cases this
  have hcn := cn_bt (x := lft left i) (x' := left) (ch := gh.1 0) hc (fun j hj z => by
    rw [lft_b (by omega) hj, Bool.and_eq_true] at z; exact z.1) (fun j hj hj2 => by
    cases hb : bt left j with
    | false => rfl
    | true =>
      have := hgc j hj hj2
      rw [a6 j hj hb] at this; cases this) (fun z => by
    have e := lft_b (left := left) (i := i) (j := i) (by omega) (by omega)
    rw [← z, hl] at e
    simp at e)
  obtain ⟨L, p1, p2, p3, p4, p5⟩ := hp
  rcases hs with ⟨s1, rfl, rfl⟩ | ⟨s1, r, t, c, r2, e22, tn, tc, cn', e22', o22, e17, o17, e52, o52, x52, cs⟩
  · refine ⟨L, fun r hr => ?_, by omega, p3, fun j hj z y => ?_, p5⟩
    · obtain ⟨t, z, q1, q2, q3, q4⟩ := p1 r hr
      refine ⟨t, z, q1, q2, q3, pth_mono (fun c ⟨k1, k, k2, k3, k4, k5⟩ => ⟨k1, k, k2, (hprc k (by omega)).mpr (Or.inl k3), k4, k5⟩) (fun _ _ => rfl) _ _ _ q4⟩
    · rcases (hprc j (by omega)).mp z with z | z
      · exact p4 j hj z y
      · rw [z, s1] at y; cases y
  · have hnn : n ≤ n' ∧ n' ≤ n + 1 := by
      rcases cs with ⟨q1, q2⟩ | ⟨q1, q2⟩ <;> omega
    have qm : ∀ x, onT gh g sq n M left x → onT gh g sq n' M' (lft left i) x := fun x ⟨k1, k, k2, k3, k4, k5⟩ => by
      refine ⟨by omega, k, k2, (hprc k (by omega)).mpr (Or.inl k3), k4, ?_⟩
      rw [o52 k (by omega) (by rw [k5, Ne, q_no_eq (by omega)]; simp)]; exact k5
    have qc : onT gh g sq n' M' (lft left i) c := ⟨cn', i, hi, (hprc i (by omega)).mpr (Or.inr rfl), s1, e52⟩
    obtain ⟨L', l1, l2⟩ : ∃ L' : Nat → Nat, L' r = L r + 1 ∧ ∀ r', r' ≠ r → L' r' = L r' := ⟨fun r' => if r' = r then L r + 1 else L r', if_pos rfl, fun r' h => if_neg h⟩
    have hsum : L' 0 + L' 1 = L 0 + L 1 + 1 := by
      rcases (show r = 0 ∨ r = 1 by omega) with z | z
      · subst z; rw [l1, l2 1 (by omega)]; omega
      · subst z; rw [l1, l2 0 (by omega)]; omega
    refine ⟨L', fun r' hr' => ?_, by omega, by omega, fun j hj z y => by omega, fun j hj => ?_⟩
    · by_cases e : r' = r
      · subst e
        obtain ⟨t', z, q1, q2, q3, q4⟩ := p1 r' hr'
        have ht : t' = t := by rw [e22, q_eq (by omega) (by omega)] at q1; exact q1.symm
        subst ht
        refine ⟨c, z, e22', q2, cn', ?_⟩
        rw [l1]
        exact ⟨qc, t', tc, e17, pth_mono qm (fun x hx => o17 x hx.1) _ _ _ q4⟩
      · obtain ⟨t', z, q1, q2, q3, q4⟩ := p1 r' hr'
        refine ⟨t', z, by rw [o22 r' e]; exact q1, q2, by omega, ?_⟩
        rw [l2 r' e]
        exact pth_mono qm (fun x hx => o17 x hx.1) _ _ _ q4
    · rcases x52 j (by omega) with z | ⟨z, y⟩
      · rw [z]
        rcases p5 j hj with y | ⟨c', y0, y1, y2⟩
        · exact Or.inl y
        · exact Or.inr ⟨c', by omega, y1, y2⟩
      · right
        refine ⟨c, cn', z, ?_⟩
        rcases y with y | rfl
        · exact Or.inl (by omega)
        · rcases cs with ⟨q1, q2⟩ | ⟨q1, q2⟩
          · exact Or.inl (by omega)
          · exact Or.inr (by rw [← h23]; exact q2)
theorem lp_init {n : Nat} {gh : rC_gh} {C R M : rv_Mem} {g sq : Int32} (hR : Rn n gh C R) (h22 : ∀ r, r < 2 → M 22 r = C 22 r) (h52 : ∀ i, i < 20 → M 52 i = NO) : lpX n gh C g sq n M g := by
  have hc := hR.ch20
  obtain ⟨L, hL⟩ : ∃ L : Nat → Nat, ∀ r, L r = 0 := ⟨fun _ => 0, fun _ => rfl⟩
  refine ⟨L, fun r hr => ?_, by rw [hL, hL]; omega, by omega, fun i _ z => ?_, fun i hi => Or.inl (h52 i (by omega))⟩
  · obtain ⟨⟨t, t1, t2, -⟩, -⟩ := hR.tip r hr
    exact ⟨t, t, by rw [h22 r hr]; exact t2, t2, t1, by rw [hL]; rfl⟩
  · have := z.1; rw [z.2] at this; cases this
theorem lnd_loopX {n0 : Nat} {gh : rC_gh} {C R : rv_Mem} {P : Nat → Int32} {ρ wy : Nat → Nat} {F : Nat → Prop} {g sq who c2 c3 c4 r4 r5 r6 : Int32} (hx : lctx gh C R P ρ wy g sq) (h64 : rv_z (R 64 0) = false) (h11 : R 11 0 = nI (gh.1 0)) (hgc : ∀ i, i < 32 → gh.1 0 ≤ i → bt g i = false) : ∀ (d k na nb n : Nat) (M S : rv_Mem) (left x8 : Int32), cn (bt left) 0 (gh.1 0) ≤ d → d + k ≤ 20 → d + 1 < na → d + 1 < nb → lnd n0 gh C R P wy F g sq n M S left → lex gh C R M S g → (∀ j, j < 32 → (bt x8 j = true ↔ prc g left j ∧ bt sq j = true)) → lpX n0 gh C g sq n M left →
    (∃ M' S' x8', f5_tryAll_52 gh na M g c2 c3 c4 left (nI k) = f5_tryAll_87 gh M' c2 c3 c4 ∧ f12_lands_47 nb S who g r4 r5 r6 left x8 true = f12_lands_217 S' who g r4 r5 r6 x8' false ∧ lfr n0 C R M' S' ∧ lex gh C R M' S' g) ∨
    (∃ n' M' S' left' x8', f5_tryAll_52 gh na M g c2 c3 c4 left (nI k) = f5_tryAll_135 gh M' g ∧ f12_lands_47 nb S who g r4 r5 r6 left x8 true = f12_lands_217 S' who g r4 r5 r6 x8' true ∧ lnd n0 gh C R P wy F g sq n' M' S' left' ∧ (∀ i, i < 32 → bt left' i = false) ∧ lex gh C R M' S' g ∧ (∀ j, j < 32 → (bt x8' j = true ↔ prc g left' j ∧ bt sq j = true)) ∧ lpX n0 gh C g sq n' M' left') := by
  have hc := hx.1
  intro d
  induction d with
  | zero =>
    intro k na nb n M S left x8 h1 h2 h3 h4 hl hlx hx8 hpX
    have hz : left = 0 := by
      apply Classical.byContradiction
      intro hne
      obtain ⟨i, i1, i2, -⟩ := lnd_next hx hl h11 hgc hne
      have := cn_pos (p := bt left) (k := 0) (d := gh.1 0) (j := i) (Nat.zero_le _) (by omega) i2.1
      omega
    obtain ⟨na', rfl⟩ : ∃ m, na = m + 1 := ⟨na - 1, by omega⟩
    obtain ⟨nb', rfl⟩ : ∃ m, nb = m + 1 := ⟨nb - 1, by omega⟩
    right
    refine ⟨n, M, S, left, x8, ?_, ?_, hl, fun i hi => by rw [hz, b_0], hlx, hx8, hpX⟩
    · show f5_tryAll_52_s gh (f5_tryAll_52 gh na') M g c2 c3 c4 left (nI k) = _
      unfold f5_tryAll_52_s
      rw [hz]
      by_cases c : nI k < 20
      · rw [if_pos c, if_neg (fun z => z rfl)]
      · rw [if_neg c]
    · show f12_lands_47_s (f12_lands_47 nb') S who g r4 r5 r6 left x8 true = _
      unfold f12_lands_47_s
      rw [hz, if_neg (fun z => z rfl)]
  | succ d ih =>
    intro k na nb n M S left x8 h1 h2 h3 h4 hl hlx hx8 hpX
    obtain ⟨na', rfl⟩ : ∃ m, na = m + 1 := ⟨na - 1, by omega⟩
    obtain ⟨nb', rfl⟩ : ∃ m, nb = m + 1 := ⟨nb - 1, by omega⟩
    by_cases hz : left = 0
    · right
      refine ⟨n, M, S, left, x8, ?_, ?_, hl, fun i hi => by rw [hz, b_0], hlx, hx8, hpX⟩
      · show f5_tryAll_52_s gh (f5_tryAll_52 gh na') M g c2 c3 c4 left (nI k) = _
        unfold f5_tryAll_52_s
        rw [hz]
        by_cases c : nI k < 20
        · rw [if_pos c, if_neg (fun z => z rfl)]
        · rw [if_neg c]
      · show f12_lands_47_s (f12_lands_47 nb') S who g r4 r5 r6 left x8 true = _
        unfold f12_lands_47_s
        rw [hz, if_neg (fun z => z rfl)]
    · obtain ⟨i, i1, i2, i3, i4⟩ := lnd_next hx hl h11 hgc hz
      have eC : f5_tryAll_52 gh (na' + 1) M g c2 c3 c4 left (nI k) = rv_o2 (f5_tryOne gh M (nI i)) (fun r4 M5 => (if r4 = false then f5_tryAll_87 gh M5 c2 c3 c4 else f5_tryAll_52 gh na' M5 g c2 c3 c4 (lft left i) (nI (k + 1)))) := by
        show f5_tryAll_52_s gh (f5_tryAll_52 gh na') M g c2 c3 c4 left (nI k) = _
        unfold f5_tryAll_52_s
        rw [if_pos (show nI k < 20 by rw [q_20, q_lt (by omega) (by omega)]; omega), if_pos hz, i3, o1_some, q_no, if_pos (show ¬ nI i = NO by rw [q_no_eq (by omega)]; exact fun z => z), q_succ]
        rfl
      have eR : f12_lands_47 (nb' + 1) S who g r4 r5 r6 left x8 true = rv_o2 (f12_landsOne S (nI i) g) (fun v M5 => (if ¬ v = (-2) then f12_lands_86 (f12_lands_47 nb') M5 who g r4 r5 r6 left x8 (nI i) v true else f12_lands_86 (f12_lands_47 nb') M5 who g r4 r5 r6 left x8 (nI i) v false)) := by
        show f12_lands_47_s (f12_lands_47 nb') S who g r4 r5 r6 left x8 true = _
        unfold f12_lands_47_s
        rw [if_pos hz, if_pos rfl, i4, o1_some]
      rw [eC, eR]
      rcases lnd_stepX hx hl hlx hx8 h64 h11 i1 i2 (f12_lands_47 nb') who r4 r5 r6 with ⟨M', S1, S2, x8', t1, t2, t3, t4, t5⟩ | ⟨n', M', S1, v, S2, x8', t1, t2, t3, t4, t5, t6, t7, t8⟩
      · left
        obtain ⟨nc, rfl⟩ : ∃ m, nb' = m + 1 := ⟨nb' - 1, by omega⟩
        refine ⟨M', S2, x8', by rw [t1, o2_some, if_pos rfl], ?_, t4, t5⟩
        rw [t2, o2_some, if_neg (fun z => z rfl), t3]
        show f12_lands_47_s (f12_lands_47 nc) S2 who g r4 r5 r6 (lft left i) x8' false = _
        unfold f12_lands_47_s
        by_cases c : lft left i = 0
        · rw [if_neg (fun z => z c)]
        · rw [if_pos c, if_neg (by simp)]
      · rw [t1, t2, o2_some, o2_some, if_neg (show ¬ true = false by simp), if_pos (show ¬ v = -2 from t3), t4]
        have h6 : ∀ i, i < 32 → bt left i = true → bt g i = true := hl.2.2.2.2.2.1
        refine ih (k + 1) na' nb' n' M' S2 (lft left i) x8' ?_ (by omega) (by omega) (by omega) t5 t6 t7 (lp_step hc hgc hl hpX i1 i2.1 t8)
        have := cn_bt (x := lft left i) (x' := left) (ch := gh.1 0) hc (fun j hj z => by
          rw [lft_b (by omega) hj, Bool.and_eq_true] at z; exact z.1) (fun j hj hj2 => by
          cases hb : bt left j with
          | false => rfl
          | true =>
            have := hgc j hj hj2
            rw [h6 j hj hb] at this; cases this) (fun z => by
          have e := lft_b (left := left) (i := i) (j := i) (by omega) (by omega)
          rw [← z, i2.1] at e
          simp at e)
        omega
