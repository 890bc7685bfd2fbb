/-! LANDING: a chain within the squashed ones; the step of a merge -/
theorem pch_ind {f : Nat → Int32} {ch i : Nat} {Q : Nat → Prop} (hc : ch ≤ 20) (hV : parV ch f) (hi : i < ch) (h0 : Q i) (hs : ∀ c p, c < ch → p < ch → Q c → f c = nI p → Q p) : ∀ d j, j < ch → pch f (nI i) d = nI j → Q j := by
  have val := fun d => (pch_cong (f' := f) (x := nI i) (Or.inr ⟨i, hi, rfl⟩) hc hV (fun _ _ => rfl) d).2
  intro d
  induction d with
  | zero =>
    intro j hj e
    have e : nI i = nI j := e
    rw [q_eq (by omega) (by omega)] at e
    subst e; exact h0
  | succ d ih =>
    intro j hj e
    rw [pch_s] at e
    rcases val d with z | ⟨c, c1, c2⟩
    · rw [if_pos z, q_no_eq' (by omega)] at e; exact e.elim
    · rw [c2, if_neg (by rw [q_no_eq (by omega)]; simp), q_nc (by omega)] at e
      exact hs c j c1 hj (ih c c1 c2) e
theorem cg_inv {P : Nat → Int32} {x : Int32} {c p : Nat} (hp : p < 20) (h : cg P x c = nI p) : P c = nI p ∧ bt x p = true := by
  unfold cg at h
  by_cases z : P c ≠ NO ∧ bt x (P c).toNatClampNeg = true
  · rw [if_pos z] at h
    rw [h, q_nc (by omega)] at z
    exact ⟨h, z.2⟩
  · rw [if_neg z, q_no_eq' (by omega)] at h; exact h.elim
/-- what is in the chain within the squashed ones -/
def inK (P : Nat → Int32) (x : Int32) (i j : Nat) : Prop := ∃ d, pch (cg P x) (nI i) d = nI j
theorem chain_K {ch : Nat} {P : Nat → Int32} {wy : Nat → Nat} {g sq left : Int32} (hc : ch ≤ 20) (hV : parV ch P) (hsq : ∀ p, p < 32 → (bt sq p = true ↔ sqd ch P wy g p)) (hwy : ∀ i p, i < ch → p < ch → P i = nI p → wy i = wy p) {i : Nat} (hi : i < ch) (hg : bt g i = true) (hfr : free P left i) (hpar : ∀ i p, i < ch → p < ch → prc g left i → P i = nI p → bt g p = true → bt left p = false) :
    (∀ j, j < ch → inK P sq i j → j = i ∨ (prc g left j ∧ bt sq j = true)) ∧ (∀ j, j < ch → j ≠ i → (inK P sq i j ↔ bt sq j = true ∧ inK P g i j)) ∧ (∀ j p, j < ch → p < ch → inK P sq i j → P j = nI p → bt sq p = true → inK P sq i p) ∧ ∀ f : Nat → Int32, (∀ a b, a < ch → b < ch → P a = nI b → f a = f b) → ∀ j, j < ch → inK P sq i j → f j = f i := by
  have sqp : ∀ c p, c < ch → p < ch → P c = nI p → bt sq p = true → bt g p = true ∧ wy c = 2 := fun c p h1 h2 h3 h4 => by
    obtain ⟨k, k1, k2, k3, k4, k5⟩ := (hsq p (by omega)).mp h4
    exact ⟨k4, by rw [hwy c p h1 h2 h3, ← hwy k p k1 h2 k3, k5]⟩
  have F1 : ∀ d j, j < ch → pch (cg P sq) (nI i) d = nI j → j = i ∨ (prc g left j ∧ bt sq j = true ∧ wy i = 2 ∧ wy j = 2) := by
    refine pch_ind hc (cg_V hV) hi (Or.inl rfl) (fun c p h1 h2 q e => ?_)
    obtain ⟨e1, e2⟩ := cg_inv (by omega) e
    obtain ⟨e3, e4⟩ := sqp c p h1 h2 e1 e2
    right
    rcases q with q | ⟨q1, q2, q3, q4⟩
    · subst q
      exact ⟨⟨e3, hfr.2 p (by omega) e1⟩, e2, e4, by rw [← hwy c p h1 h2 e1]; exact e4⟩
    · exact ⟨⟨e3, hpar c p h1 h2 q1 e1 e3⟩, e2, q3, by rw [← hwy c p h1 h2 e1]; exact e4⟩
  refine ⟨fun j hj ⟨d, hd⟩ => ?_, fun j hj hji => ?_, fun j p hj hp ⟨d, hd⟩ hP hs => ⟨d + 1, ?_⟩, fun f hf j hj ⟨d, hd⟩ => ?_⟩
  · rcases F1 d j hj hd with z | z
    · exact Or.inl z
    · exact Or.inr ⟨z.1, z.2.1⟩
  · by_cases w : wy i = 2
    · have same : ∀ d, pch (cg P sq) (nI i) d = pch (cg P g) (nI i) d := by
        have val := fun d => (pch_cong (f' := cg P sq) (x := nI i) (Or.inr ⟨i, hi, rfl⟩) hc (cg_V hV) (fun _ _ => rfl) d).2
        intro d
        induction d with
        | zero => rfl
        | succ d ih =>
          rw [pch_s, pch_s, ← ih]
          rcases val d with z | ⟨c, c1, c2⟩
          · rw [if_pos z, if_pos z]
          · rw [c2, if_neg (by rw [q_no_eq (by omega)]; simp), if_neg (by rw [q_no_eq (by omega)]; simp), q_nc (by omega)]
            rcases F1 d c c1 c2 with z | ⟨z1, z2, z3, z4⟩
            · subst z
              exact (cg_sq hc hV hsq hwy c1 hg).1 w
            · exact (cg_sq hc hV hsq hwy c1 z1.1).1 z4
      constructor
      · rintro ⟨d, hd⟩
        rcases F1 d j hj hd with z | z
        · exact absurd z hji
        · exact ⟨z.2.1, d, by rw [← same]; exact hd⟩
      · rintro ⟨-, d, hd⟩
        exact ⟨d, by rw [same]; exact hd⟩
    · constructor
      · rintro ⟨d, hd⟩
        rcases F1 d j hj hd with z | z
        · exact absurd z hji
        · exact absurd z.2.2.1 w
      · rintro ⟨h1, d, hd⟩
        exfalso
        have F2 : ∀ d j, j < ch → pch (cg P g) (nI i) d = nI j → wy j = wy i :=
          pch_ind (Q := fun j => wy j = wy i) hc (cg_V hV) hi rfl (fun c p h1 h2 q e => by
            obtain ⟨e1, e2⟩ := cg_inv (by omega) e
            rw [← hwy c p h1 h2 e1]; exact q)
        obtain ⟨k, k1, k2, k3, k4, k5⟩ := (hsq j (by omega)).mp h1
        exact w (by rw [← F2 d j hj hd, ← hwy k j k1 hj k3, k5])
  · rw [pch_s, hd, if_neg (by rw [q_no_eq (by omega)]; simp), q_nc (by omega), cg_in (by omega) hP hs]
  · exact pch_ind (Q := fun j => f j = f i) hc (cg_V hV) hi rfl (fun c p h1 h2 q e => by
      obtain ⟨e1, e2⟩ := cg_inv (by omega) e
      rw [← hf c p h1 h2 e1]; exact q) d j hj hd
theorem lnd_M {n0 n : Nat} {gh : rC_gh} {C R M S M1 S1 M' S' : rv_Mem} {P : Nat → Int32} {wy : Nat → Nat} {F K : Nat → Prop} {g sq left : Int32} (hc : gh.1 0 ≤ 20) (h : lnd n0 gh C R P wy F g sq n M S left) {i r : Nat} (hi : i < gh.1 0) (hr : r < 2) (hfr : free P left i) (hw : wy i ≠ 0) (n80 : n < 80)
    (m1 : ∀ k, k ≠ 1 → k ≠ 7 → k ≠ 8 → ¬ (14 ≤ k ∧ k ≤ 19) → (k < 24 ∨ 40 < k) → M1 k = M k) (s1 : ∀ k, k = 6 ∨ k = 7 ∨ (9 ≤ k ∧ k < 53) ∨ 63 < k → S1 k = S k)
    (rel : ∀ C' R' : rv_Mem, (∀ k, k = 1 ∨ (14 ≤ k ∧ k ≤ 19) → C' k = M1 k) → (∀ k, k ≠ 1 → k ≠ 7 → k ≠ 8 → ¬ (14 ≤ k ∧ k ≤ 19) → (k < 24 ∨ 40 < k) → C' k = vC C M k) → (∀ k, k ≤ 5 ∨ k = 8 → R' k = S1 k) → (∀ k, k = 6 ∨ k = 7 ∨ (9 ≤ k ∧ k ≤ 52) → R' k = vR R S k) → rv_z (R' 64 0) = false → Rn (n + 1) gh C' R' ∧ ∀ x, x < gh.1 0 → parS (n + 1) R' x = parS n (vR R S) x)
    (s5 : S1 5 n = NO) (s11 : S1 1 n = nI r) (sO : ∀ q c, q = 1 ∨ q = 2 ∨ q = 5 ∨ q = 8 → c ≠ n → S1 q c = S q c) (mO : ∀ k, 16 ≤ k → k ≤ 19 → ∀ c, c ≠ n → M1 k c = M k c)
    (fil : ∀ c, c < n ∨ c = 80 → ∀ f, f < 4 → M1 15 (4 * c + f) = vC C M 15 (4 * c + f) ∧ S1 3 (4 * c + f) = vR R S 3 (4 * c + f) ∧ ∀ p, p < 10 → M1 14 (10 * (4 * c + f) + p) = vC C M 14 (10 * (4 * c + f) + p) ∧ S1 4 (10 * (4 * c + f) + p) = vR R S 4 (10 * (4 * c + f) + p))
    (k0 : K i) (k1 : ∀ j, j < gh.1 0 → K j → j = i ∨ prc g left j) (k2 : ∀ j, j < gh.1 0 → K j → C (100 + j) 2 = nI r) (k3 : ∀ j p, j < gh.1 0 → p < gh.1 0 → K j → P j = nI p → bt sq p = true → K p)
    (c1 : ∀ q, q ≠ 52 → M' q = rv_u M1 22 r (nI n) q) (c52 : ∀ j, j < gh.1 0 → (K j ∧ M 52 j = NO → M' 52 j = nI n) ∧ (¬ (K j ∧ M 52 j = NO) → M' 52 j = M 52 j))
    (d1 : ∀ q, q ≠ 18 → S' q = rv_u S1 9 r (nI n) q) (d18 : ∀ j, j < gh.1 0 → (K j ∧ M 52 j = NO → S' 18 j = nI n) ∧ (¬ (K j ∧ M 52 j = NO) → S' 18 j = S 18 j)) : lnd n0 gh C R P wy F g sq (n + 1) M' S' (lft left i) := by
  obtain ⟨a1, ⟨b1, b2, b3, b4, b5⟩, a3, a4, a5, a6, a7, a8, a9, a10, a11, a12⟩ := h
  have nN : nI n ≠ NO := by rw [Ne, q_no_eq (by omega)]; simp
  have hg := a6 i (by omega) hfr.1
  have hp : ∀ j, j < gh.1 0 → (prc g (lft left i) j ↔ prc g left j ∨ j = i) := fun j hj => prc_lft (by omega) (by omega) hg
  have up : ∀ p, p < gh.1 0 → tow F wy g left p → tow F wy g (lft left i) p := fun p hpp z => z.elim Or.inl (fun y => Or.inr ⟨(hp p hpp).mpr (Or.inl y.1), y.2⟩)
  have lo : ∀ j, j < 32 → bt (lft left i) j = true → bt left j = true ∧ j ≠ i := fun j hj z => by
    rw [lft_b (by omega) hj, Bool.and_eq_true] at z
    exact ⟨z.1, by have := z.2; simp at this; exact this⟩
  have mi : M 52 i = NO := a10 i hi hg hfr.1
  have e64 : rv_z (S' 64 0) = false := by
    have := a3.h64
    rw [vR_b (by omega)] at this
    rw [d1 64 (by omega), mu_ne (by omega), s1 64 (by omega)]; exact this
  obtain ⟨y1, y2⟩ := rel (vC C M') (vR R S') (fun k hk => by rw [vC_b (by omega), c1 k (by omega), mu_ne (by omega)]) (fun k h1 h7 h8 h14 h24 => by
    by_cases z : k = 6 ∨ k = 22 ∨ k = 52
    · rw [vC_a z, vC_a z]
    · rw [vC_b z, vC_b z, c1 k (by omega), mu_ne (by omega), m1 k h1 h7 h8 h14 h24]) (fun k hk => by rw [vR_b (by omega), d1 k (by omega), mu_ne (by omega)]) (fun k hk => by
    by_cases z : k = 9 ∨ k = 18
    · rw [vR_a z, vR_a z]
    · rw [vR_b z, vR_b z, d1 k (by omega), mu_ne (by omega), s1 k (by omega)]) (by rw [vR_b (by omega)]; exact e64)
  refine ⟨by omega, ⟨fun q x1 x2 x3 x4 x5 x6 x7 x8 => by rw [c1 q x8, mu_ne x6, m1 q x1 x3 x4 x5 (by omega)]; exact b1 q x1 x2 x3 x4 x5 x6 x7 x8, fun q hq => by rw [d1 q (by omega), mu_ne (by omega), s1 q (by omega)]; exact b2 q hq, fun k c x y hcc => by rw [c1 k (by omega), mu_ne (by omega), mO k x y c (by omega)]; exact b3 k c x y hcc, fun q c hq hcc => by rw [d1 q (by omega), mu_ne (by omega), sO q c hq (by omega)]; exact b4 q c hq hcc, fun c hcc f hf => ?_⟩, y1, fun j hj => by rw [y2 j hj]; exact a4 j hj, by rw [c1 6 (by omega), mu_ne (by omega), m1 6 (by omega) (by omega) (by omega) (by omega) (by omega)]; exact a5, fun j hj z => a6 j hj (lo j hj z).1, fun j p hj hpp z hPj hgp => ?_, fun r' hr' => ?_, fun j p hj hpp z hw0 hPj => ?_, fun j hj hgj z => ?_, fun j hj z => ?_, fun j p hj hpp z hPj hsp hne => ?_⟩
  · obtain ⟨u1, u2, u3⟩ := fil c (by omega) f hf
    obtain ⟨w1, w2, w3⟩ := b5 c hcc f hf
    rw [vC_b (by omega)] at u1
    rw [vR_b (by omega)] at u2
    rw [c1 15 (by omega), mu_ne (by omega), d1 3 (by omega), mu_ne (by omega), c1 14 (by omega), mu_ne (by omega), d1 4 (by omega), mu_ne (by omega)]
    refine ⟨u1.trans w1, u2.trans w2, fun p hpp => ?_⟩
    obtain ⟨u4, u5⟩ := u3 p hpp
    rw [vC_b (by omega)] at u4
    rw [vR_b (by omega)] at u5
    exact ⟨u4.trans (w3 p hpp).1, u5.trans (w3 p hpp).2⟩
  · have old : bt left p = false := by
      rcases (hp j hj).mp z with y | y
      · exact a7 j p hj hpp y hPj hgp
      · subst y; exact hfr.2 p (by omega) hPj
    rw [lft_b (by omega) (by omega), old]; rfl
  · by_cases e : r' = r
    · subst e
      refine ⟨n, by omega, by rw [c1 22 (by omega), mu_same], by rw [d1 9 (by omega), mu_same], by rw [d1 1 (by omega), mu_ne (by omega)]; exact s11, fun p hpp z => ?_⟩
      rw [d1 5 (by omega), mu_ne (by omega), s5, q_no_eq' (by omega)] at z; exact z.elim
    · obtain ⟨t', t1, t2, t3, t4, t5⟩ := a8 r' hr'
      refine ⟨t', by omega, by rw [c1 22 (by omega), mu_ne2 e, m1 22 (by omega) (by omega) (by omega) (by omega) (by omega)]; exact t2, by rw [d1 9 (by omega), mu_ne2 e, s1 9 (by omega)]; exact t3, by rw [d1 1 (by omega), mu_ne (by omega), sO 1 t' (by omega) (by omega)]; exact t4, fun p hpp z => up p hpp (t5 p hpp ?_)⟩
      rw [d1 5 (by omega), mu_ne (by omega), sO 5 t' (by omega) (by omega)] at z; exact z
  · rcases (hp j hj).mp z with y | y
    · exact up p hpp (a9 j p hj hpp y hw0 hPj)
    · subst y; exact absurd hw0 hw
  · obtain ⟨z1, z2⟩ := lo j (by omega) z
    rw [(c52 j hj).2 (fun w => (k1 j hj w.1).elim z2 (fun q => by have := q.2; rw [z1] at this; cases this))]
    exact a10 j hj hgj z1
  · by_cases w : K j ∧ M 52 j = NO
    · rw [(c52 j hj).1 w, (d18 j hj).1 w]
      refine ⟨rfl, Or.inr ⟨n, by omega, rfl, Or.inl (by rw [d1 5 (by omega), mu_ne (by omega)]; exact s5), by rw [d1 1 (by omega), mu_ne (by omega), s11, k2 j hj w.1]⟩⟩
    · rw [(c52 j hj).2 w, (d18 j hj).2 w]
      rcases (hp j hj).mp z with y | y
      · obtain ⟨v1, v2⟩ := a11 j hj y
        refine ⟨v1, v2.imp id ?_⟩
        rintro ⟨c, e1, e2, e3, e4⟩
        exact ⟨c, by omega, e2, by rw [d1 5 (by omega), mu_ne (by omega), sO 5 c (by omega) (by omega)]; exact e3, by rw [d1 1 (by omega), mu_ne (by omega), sO 1 c (by omega) (by omega)]; exact e4⟩
      · subst y; exact absurd ⟨k0, mi⟩ w
  · have stay : M 52 p ≠ NO → M' 52 p ≠ NO := fun q => by rw [(c52 p hpp).2 (fun w => q w.2)]; exact q
    by_cases w : K j ∧ M 52 j = NO
    · have kp := k3 j p hj hpp w.1 hPj hsp
      by_cases v : M 52 p = NO
      · rw [(c52 p hpp).1 ⟨kp, v⟩]; exact nN
      · exact stay v
    · rw [(c52 j hj).2 w] at hne
      rcases (hp j hj).mp z with y | y
      · exact stay (a12 j p hj hpp y hPj hsp hne)
      · subst y; exact absurd mi hne
