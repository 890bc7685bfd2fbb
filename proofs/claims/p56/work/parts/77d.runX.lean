/-! LANDING: from the start to the end, with what is told of it -/
theorem mu_id {M : rv_Mem} {q x : Nat} {v : Int32} (h : M q x = v) : rv_u M q x v = M := by
  funext a
  by_cases e : a = q
  · subst e
    funext b
    by_cases e2 : b = x
    · subst e2; rw [mu_same, h]
    · rw [mu_ne2 e2]
  · rw [mu_ne e]
/-- the last one's name -/
theorem nm_last {g x v : Int32} {f : Nat → Int32} {a : Int32} : ∀ k, (∃ i, i < k ∧ bt g i = true ∧ bt x i = false ∧ f i = v) → ∃ j, j < k ∧ bt g j = true ∧ bt x j = false ∧ f j = v ∧ up (fun j (a : Int32) => if bt g j = true ∧ bt x j = false ∧ f j = v then nI j else a) k 0 a = nI j := by
  intro k
  induction k with
  | zero => rintro ⟨i, h, -⟩; exact absurd h (Nat.not_lt_zero _)
  | succ k ih =>
    rintro ⟨i, h1, h2, h3, h4⟩
    have e0 : up (fun j (a : Int32) => if bt g j = true ∧ bt x j = false ∧ f j = v then nI j else a) (k + 1) 0 a = (if bt g k = true ∧ bt x k = false ∧ f k = v then nI k else up (fun j (a : Int32) => if bt g j = true ∧ bt x j = false ∧ f j = v then nI j else a) k 0 a) := by
      rw [up_snoc, Nat.zero_add]
    rw [e0]
    by_cases e : bt g k = true ∧ bt x k = false ∧ f k = v
    · exact ⟨k, by omega, e.1, e.2.1, e.2.2, if_pos e⟩
    · have hik : i < k := by
        rcases Nat.lt_or_ge i k with z | z
        · exact z
        · have z2 : i = k := by omega
          subst z2
          exact absurd ⟨h2, h3, h4⟩ e
      obtain ⟨j, j1, j2, j3, j4, j5⟩ := ih ⟨i, hik, h2, h3, h4⟩
      exact ⟨j, by omega, j2, j3, j4, by rw [if_neg e]; exact j5⟩
/-- on the trunk after the landing -/
def onL (gh : rC_gh) (g : Int32) (n n' : Nat) (C R' : rv_Mem) (c : Nat) : Prop := c < n' ∧ ∃ j, j < gh.1 0 ∧ bt g j = true ∧ R' 8 c = nI j ∧ (n ≤ c ∨ C 23 j = nI c)
/-- what a landing tells -/
def ldF (n n' : Nat) (gh : rC_gh) (C R : rv_Mem) (g : Int32) (C' R' : rv_Mem) : Prop :=
  n ≤ n' ∧ (∀ q c, q = 1 ∨ q = 2 ∨ q = 5 → c < n → R' q c = R q c) ∧ (∀ q, q = 6 ∨ (10 ≤ q ∧ q ≤ 52 ∧ q ≠ 13 ∧ q ≠ 18 ∧ q ≠ 20 ∧ q ≠ 21 ∧ q ≠ 51) → R' q = R q) ∧ (∀ i, i < gh.1 0 → bt g i = true → R' 13 i = nI 1 ∧ R' 20 i = 0) ∧ (∀ i, (i < gh.1 0 → bt g i = false) → R' 13 i = R 13 i ∧ R' 20 i = R 20 i ∧ R' 18 i = R 18 i) ∧ (∀ i, i < gh.1 0 → C' (100 + i) 9 = C (100 + i) 9) ∧ (∀ i, C' (120 + i) = C (120 + i)) ∧ C' 23 = C 23 ∧ (∀ i, i < gh.1 0 → bt g i = true → ∃ c, c < n' ∧ R' 18 i = nI c ∧ (n ≤ c ∨ C 23 i = nI c)) ∧
  ∃ L : Nat → Nat, (∀ r, r < 2 → ∃ t z, R' 9 r = nI t ∧ R 9 r = nI z ∧ t < n' ∧ pth (R' 2) (onL gh g n n' C R') (L r) t z) ∧ L 0 + L 1 ≤ bs g 20 ∧ 1 ≤ L 0 + L 1 ∧ n' ≤ n + (L 0 + L 1)
theorem lnd_some {n0 n : Nat} {gh : rC_gh} {C R M S : rv_Mem} {P : Nat → Int32} {ρ wy : Nat → Nat} {F : Nat → Prop} {g sq left : Int32} (hx : lctx gh C R P ρ wy g sq) {s : Nat} (hs : s < gh.1 0) (hg : bt g s = true) : ∃ j, j < gh.1 0 ∧ bt g j = true ∧ bt sq j = false := by
  have hρ := hx.2.2.1
  obtain ⟨B, hB⟩ : ∃ B, ∀ i, i < gh.1 0 → ρ i < B := by
    have : ∀ m, ∃ B, ∀ i, i < m → ρ i < B := by
      intro m
      induction m with
      | zero => exact ⟨0, fun i hi => absurd hi (Nat.not_lt_zero _)⟩
      | succ m ih =>
        obtain ⟨B, hB⟩ := ih
        refine ⟨B + ρ m + 1, fun i hi => ?_⟩
        by_cases e : i = m
        · subst e; omega
        · have := hB i (by omega); omega
    exact this _
  have key : ∀ m i, i < gh.1 0 → bt g i = true → B - ρ i ≤ m → ∃ j, j < gh.1 0 ∧ bt g j = true ∧ bt sq j = false := by
    intro m
    induction m with
    | zero => intro i hi _ hm; have := hB i hi; omega
    | succ m ih =>
      intro i hi hg hm
      cases hb : bt sq i with
      | false => exact ⟨i, hi, hg, hb⟩
      | true =>
        obtain ⟨-, -, k, k1, k2, k3⟩ := lctx_sq hx hi hb
        have h1 := hρ k i k1 hi k3
        have h2 := hB k k1
        exact ih k k1 k2 (by omega)
  exact key _ s hs hg (Nat.le_refl _)
theorem ld_of {n0 n : Nat} {gh : rC_gh} {C R M S C' S' : rv_Mem} {P : Nat → Int32} {ρ wy : Nat → Nat} {F : Nat → Prop} {g sq left x8 : Int32} (hR : Rn n0 gh C R) (hx : lctx gh C R P ρ wy g sq) (h : lnd n0 gh C R P wy F g sq n M S left) (hz : ∀ i, i < 32 → bt left i = false) (hl : lex gh C R M S g) (hp : lpX n0 gh C g sq n M left) {s : Nat} (hs : s < gh.1 0) (hgs : bt g s = true) (hgc : ∀ i, i < 32 → gh.1 0 ≤ i → bt g i = false)
    (e1 : ∀ q, q ≤ 52 → q ≠ 8 → q ≠ 13 → q ≠ 20 → q ≠ 21 → q ≠ 51 → S' q = S q) (e2 : ∀ i, i < gh.1 0 → bt g i = true → S' 13 i = nI 1 ∧ S' 20 i = 0) (e3 : ∀ i, (i < gh.1 0 → bt g i = false) → S' 13 i = S 13 i ∧ S' 20 i = S 20 i) (e4 : ∀ c, c < n → S' 8 c = up (fun j (a : Int32) => if bt g j = true ∧ bt x8 j = false ∧ S 18 j = nI c then nI j else a) (gh.1 0) 0 (S 8 c)) (e5 : ∀ i, i < gh.1 0 → C' (100 + i) 9 = C (100 + i) 9) (e6 : ∀ i, C' (120 + i) = C (120 + i)) (e7 : C' 23 = C 23) (e8 : ∀ i, i < gh.1 0 → bt g i = true → bt x8 i = bt sq i) : ldF n0 n gh C R g C' S' := by
  have hc := hx.1
  have hst := lnd_all hx h hz
  obtain ⟨j0, j1, j2, j3⟩ := lnd_some (n0 := n0) (n := n) (M := M) (S := S) (F := F) (left := left) hx hs hgs
  obtain ⟨a1, ⟨b1, b2, b3, b4, b5⟩, a3, a4, a5, a6, a7, a8, a9, a10, a11, a12⟩ := h
  have hn := a3.n80
  have pr : ∀ i, i < gh.1 0 → bt g i = true → prc g left i := fun i hi z => ⟨z, hz i (by omega)⟩
  obtain ⟨L, p1, p2, p3, p4, p5⟩ := hp
  have hbs : cn (bt g) 0 (gh.1 0) ≤ bs g 20 := by
    rw [bs_cn, show 20 = gh.1 0 + (20 - gh.1 0) by omega, cn_app]; omega
  have e13 : ∀ i, i < gh.1 0 → bt g i = true → ∃ c, c < n ∧ M 52 i = nI c ∧ S 18 i = nI c ∧ (n0 ≤ c ∨ C 23 i = nI c) := fun i hi hg => by
    obtain ⟨c, c1, c2, c3, -⟩ := hst i hi hg
    refine ⟨c, c1, c2, c3, ?_⟩
    rcases p5 i hi with z | ⟨c', z0, z, y⟩
    · rw [c2, q_no_eq (by omega)] at z; exact z.elim
    · have e : c = c' := by
        rw [c2, q_eq (by omega) (by omega)] at z; exact z
      subst e; exact y
  refine ⟨a1, fun q c hq hc => ?_, fun q hq => ?_, e2, fun i hi => ⟨?_, ?_, ?_⟩, e5, e6, e7, fun i hi hg => ?_, L, fun r hr => ?_, by omega, p4 j0 j1 (pr j0 j1 j2) j3, p3⟩
  · rw [e1 q (by omega) (by omega) (by omega) (by omega) (by omega) (by omega)]
    exact b4 q c (by omega) (Or.inl hc)
  · rw [e1 q (by omega) (by omega) (by omega) (by omega) (by omega) (by omega)]
    exact b2 q (by omega)
  · rw [(e3 i hi).1, b2 13 (by omega)]
  · rw [(e3 i hi).2, b2 20 (by omega)]
  · rw [e1 18 (by omega) (by omega) (by omega) (by omega) (by omega) (by omega)]
    exact hl.2.2 i hi
  · obtain ⟨c, c1, -, c3, c4⟩ := e13 i hi hg
    exact ⟨c, c1, by rw [e1 18 (by omega) (by omega) (by omega) (by omega) (by omega) (by omega)]; exact c3, c4⟩
  · obtain ⟨t, z, q1, q2, q3, q4⟩ := p1 r hr
    obtain ⟨t', t1, t2, t3, -⟩ := a8 r hr
    have et : t = t' := by rw [q1, q_eq (by omega) (by omega)] at t2; exact t2
    obtain ⟨⟨u, u1, u2, u3, -⟩, -⟩ := hR.tip r hr
    refine ⟨t, z, ?_, ?_, q3, pth_mono (fun c hcT => ?_) (fun c hcT => ?_) _ _ _ q4⟩
    · rw [e1 9 (by omega) (by omega) (by omega) (by omega) (by omega) (by omega), et]; exact t3
    · rw [u3, ← u2]; exact q2
    · obtain ⟨k1, k, k2, k3, k4, k5⟩ := hcT
      obtain ⟨j, i1, i2, i3, i4, i5⟩ := nm_last (g := g) (x := x8) (f := S 18) (v := nI c) (a := S 8 c) (gh.1 0) ⟨k, k2, k3.1, (e8 k k2 k3.1).trans k4, by rw [← (a11 k k2 k3).1]; exact k5⟩
      refine ⟨k1, j, i1, i2, (e4 c k1).trans i5, ?_⟩
      obtain ⟨c', y1, y2, y3, y4⟩ := e13 j i1 i2
      have ec : c = c' := by
        rw [i4, q_eq (by omega) (by omega)] at y3; exact y3
      rw [ec]; exact y4
    · have := bs_eq a3 (c := c) (Or.inl hcT.1)
      rw [vC_b (by omega), vR_b (by omega)] at this
      rw [e1 2 (by omega) (by omega) (by omega) (by omega) (by omega) (by omega)]
      exact this.symm
theorem landRunX {n : Nat} {gh : rC_gh} {C R : rv_Mem} (hR : Rn n gh C R) {s : Nat} {g : Int32} (hs0 : s < gh.1 0) (hG : isG n (gh.1 0) R s g) (hso : R 13 s = nI 0) (who : Int32) :
    (∃ M', f5_tryAll gh C g = some (false, M') ∧ Rn n gh M' R) ∨
    (∃ n' M' C' S', f5_tryAll gh C g = some (true, M') ∧ f11_land_90 gh rv_FU M' who g 0 = some (.inl (nI (bs g 20), C')) ∧ Rn n' gh C' S' ∧ ldF n n' gh C R g C' S') := by
  have hc := hR.ch20
  have hn := hR.n80
  have h11 := hR.cnt.2.2.2.2.1
  have hgc := hG.2.2.2
  have hopen : ∀ i, i < 32 → bt g i = true → R 13 i = nI 0 := hG.2.2.1 (fun i => R 13 i = nI 0) hso (fun a b _ _ _ hd => hd.1)
  have hV : parV (gh.1 0) (parS n R) := fun i hi => by
    obtain ⟨x, -, -, x3, x4⟩ := hR.parent hi
    rw [x3]; exact x4
  obtain ⟨⟨ρ, hρ⟩, F, hF1, hF2⟩ := hR.par
  let wy : Nat → Nat := fun i => (C 51 (C (100 + i) 2).toNatClampNeg).toNatClampNeg
  have hwy : ∀ i, i < gh.1 0 → ∃ r, r < 2 ∧ C (100 + i) 2 = nI r ∧ C 51 r = nI (wy i) ∧ R 10 r = nI (wy i) ∧ wy i < 3 := fun i hi => by
    obtain ⟨-, -, ⟨r, r1, r2, -⟩, -⟩ := hR.chg i hi
    obtain ⟨-, w, w1, w2, w3⟩ := hR.tip r r1
    have e : wy i = w := by
      show (C 51 (C (100 + i) 2).toNatClampNeg).toNatClampNeg = w
      rw [r2, q_nc (by omega), w2, q_nc (by omega)]
    rw [e]
    exact ⟨r, r1, r2, w2, w3, w1⟩
  have hrep : ∀ a b, a < gh.1 0 → b < gh.1 0 → parS n R a = nI b → C (100 + a) 2 = C (100 + b) 2 := fun a b ha hb hP => by
    obtain ⟨k, c, k1, k2, k3, k4, c1, c2, c3, c4, c5, c6, c7, c8⟩ := hR.cur ha
    obtain ⟨b0, b1, b2, b3, b4⟩ := hR.base c1 c2
    obtain ⟨r, r1, r2, r3, -⟩ := (hR.chg a ha).2.2.1
    obtain ⟨r', s1, s2, s3, -⟩ := (hR.chg b hb).2.2.1
    have e : parS n R a = R 5 b0 := by
      unfold parS
      rw [c7, q_nc (by omega), b3, q_nc (by omega)]
    rw [e] at hP
    have := s3 b0 (by omega) hP
    rw [b4, r3 c c2 c4] at this
    rw [r2, s2, this]
  obtain ⟨C1, f1, f2, f3, -⟩ := sJ_fill (gh := gh) (C := C) (k := 52) (L := 20) (-1) rfl rfl (by omega)
  have pC1 : parC gh C1 (parS n R) := parC_of hR (f2 23 (by omega)) (f2 17 (by omega)) (f2 19 (by omega))
  obtain ⟨sq, q1, q2⟩ := s5_squashed (gh := gh) (M := C1) (P := parS n R) (wy := wy) (g := g) hc pC1 hV (fun i hi => by
    obtain ⟨r, r1, r2, r3, r4, r5⟩ := hwy i hi
    refine ⟨?_, r5⟩
    rw [f2 (100 + i) (by omega), r2, s9_read (L := 2) r1 rfl rfl (by omega), f2 51 (by omega), r3])
  have hx : lctx gh C R (parS n R) ρ wy g sq := ⟨hc, hV, fun i p hi _ hP => hρ i p hi hP, hwy, hrep, q2⟩
  have hl := lnd_init (M := rv_u C1 6 5 sq) (wy := wy) (F := F) (g := g) (sq := sq) hR (fun r p hr hp z => hF1 r p hr hp z) (fun q h6 h52 => by rw [mu_ne h6, f2 q h52]) (mu_same _ _ _ _) (fun i hi => by rw [mu_ne (by omega)]; exact f3 i hi)
  have hpX : lpX n gh C g sq n (rv_u C1 6 5 sq) g := lp_init hR (fun r _ => by rw [mu_ne (by omega), f2 22 (by omega)]) (fun i hi => by rw [mu_ne (by omega)]; exact f3 i hi)
  have hlx : lex gh C R (rv_u C1 6 5 sq) R g := ⟨fun r _ => by rw [mu_ne (by omega), f2 22 (by omega)], fun _ _ => rfl, fun _ _ => rfl⟩
  have z0 : (0 : Int32).toNatClampNeg = 0 := rfl
  have z1 : (1 : Int32).toNatClampNeg = 1 := rfl
  have i0 : rv_in (0 : Int32) 2 = true := q_inb (n := 0) (N := 2) (by omega) (by omega)
  have i1 : rv_in (1 : Int32) 2 = true := q_inb (n := 1) (N := 2) (by omega) (by omega)
  have eT : f5_tryAll gh C g = f5_tryAll_52 gh rv_FU (rv_u C1 6 5 sq) g (C 1 10) (C 22 0) (C 22 1) g (nI 0) := by
    unfold f5_tryAll
    rw [if_pos i0, if_pos i1, f1, o1_some, q1, o1_some, lt_do, z0, z1]
    rfl
  rw [eT]
  rcases lnd_loopX (who := who) (c2 := C 1 10) (c3 := C 22 0) (c4 := C 22 1) (r4 := R 0 0) (r5 := R 9 0) (r6 := R 9 1) hx hR.h64 h11 hgc 20 0 rv_FU rv_FU n (rv_u C1 6 5 sq) R g 0 (by have := cn_le (bt g) (gh.1 0) 0; omega) (by omega) (FU_lt (by omega)) (FU_lt (by omega)) hl hlx (fun j _ => by
    rw [b_0]
    exact ⟨fun z => (by cases z), fun z => by have := z.1.1; rw [z.1.2] at this; cases this⟩) hpX with ⟨M', S', x8', t1, t2, t3, t4⟩ | ⟨n', M', S', left', x8', t1, t2, t3, t4, t5, t6, t7⟩
  · left
    have t5 : lfr n C R M' R := ⟨t3.1, fun _ _ => rfl, t3.2.2.1, fun _ _ _ _ => rfl, fun c hc f hf => by
      obtain ⟨y1, -, y3⟩ := t3.2.2.2.2 c hc f hf
      exact ⟨y1, rfl, fun p hp => ⟨(y3 p hp).1, rfl⟩⟩⟩
    have hb := lfr_back hR (fun x hx z => rfl) t5 (t0 := C 22 0) (t1 := C 22 1) rfl rfl t4.1 (fun _ _ => rfl)
    rw [mu_id hR.cnt.2.2.1, mu_id (M := R) (q := 9) (x := 0) rfl, mu_id (M := R) (q := 9) (x := 1) rfl] at hb
    refine ⟨_, ?_, hb⟩
    rw [t1]
    unfold f5_tryAll_87
    rw [lt_do, if_pos i0, lt_do, if_pos i1, lt_do, z0, z1, hR.cnt.2.1]
  · right
    obtain ⟨M2, v, C', S2, u1, u2, u3, u4, u5, rfl, v1, v2, v3, v4, v5, v6, v7, v8⟩ := lnd_endX (who := who) (r4 := R 0 0) (r5 := R 9 0) (r6 := R 9 1) hR hx (fun _ _ => rfl) t3 t4 t5 t6 hgc (fun i hi hg => hopen i (by omega) hg) hF2
    exact ⟨n', M2, C', S2, by rw [t1, u1], u2, u4, ld_of hR hx t3 t4 t5 t7 hs0 hG.1 hgc v1 v2 v3 v4 v5 v6 v7 v8⟩
