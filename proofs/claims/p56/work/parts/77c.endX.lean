/-! LANDING: its end, with what is told of it -/
theorem lnd_endX {n0 n : Nat} {gh : rC_gh} {C R M S : rv_Mem} {P : Nat → Int32} {ρ wy : Nat → Nat} {F : Nat → Prop} {g sq left x8 who r4 r5 r6 : Int32} (hR : Rn n0 gh C R) (hx : lctx gh C R P ρ wy g sq) (hP : ∀ i, i < gh.1 0 → P i = parS n0 R i) (h : lnd n0 gh C R P wy F g sq n M S left) (hz : ∀ i, i < 32 → bt left i = false) (hl : lex gh C R M S g) (hx8 : ∀ j, j < 32 → (bt x8 j = true ↔ prc g left j ∧ bt sq j = true)) (hgc : ∀ i, i < 32 → gh.1 0 ≤ i → bt g i = false) (hopen : ∀ i, i < gh.1 0 → bt g i = true → R 13 i = nI 0) (hF : ∀ p, F p → R 13 p = nI 1 ∧ ∀ p', p' < gh.1 0 → parS n0 R p = nI p' → F p') :
    ∃ M' v C' S', f5_tryAll_135 gh M g = some (true, M') ∧ f11_land_90 gh rv_FU M' who g 0 = some (.inl (v, C')) ∧ f12_lands_217 S who g r4 r5 r6 x8 true = some (v, S') ∧ Rn n gh C' S' ∧ S' 66 = R 66 ∧ v = nI (bs g 20) ∧ (∀ q, q ≤ 52 → q ≠ 8 → q ≠ 13 → q ≠ 20 → q ≠ 21 → q ≠ 51 → S' q = S q) ∧ (∀ i, i < gh.1 0 → bt g i = true → S' 13 i = nI 1 ∧ S' 20 i = 0) ∧ (∀ i, (i < gh.1 0 → bt g i = false) → S' 13 i = S 13 i ∧ S' 20 i = S 20 i) ∧ (∀ c, c < n → S' 8 c = up (fun j (a : Int32) => if bt g j = true ∧ bt x8 j = false ∧ S 18 j = nI c then nI j else a) (gh.1 0) 0 (S 8 c)) ∧ (∀ i, i < gh.1 0 → C' (100 + i) 9 = C (100 + i) 9) ∧ (∀ i, C' (120 + i) = C (120 + i)) ∧ C' 23 = C 23 ∧ ∀ i, i < gh.1 0 → bt g i = true → bt x8 i = bt sq i := by
  have hc := hx.1
  have hst := lnd_all hx h hz
  obtain ⟨a1, ⟨b1, b2, b3, b4, b5⟩, a3, a4, a5, a6, a7, a8, a9, a10, a11, a12⟩ := h
  obtain ⟨e1, e2, e3⟩ := hl
  have hn := a3.n80
  have h11 := hR.cnt.2.2.2.2.1
  have c11 : S 11 0 = nI (gh.1 0) := by rw [b2 11 (by omega)]; exact h11
  have pr : ∀ i, i < gh.1 0 → (prc g left i ↔ bt g i = true) := fun i hi => ⟨fun z => z.1, fun z => ⟨z, hz i (by omega)⟩⟩
  have xs : ∀ i, i < gh.1 0 → bt g i = true → bt x8 i = bt sq i := fun i hi hg => by
    have := hx8 i (by omega)
    rw [pr i hi] at this
    cases hb : bt sq i with
    | true => exact this.mpr ⟨hg, hb⟩
    | false =>
      cases hb8 : bt x8 i with
      | false => rfl
      | true => have := (this.mp hb8).2; rw [hb] at this; cases this
  have mC : ∀ i, i < gh.1 0 → M (100 + i) = C (100 + i) := fun i hi => b1 (100 + i) (by omega) (by omega) (by omega) (by omega) (by omega) (by omega) (by omega) (by omega)
  obtain ⟨M2, m1, m2, m3, m4⟩ := s5_names (gh := gh) (M := M) (g := g) hc a5 (fun i hi hg _ => by
    obtain ⟨c, c1, c2, -⟩ := hst i hi hg
    exact ⟨c, by omega, c2⟩)
  obtain ⟨S2, p1, p2, p3⟩ := s12_names (S := S) (g := g) (x := x8) hc c11 (fun i hi hg _ => by
    obtain ⟨c, c1, -, c2, -⟩ := hst i hi hg
    exact ⟨c, by omega, c2⟩)
  have m2C : ∀ i, i < gh.1 0 → ∀ j, j ≠ 12 → M2 (100 + i) j = C (100 + i) j := fun i hi j hj => by rw [(m3 i hi).2.2 j hj, mC i hi]
  have m2K : ∀ q, q ≠ 18 → (∀ i, i < gh.1 0 → q ≠ 100 + i) → M2 q = M q := m2
  have b1' := fun q (hq : q ≠ 1 ∧ q ≠ 6 ∧ q ≠ 7 ∧ q ≠ 8 ∧ ¬ (14 ≤ q ∧ q ≤ 19) ∧ q ≠ 22 ∧ ¬ (24 ≤ q ∧ q ≤ 40) ∧ q ≠ 52) => b1 q (by omega) (by omega) (by omega) (by omega) (by omega) (by omega) (by omega) (by omega)
  let sets : Nat → Int32 := fun i => (C (100 + i) 9 ||| (1 <<< (C (100 + i) 1 &&& 31))) ||| (if rv_z (C (100 + i) 7) = false ∧ rv_z (C (100 + i) 6) = false then C 12 (C (100 + i) 2).toNatClampNeg else 0)
  obtain ⟨C', ca1, ca2, ca3, ca4⟩ := s11_landAll (gh := gh) (C := M2) (sets := sets) (g := g) (who := who) hc (fun i hi => by
    obtain ⟨-, -, ⟨r, r1, r2, -⟩, -⟩ := hR.chg i hi
    refine ⟨r, r1, by rw [m2C i hi 2 (by omega)]; exact r2, ?_⟩
    show (C (100 + i) 9 ||| (1 <<< (C (100 + i) 1 &&& 31))) ||| (if rv_z (C (100 + i) 7) = false ∧ rv_z (C (100 + i) 6) = false then C 12 (C (100 + i) 2).toNatClampNeg else 0) = _
    rw [m2C i hi 9 (by omega), m2C i hi 1 (by omega), m2C i hi 7 (by omega), m2C i hi 6 (by omega), m2K 12 (by omega) (fun i hi => by omega), b1' 12 (by omega), r2, q_nc (by omega)])
  obtain ⟨S3, sa1, sa2, sa3, sa4, sa5⟩ := s12_landAll (S := S2) (sets := sets) (xs := fun i => C (100 + i) 9) (g := g) (who := who) hc (by rw [p2 11 (by omega)]; exact c11) (fun i hi => by
    obtain ⟨-, ⟨o, o1, o2, o3⟩, ⟨r, r1, r2, -⟩, -, z6, z7, -⟩ := hR.chg i hi
    refine ⟨r, r1, fun M' hM' => ⟨?_, ?_⟩, ?_⟩
    · have := a3.rvK (M := M') (fun k hk => by rw [hM' k (by omega) (by omega) (by omega) (by omega), p2 k (by omega), vR_b (by omega)]) hi
      rw [this, vC_b (by omega), mC i hi]
    · exact repR_of a3 (by rw [hM' 0 (by omega) (by omega) (by omega) (by omega), p2 0 (by omega), vR_b (by omega)]) (by rw [hM' 1 (by omega) (by omega) (by omega) (by omega), p2 1 (by omega), vR_b (by omega)]) (by rw [hM' 5 (by omega) (by omega) (by omega) (by omega), p2 5 (by omega), vR_b (by omega)]) (by rw [hM' 6 (by omega) (by omega) (by omega) (by omega), p2 6 (by omega), vR_b (by omega)]) (by rw [hM' 14 (by omega) (by omega) (by omega) (by omega), p2 14 (by omega), vR_b (by omega)]) hi r1 (by rw [vC_b (by omega), mC i hi]; exact r2)
    · show (C (100 + i) 9 ||| (1 <<< (C (100 + i) 1 &&& 31))) ||| (if rv_z (C (100 + i) 7) = false ∧ rv_z (C (100 + i) 6) = false then C 12 (C (100 + i) 2).toNatClampNeg else 0) = _
      rw [p2 12 (by omega), p2 16 (by omega), p2 15 (by omega), p2 50 (by omega), b2 12 (by omega), b2 16 (by omega), b2 15 (by omega), b2 50 (by omega), r2, q_nc (by omega), z6, z7, o2, o3, hR.mis.1 r r1])
  have ebits : fJ_bits g = some (nI (bs g 20)) := by rw [sJ_bits, bs_32 hc hgc]
  have sF : ∀ q, q ≤ 52 → q ≠ 8 → q ≠ 13 → q ≠ 20 → q ≠ 21 → q ≠ 51 → S3 q = S q := fun q _ q8 q13 q20 q21 q51 => by rw [sa2 q q13 q20 q21 q51, p2 q q8]
  refine ⟨M2, nI (bs g 20), C', S3, ?_, ?_, ?_, ?_, ?_, rfl, sF, fun i hi hg => ⟨(sa4 i hi hg).1, (sa4 i hi hg).2.1⟩, fun i hi => ⟨by rw [(sa3 i hi).1, p2 13 (by omega)], by rw [(sa3 i hi).2.1, p2 20 (by omega)]⟩, fun c hcn => ?_, fun i hi => ?_, fun i => ?_, ?_, xs⟩
  · unfold f5_tryAll_135
    rw [m1, o1_some]
  · rw [ca1, ebits, o1_some]
  · unfold f12_lands_217
    rw [if_neg (show ¬ true = false by simp), p1, o1_some, sa1, o1_some, s12_bits, o1_some]
  · refine Rn_landed (C := vC C M) (R := vR R S) (g := g) (st := fun i => (M 52 i).toNatClampNeg) (K := fun p => p < gh.1 0 ∧ tow F wy g left p) a3 (fun q x6 x7 x8 x13 x18 x22 x24 x52 xi => by rw [ca2 q x13 xi, m2K q x18 xi, vC_b (by omega)]) (fun i hi => ⟨fun hg => ?_, fun hg j => ?_⟩) (fun q q52 x8 x9 x13 x18 x20 x21 x51 => by rw [sa2 q x13 x20 x21 x51, p2 q x8, vR_b (by omega)]) ?_ (fun i hi => ?_) (fun i hi hg => ?_) (fun i hi hg => ?_) (fun c hcn => ?_) (fun r hr => ?_) (fun p hp => ?_) (fun p hp => ?_)
    · obtain ⟨y1, y2, y3, y4⟩ := (ca3 i hi).1 hg
      obtain ⟨c, c1, c2, -⟩ := hst i hi hg
      refine ⟨y1, y2, ?_, ?_, fun j j5 j10 j11 j12 => ?_⟩
      · rw [y3, m2K 0 (by omega) (fun i hi => by omega), vC_b (by omega)]
      · show C' (100 + i) 12 = nI (M 52 i).toNatClampNeg
        rw [y4 12 (by omega) (by omega) (by omega), (m3 i hi).1 hg, c2, q_nc (by omega)]
      · rw [y4 j j5 j10 j11, (m3 i hi).2.2 j j12, vC_b (by omega)]
    · rw [(ca3 i hi).2 hg, vC_b (by omega)]
      by_cases c : j = 12
      · subst c; exact (m3 i hi).2.1 hg
      · exact (m3 i hi).2.2 j c
    · rw [sa2 64 (by omega) (by omega) (by omega) (by omega), p2 64 (by omega), b2 64 (by omega)]; exact hR.h64
    · obtain ⟨y1, y2, y3⟩ := sa3 i hi
      refine ⟨by rw [y1, p2 13 (by omega), vR_b (by omega)], by rw [y2, p2 20 (by omega), vR_b (by omega)], by rw [y3, p2 21 (by omega), vR_b (by omega)], fun _ => ?_⟩
      rw [sa2 18 (by omega) (by omega) (by omega) (by omega), p2 18 (by omega), vR_a (by omega)]
      exact e3 i hi
    · obtain ⟨y1, y2, y3⟩ := sa4 i hi hg
      obtain ⟨c, c1, c2, c3, -⟩ := hst i hi hg
      refine ⟨y1, y2, by rw [y3, p2 52 (by omega), vR_b (by omega)], ?_⟩
      rw [sa2 18 (by omega) (by omega) (by omega) (by omega), p2 18 (by omega), c3]
      show nI c = nI (M 52 i).toNatClampNeg
      rw [c2, q_nc (by omega)]
    · obtain ⟨c, c1, c2, c3, c4, c5⟩ := hst i hi hg
      show (M 52 i).toNatClampNeg < n ∧ (vR R S 5 (M 52 i).toNatClampNeg = NO ∨ vR R S 5 (M 52 i).toNatClampNeg = nI i) ∧ vR R S 1 (M 52 i).toNatClampNeg = vC C M (100 + i) 2
      rw [c2, q_nc (by omega), vR_b (by omega), vR_b (by omega), vC_b (by omega), mC i hi]
      exact ⟨c1, c4, c5⟩
    · have h80 : ¬ 80 ≤ c := by omega
      have e0 := (a3.bas.1 c hcn).2
      rw [vC_b (by omega), vR_b (by omega)] at e0
      rw [ca2 18 (by omega) (fun i hi => by omega), sa2 8 (by omega) (by omega) (by omega) (by omega), (m4 c).resolve_right h80, (p3 c).resolve_right h80, e0]
      refine up_congr _ _ _ (fun j a _ hj => ?_)
      show (if bt g j = true ∧ bt sq j = false ∧ M 52 j = nI c then nI j else a) = (if bt g j = true ∧ bt x8 j = false ∧ S 18 j = nI c then nI j else a)
      by_cases cj : bt g j = true
      · obtain ⟨c', -, c2, c3, -⟩ := hst j (by omega) cj
        rw [xs j (by omega) cj, c2, c3]
      · rw [if_neg (fun z => cj z.1), if_neg (fun z => cj z.1)]
    · obtain ⟨t, t1, t2, t3, t4, t5⟩ := a8 r hr
      refine ⟨t, t1, by rw [ca2 22 (by omega) (fun i hi => by omega), m2K 22 (by omega) (fun i hi => by omega)]; exact t2, by rw [sa2 9 (by omega) (by omega) (by omega) (by omega), p2 9 (by omega)]; exact t3, by rw [vR_b (by omega)]; exact t4, fun p hp z => ⟨hp, t5 p hp (by rw [vR_b (by omega)] at z; exact z)⟩⟩
    · obtain ⟨k1, k2⟩ := hp
      refine ⟨k1, ?_, fun p' hp' hpp => ⟨hp', ?_⟩⟩
      · rcases k2 with k2 | ⟨k2, -⟩
        · have h13 := (hF p k2).1
          have ng : p < gh.1 0 → bt g p = false := fun _ => by
            cases hb : bt g p with
            | false => rfl
            | true =>
              have := hopen p k1 hb
              rw [h13, q_eq (by omega) (by omega)] at this; omega
          rw [(sa3 p ng).1, p2 13 (by omega), b2 13 (by omega)]; exact h13
        · exact (sa4 p k1 k2.1).1
      · rw [a4 p k1] at hpp
        rcases k2 with k2 | ⟨k2, k3⟩
        · exact Or.inl ((hF p k2).2 p' hp' (by rw [← hP p k1]; exact hpp))
        · exact a9 p p' k1 hp' k2 k3 hpp
    · rw [ca4 p, sa5 p]
      refine mlA_cong ?_ _
      rw [m2K 13 (by omega) (fun i hi => by omega), b1' 13 (by omega), p2 51 (by omega), b2 51 (by omega)]
      exact hR.mis.2.1 p hp
  · rw [sa2 66 (by omega) (by omega) (by omega) (by omega), p2 66 (by omega), b2 66 (by omega)]
  · have h80 : ¬ 80 ≤ c := by omega
    rw [sa2 8 (by omega) (by omega) (by omega) (by omega), (p3 c).resolve_right h80]
  · cases hb : bt g i with
    | true => rw [((ca3 i hi).1 hb).2.2.2 9 (by omega) (by omega) (by omega), m2C i hi 9 (by omega)]
    | false => rw [(ca3 i hi).2 hb, m2C i hi 9 (by omega)]
  · rw [ca2 (120 + i) (by omega) (fun j hj => by omega), m2K (120 + i) (by omega) (fun j hj => by omega), b1' (120 + i) (by omega)]
  · rw [ca2 23 (by omega) (fun j hj => by omega), m2K 23 (by omega) (fun j hj => by omega), b1' 23 (by omega)]
