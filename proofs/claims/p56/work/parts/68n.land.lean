/-! LANDING: from the start to the end -/
theorem Rn.landRun {n : Nat} {gh : rC_gh} {C R : rv_Mem} (hR : Rn n gh C R) {s : Nat} {g : Int32} (hG : isG n (gh.1 0) R s g) (hso : R 13 s = nI 0) (who : Int32) :
    (∃ M' S', f5_tryAll gh C g = some (false, M') ∧ f12_lands_47 rv_FU R who g (R 0 0) (R 9 0) (R 9 1) g 0 true = some (-1, S') ∧ Rn n gh M' S' ∧ S' 66 = R 66) ∨
    (∃ n' M' v C' S', f5_tryAll gh C g = some (true, M') ∧ f11_land_90 gh rv_FU M' who g 0 = some (.inl (v, C')) ∧ f12_lands_47 rv_FU R who g (R 0 0) (R 9 0) (R 9 1) g 0 true = some (v, S') ∧ Rn n' gh C' S' ∧ S' 66 = R 66) := by
  have hc := hR.ch20
  have hn := hR.n80
  have h11 := hR.cnt.2.2.2.2.1
  have hgc := hG.2.2.2
  have hopen : ∀ i, i < 32 → bt g i = true → R 13 i = nI 0 := hG.2.2.1 (fun i => R 13 i = nI 0) hso (fun a b _ _ _ hd => hd.1)
  have hV : parV (gh.1 0) (parS n R) := fun i hi => by
    obtain ⟨x, -, -, x3, x4⟩ := hR.parent hi
    rw [x3]; exact x4
  obtain ⟨⟨ρ, hρ⟩, F, hF1, hF2⟩ := hR.par
  let wy : Nat → Nat := fun i => (C 51 (C (100 + i) 2).toNatClampNeg).toNatClampNeg
  have hwy : ∀ i, i < gh.1 0 → ∃ r, r < 2 ∧ C (100 + i) 2 = nI r ∧ C 51 r = nI (wy i) ∧ R 10 r = nI (wy i) ∧ wy i < 3 := fun i hi => by
    obtain ⟨-, -, ⟨r, r1, r2, -⟩, -⟩ := hR.chg i hi
    obtain ⟨-, w, w1, w2, w3⟩ := hR.tip r r1
    have e : wy i = w := by
      show (C 51 (C (100 + i) 2).toNatClampNeg).toNatClampNeg = w
      rw [r2, q_nc (by omega), w2, q_nc (by omega)]
    rw [e]
    exact ⟨r, r1, r2, w2, w3, w1⟩
  have hrep : ∀ a b, a < gh.1 0 → b < gh.1 0 → parS n R a = nI b → C (100 + a) 2 = C (100 + b) 2 := fun a b ha hb hP => by
    obtain ⟨k, c, k1, k2, k3, k4, c1, c2, c3, c4, c5, c6, c7, c8⟩ := hR.cur ha
    obtain ⟨b0, b1, b2, b3, b4⟩ := hR.base c1 c2
    obtain ⟨r, r1, r2, r3, -⟩ := (hR.chg a ha).2.2.1
    obtain ⟨r', s1, s2, s3, -⟩ := (hR.chg b hb).2.2.1
    have e : parS n R a = R 5 b0 := by
      unfold parS
      rw [c7, q_nc (by omega), b3, q_nc (by omega)]
    rw [e] at hP
    have := s3 b0 (by omega) hP
    rw [b4, r3 c c2 c4] at this
    rw [r2, s2, this]
  obtain ⟨C1, f1, f2, f3, -⟩ := sJ_fill (gh := gh) (C := C) (k := 52) (L := 20) (-1) rfl rfl (by omega)
  have pC1 : parC gh C1 (parS n R) := parC_of hR (f2 23 (by omega)) (f2 17 (by omega)) (f2 19 (by omega))
  obtain ⟨sq, q1, q2⟩ := s5_squashed (gh := gh) (M := C1) (P := parS n R) (wy := wy) (g := g) hc pC1 hV (fun i hi => by
    obtain ⟨r, r1, r2, r3, r4, r5⟩ := hwy i hi
    refine ⟨?_, r5⟩
    rw [f2 (100 + i) (by omega), r2, s9_read (L := 2) r1 rfl rfl (by omega), f2 51 (by omega), r3])
  have hx : lctx gh C R (parS n R) ρ wy g sq := ⟨hc, hV, fun i p hi _ hP => hρ i p hi hP, hwy, hrep, q2⟩
  have hl := lnd_init (M := rv_u C1 6 5 sq) (wy := wy) (F := F) (g := g) (sq := sq) hR (fun r p hr hp z => hF1 r p hr hp z) (fun q h6 h52 => by rw [mu_ne h6, f2 q h52]) (mu_same _ _ _ _) (fun i hi => by rw [mu_ne (by omega)]; exact f3 i hi)
  have hlx : lex gh C R (rv_u C1 6 5 sq) R g := ⟨fun r _ => by rw [mu_ne (by omega), f2 22 (by omega)], fun _ _ => rfl, fun _ _ => rfl⟩
  have z0 : (0 : Int32).toNatClampNeg = 0 := rfl
  have z1 : (1 : Int32).toNatClampNeg = 1 := rfl
  have i0 : rv_in (0 : Int32) 2 = true := q_inb (n := 0) (N := 2) (by omega) (by omega)
  have i1 : rv_in (1 : Int32) 2 = true := q_inb (n := 1) (N := 2) (by omega) (by omega)
  have eT : f5_tryAll gh C g = f5_tryAll_52 gh rv_FU (rv_u C1 6 5 sq) g (C 1 10) (C 22 0) (C 22 1) g (nI 0) := by
    unfold f5_tryAll
    rw [if_pos i0, if_pos i1, f1, o1_some, q1, o1_some, lt_do, z0, z1]
    rfl
  rw [eT]
  rcases lnd_loop (who := who) (c2 := C 1 10) (c3 := C 22 0) (c4 := C 22 1) (r4 := R 0 0) (r5 := R 9 0) (r6 := R 9 1) hx hR.h64 h11 hgc 20 0 rv_FU rv_FU n (rv_u C1 6 5 sq) R g 0 (by have := cn_le (bt g) (gh.1 0) 0; omega) (by omega) (FU_lt (by omega)) (FU_lt (by omega)) hl hlx (fun j _ => by
    rw [b_0]
    exact ⟨fun z => (by cases z), fun z => by have := z.1.1; rw [z.1.2] at this; cases this⟩) with ⟨M', S', x8', t1, t2, t3, t4⟩ | ⟨n', M', S', left', x8', t1, t2, t3, t4, t5, t6⟩
  · left
    have hb := lfr_back hR (fun x hx z => t4.2.2 x (fun _ => by
      cases hb : bt g x with
      | false => rfl
      | true =>
        have := hopen x (by omega) hb
        rw [z, q_eq (by omega) (by omega)] at this; omega)) t3 (t0 := C 22 0) (t1 := C 22 1) rfl rfl t4.1 t4.2.1
    refine ⟨_, _, ?_, ?_, hb, ?_⟩
    · rw [t1]
      unfold f5_tryAll_87
      rw [lt_do, if_pos i0, lt_do, if_pos i1, lt_do, z0, z1, hR.cnt.2.1]
    · rw [t2]
      unfold f12_lands_217
      rw [if_pos rfl, lt_do, if_pos i0, lt_do, if_pos i1, lt_do, z0, z1, hR.cnt.2.2.1]
    · rw [mu_ne (by omega), mu_ne (by omega), mu_ne (by omega)]
      exact t3.2.1 66 (by omega)
  · right
    obtain ⟨M2, v, C', S2, u1, u2, u3, u4, u5⟩ := lnd_end (who := who) (r4 := R 0 0) (r5 := R 9 0) (r6 := R 9 1) hR hx (fun _ _ => rfl) t3 t4 t5 t6 hgc (fun i hi hg => hopen i (by omega) hg) hF2
    exact ⟨n', M2, v, C', S2, by rw [t1, u1], u2, by rw [t2, u3], u4, u5⟩
theorem Rn.lands {n : Nat} {gh : rC_gh} {C R : rv_Mem} (hR : Rn n gh C R) {s : Nat} (hs : s < gh.1 0) (hso : R 13 s = nI 0) (who : Int32) : ∃ n' g v C' S', f5_groupOf gh C (nI s) = some g ∧ f11_land_25 gh rv_FU C who g 0 = some (.inl (v, C')) ∧ f12_lands R (nI s) who = some (v, S') ∧ Rn n' gh C' S' ∧ S' 66 = R 66 := by
  obtain ⟨g, g1, g2⟩ := hR.groupC hs
  obtain ⟨g', g3, g4⟩ := hR.groupR hs
  have := isG_uniq g4 g2
  subst this
  obtain ⟨b, M', l1, l2, l3, l4⟩ := hR.landable g' who
  have hR2 : Rn n gh C M' := Rn_s5 hR l2
  have e66 : M' 66 = R 66 := l2 66 (by omega)
  have eR : f12_lands R (nI s) who = (if b = false then (some (0, M')) else f12_lands_47 rv_FU M' who g' (M' 0 0) (M' 9 0) (M' 9 1) g' 0 true) := by
    unfold f12_lands
    rw [g3, o1_some, l1, o2_some, if_pos (show rv_in (0 : Int32) 2 = true from q_inb (n := 0) (N := 2) (by omega) (by omega)), if_pos (show rv_in (1 : Int32) 2 = true from q_inb (n := 1) (N := 2) (by omega) (by omega))]
    rfl
  cases b with
  | false => exact ⟨n, g', 0, C, M', g1, l3 rfl, by rw [eR, if_pos rfl], hR2, e66⟩
  | true =>
    rw [if_neg (by simp)] at eR
    have l4 := l4 rfl
    obtain ⟨x, x1, x2⟩ := hR2.groupC hs
    rw [g1, Option.some.injEq] at x1
    subst x1
    rcases hR2.landRun x2 (by rw [l2 13 (by omega)]; exact hso) who with ⟨M1, S1, t1, t2, t3, t4⟩ | ⟨n', M1, v, C1, S1, t1, t2, t3, t4, t5⟩
    · exact ⟨n, g', -1, M1, S1, g1, by rw [l4, t1, o2_some, if_pos rfl], by rw [eR, t2], t3, by rw [t4, e66]⟩
    · exact ⟨n', g', v, C1, S1, g1, by rw [l4, t1, o2_some, if_neg (by simp), t2], by rw [eR, t3], t4, by rw [t5, e66]⟩
theorem h_land : ∀ gh MC MR, Rel gh MC MR → ∀ p1 p2, rS_land Rel gh MC MR p1 p2 := fun gh C R h p1 p2 => by
  obtain ⟨n, hR⟩ := h
  unfold rS_land f11_land f12_land f12_land_28 f12_goes
  rcases hR.dwrong p1 p2 with ⟨p, g, hp, hg, rfl, rfl, e1, e2, e3⟩ | ⟨e1, e2⟩
  · rw [e1, e3]
    have hR0 := Rn_66 (v := nI 0) hR
    have hR1 := Rn_66 (v := nI 0) hR0
    have k66 : ∀ v w : Int32, rv_u (rv_u R 66 0 v) 66 0 w 66 0 = w := fun v w => mu_same _ _ _ _
    rcases hR0.shut hg hp with ⟨s1, s2, s3⟩ | ⟨s1, s2⟩
    · left
      have ho : rv_u (rv_u R 66 0 (nI 0)) 66 0 (nI 0) 13 g = nI 0 := by rw [mu_ne (show 13 ≠ 66 by omega)]; exact s3
      obtain ⟨n', x, v, C', S', c1, c2, c3, c4, c5⟩ := hR1.lands hg ho (nI p)
      simp only [q_0] at c2
      simp (disch := omega) only [q_no, q_no2, q_0, q_1, q_2, q_3, q_4, q_5, q_6, q_7, q_8, q_10, q_11, q_12, q_15, q_16, q_17, q_20, q_30, q_31, q_32, q_40, q_45, q_60, q_80, q_81, q_82, q_100, q_320, q_328, q_399, q_400, q_3280, q_nc, q_eq, q_lt, q_le, q_add, q_mul, q_in, q_inno, q_no_eq, q_no_eq', q_no_lt, q_lt_no, q_no_le, q_le_no, o1_some, o2_some, lt_do, x1_inl, x1_inr, x2_inl, x2_inr, if_true, if_false, if_pos, if_neg, rvi_t, rvi_f, bt_f, bf_t, bb_t, bb_f, not_true_eq_false, not_false_eq_true, e2, s1, s2, c1, c2, c3]
      exact ⟨_, C', S', rfl, rfl, by rw [c5]; exact k66 _ _, ⟨n', c4⟩⟩
    · right; right
      simp (disch := omega) only [q_no, q_no2, q_0, q_1, q_2, q_3, q_4, q_5, q_6, q_7, q_8, q_10, q_11, q_12, q_15, q_16, q_17, q_20, q_30, q_31, q_32, q_40, q_45, q_60, q_80, q_81, q_82, q_100, q_320, q_328, q_399, q_400, q_3280, q_nc, q_eq, q_lt, q_le, q_add, q_mul, q_in, q_inno, q_no_eq, q_no_eq', q_no_lt, q_lt_no, q_no_le, q_le_no, o1_some, o2_some, lt_do, x1_inl, x1_inr, x2_inl, x2_inr, if_true, if_false, if_pos, if_neg, rvi_t, rvi_f, bt_f, bf_t, bb_t, bb_f, not_true_eq_false, not_false_eq_true, e2, s1, s2]
      exact ⟨C, rv_u (rv_u R 66 0 (nI 0)) 66 0 (nI 2), nI 0, by trivial, by trivial, k66 _ _, ⟨n, Rn_66 hR0⟩⟩
  · right; left
    rw [e2]
    rcases e1 with e1 | ⟨e1, e3⟩
    · simp (disch := omega) only [q_no, q_no2, q_0, q_1, q_2, q_3, q_4, q_5, q_6, q_7, q_8, q_10, q_11, q_12, q_15, q_16, q_17, q_20, q_30, q_31, q_32, q_40, q_45, q_60, q_80, q_81, q_82, q_100, q_320, q_328, q_399, q_400, q_3280, q_nc, q_eq, q_lt, q_le, q_add, q_mul, q_in, q_inno, q_no_eq, q_no_eq', q_no_lt, q_lt_no, q_no_le, q_le_no, o1_some, o2_some, lt_do, x1_inl, x1_inr, x2_inl, x2_inr, if_true, if_false, if_pos, if_neg, rvi_t, rvi_f, bt_f, bf_t, bb_t, bb_f, not_true_eq_false, not_false_eq_true, e1]
      exact ⟨C, rv_u R 66 0 (nI 1), nI 0, by trivial, by trivial, mu_same _ _ _ _, ⟨n, Rn_66 hR⟩⟩
    · simp (disch := omega) only [q_no, q_no2, q_0, q_1, q_2, q_3, q_4, q_5, q_6, q_7, q_8, q_10, q_11, q_12, q_15, q_16, q_17, q_20, q_30, q_31, q_32, q_40, q_45, q_60, q_80, q_81, q_82, q_100, q_320, q_328, q_399, q_400, q_3280, q_nc, q_eq, q_lt, q_le, q_add, q_mul, q_in, q_inno, q_no_eq, q_no_eq', q_no_lt, q_lt_no, q_no_le, q_le_no, o1_some, o2_some, lt_do, x1_inl, x1_inr, x2_inl, x2_inr, if_true, if_false, if_pos, if_neg, rvi_t, rvi_f, bt_f, bf_t, bb_t, bb_f, not_true_eq_false, not_false_eq_true, e1, e3]
      exact ⟨C, rv_u R 66 0 (nI 1), nI 0, by trivial, by trivial, mu_same _ _ _ _, ⟨n, Rn_66 hR⟩⟩
