/-! LANDING: whether all may land -/
theorem Rn.ready {n : Nat} {gh : rC_gh} {C R : rv_Mem} (hR : Rn n gh C R) {h : Nat} (hh : h < gh.1 0) (g : Int32) : ∃ w M', f11_canLandIn gh C g (100 + h) = some w ∧ (∀ (K : rv_Mem → Bool → Option (Bool × rv_Mem)), rv_o2 (f12_isReady R (nI h) g) (fun r4 M5 => (if r4 = true then rv_o1 (f12_isOutdated M5 (nI h)) (fun r7 => (if r7 = false then K M5 true else K M5 false)) else K M5 false)) = K M' w) ∧ scr5 M' R := by
  have hc := hR.ch20
  obtain ⟨F, M1, f1, f2, f3, f4⟩ := hR.facts hh g
  obtain ⟨nr, -, -, -, g1, g2⟩ := hR.followB
  obtain ⟨M2, m1, m2⟩ := g2 M1 (fun q h1 h2 => f3 q (by omega)) F (f4 31 (by omega) (by omega))
  have hs : scr5 M2 R := fun q hq => by rw [m2 q (by omega), f3 q (by omega)]
  have hR2 : Rn n gh C M2 := Rn_s5 hR hs
  obtain ⟨w, w1, w2⟩ := hR2.outd hh
  obtain ⟨a0, -⟩ := hR.chg h hh
  have fifteen : ((hd nr R F >>> ((15 : Int32) &&& 31)) &&& 1 = 1) = (bt (hd nr R F) 15 = true) := b_test (k := 15) (by omega)
  have er : f12_isReady R (nI h) g = some (bt (hd nr R F) 15, M2) := by
    unfold f12_isReady
    rw [f2, o2_some, m1, o2_some]
    cases hb : bt (hd nr R F) 15 with
    | true => rw [if_pos (by rw [fifteen]; exact hb)]
    | false => rw [if_neg (by rw [fifteen, hb]; simp)]
  have ec : f11_canLandIn gh C g (100 + h) = some (bt (hd nr R F) 15 && !w) := by
    unfold f11_canLandIn
    rw [f1, o1_some, g1, o1_some, show (15 : Int32) = nI 15 from rfl, s11_isIn (by omega), o1_some]
    cases hb : bt (hd nr R F) 15 with
    | true =>
      rw [if_pos rfl, if_pos (is1 hh hc), a0, w1, o1_some]
      cases w <;> rfl
    | false => rw [if_neg (by simp)]; rfl
  refine ⟨bt (hd nr R F) 15 && !w, M2, ec, fun K => ?_, hs⟩
  rw [er, o2_some]
  cases hb : bt (hd nr R F) 15 with
  | true =>
    rw [if_pos rfl, w2, o1_some]
    cases w <;> rfl
  | false => rw [if_neg (by simp)]; rfl
theorem Rn.landable {n : Nat} {gh : rC_gh} {C R : rv_Mem} (hR : Rn n gh C R) (g who : Int32) : ∃ b M', f12_areLandable R g = some (b, M') ∧ scr5 M' R ∧ (b = false → f11_land_25 gh rv_FU C who g 0 = some (.inl (0, C))) ∧ (b = true → f11_land_25 gh rv_FU C who g 0 = rv_o2 (f5_tryAll gh C g) (fun r7 M8 => (if r7 = false then (some (.inl ((-1), M8))) else f11_land_90 gh rv_FU M8 who g 0))) := by
  have hc := hR.ch20
  have h11 := hR.cnt.2.2.2.2.1
  have cl : (∃ i, i < gh.1 0 ∧ bt g i = true ∧ f11_canLandIn gh C g (100 + i) ≠ some true) ∧ f11_land_25 gh rv_FU C who g 0 = some (.inl (0, C)) ∨ (∀ i, i < gh.1 0 → bt g i = true → f11_canLandIn gh C g (100 + i) = some true) ∧ f11_land_25 gh rv_FU C who g 0 = rv_o2 (f5_tryAll gh C g) (fun r7 M8 => (if r7 = false then (some (.inl ((-1), M8))) else f11_land_90 gh rv_FU M8 who g 0)) := by
    refine rv_ux (z := (fun _ _ _ _ => none)) (F := f11_land_25_s gh) (fun t i (_ : Unit) => t C who g (nI i)) (gh.1 0) (fun i _ => ∀ j, j < i → bt g j = true → f11_canLandIn gh C g (100 + j) = some true) (fun r => (∃ i, i < gh.1 0 ∧ bt g i = true ∧ f11_canLandIn gh C g (100 + i) ≠ some true) ∧ r = some (.inl (0, C)) ∨ (∀ i, i < gh.1 0 → bt g i = true → f11_canLandIn gh C g (100 + i) = some true) ∧ r = rv_o2 (f5_tryAll gh C g) (fun r7 M8 => (if r7 = false then (some (.inl ((-1), M8))) else f11_land_90 gh rv_FU M8 who g 0))) ?_ ?_ rv_FU 0 () (Nat.zero_le _) (FU_lt (by omega)) (fun j hj => absurd hj (Nat.not_lt_zero _))
    · intro t i _ hi hI
      obtain ⟨w, M', w1, -⟩ := hR.ready hi g
      have step : f11_land_25_s gh t C who g (nI i) = if bt g i = true ∧ w = false then some (.inl (0, C)) else t C who g (nI (i + 1)) := by
        unfold f11_land_25_s f11_land_68
        rw [if_pos (show nI i < nI (gh.1 0) by rw [q_lt (by omega) (by omega)]; exact hi), s11_isIn (by omega), o1_some, q_succ]
        cases hb : bt g i with
        | false => rw [if_neg (by simp), if_neg (by simp)]
        | true =>
          rw [if_pos rfl, if_pos (q_inb hi (by omega)), q_nc (by omega), if_pos (is1 hi hc), w1, o1_some]
          cases w with
          | false => rw [if_pos rfl, if_pos ⟨rfl, rfl⟩]
          | true => rw [if_neg (by simp), if_neg (by simp)]
      show ((_ ∧ f11_land_25_s gh t C who g (nI i) = _) ∨ (_ ∧ f11_land_25_s gh t C who g (nI i) = _)) ∨ ∃ a' : Unit, _ ∧ f11_land_25_s gh t C who g (nI i) = _
      rw [step]
      by_cases c : bt g i = true ∧ w = false
      · left; left
        rw [if_pos c]
        exact ⟨⟨i, hi, c.1, by rw [w1, c.2]; simp⟩, rfl⟩
      · right
        rw [if_neg c]
        refine ⟨(), fun j hj hb => ?_, rfl⟩
        by_cases e : j = i
        · subst e
          rw [w1]
          cases w with
          | true => rfl
          | false => exact absurd ⟨hb, rfl⟩ c
        · exact hI j (by omega) hb
    · intro t _ hI
      right
      refine ⟨hI, ?_⟩
      show f11_land_25_s gh t C who g (nI (gh.1 0)) = _
      unfold f11_land_25_s
      rw [if_neg (show ¬ nI (gh.1 0) < nI (gh.1 0) by rw [q_lt (by omega) (by omega)]; omega)]
  have L := rv_ui (z := (fun _ _ _ _ => none)) (F := f12_areLandable_4_s) (fun t i (s : rv_Mem × Bool) => t s.1 g s.2 (nI i)) (gh.1 0) (fun i s => scr5 s.1 R ∧ (s.2 = true ↔ ∀ j, j < i → bt g j = true → f11_canLandIn gh C g (100 + j) = some true)) (fun s => some (s.2, s.1)) ?_ ?_ rv_FU 0 (R, true) (Nat.zero_le _) (FU_lt (by omega)) ⟨fun _ _ => rfl, fun _ j hj => absurd hj (Nat.not_lt_zero _), fun _ => rfl⟩
  · obtain ⟨⟨M', b⟩, ⟨x1, x2⟩, x3⟩ := L
    have x2 : b = true ↔ ∀ j, j < gh.1 0 → bt g j = true → f11_canLandIn gh C g (100 + j) = some true := x2
    refine ⟨b, M', x3, x1, fun z => ?_, fun z => ?_⟩
    · rcases cl with ⟨-, y⟩ | ⟨y, -⟩
      · exact y
      · rw [x2.mpr y] at z; cases z
    · rcases cl with ⟨⟨i, i1, i2, i3⟩, -⟩ | ⟨-, y⟩
      · exact absurd (x2.mp z i i1 i2) i3
      · exact y
  · rintro t i ⟨M, b⟩ hi ⟨i1, i2⟩
    have i1 : scr5 M R := i1
    have i2 : b = true ↔ ∀ j, j < i → bt g j = true → f11_canLandIn gh C g (100 + j) = some true := i2
    have hRM : Rn n gh C M := Rn_s5 hR i1
    obtain ⟨w, M', w1, w2, w3⟩ := hRM.ready hi g
    have s3 : scr5 M' R := fun q hq => by rw [w3 q hq, i1 q hq]
    have e11 : M 11 0 = nI (gh.1 0) := hRM.cnt.2.2.2.2.1
    have next : ∀ b', (b' = true ↔ b = true ∧ (bt g i = true → w = true)) → (b' = true ↔ ∀ j, j < i + 1 → bt g j = true → f11_canLandIn gh C g (100 + j) = some true) := fun b' hb' => by
      rw [hb', i2]
      constructor
      · rintro ⟨z1, z2⟩ j hj hb
        by_cases e : j = i
        · subst e; rw [w1, z2 hb]
        · exact z1 j (by omega) hb
      · intro z
        refine ⟨fun j hj => z j (by omega), fun hb => ?_⟩
        have := z i (by omega) hb
        rw [w1, Option.some.injEq] at this; exact this
    have tst : ((g >>> (nI i &&& 31)) &&& 1 = 1) = (bt g i = true) := b_test (by omega)
    have eo : f12_isOf g (nI i) = some (bt g i) := by
      unfold f12_isOf
      cases hb : bt g i with
      | true => rw [if_pos (by rw [tst]; exact hb)]
      | false => rw [if_neg (by rw [tst, hb]; simp)]
    show ∃ a' : rv_Mem × Bool, _ ∧ f12_areLandable_4_s t M g b (nI i) = _
    unfold f12_areLandable_4_s f12_areLandable_41 f12_areLandable_45 f12_areLandable_46
    rw [e11, if_pos (show nI i < nI (gh.1 0) by rw [q_lt (by omega) (by omega)]; exact hi), q_succ]
    cases b with
    | false => exact ⟨(M, false), ⟨i1, next false ⟨fun z => (by cases z), fun z => (by cases z.1)⟩⟩, by rw [if_neg (by simp)]⟩
    | true =>
      rw [if_pos rfl, eo, o1_some]
      cases hb : bt g i with
      | false =>
        refine ⟨(M, true), ⟨i1, next true ⟨fun _ => ⟨rfl, fun z => by rw [hb] at z; cases z⟩, fun _ => rfl⟩⟩, by rw [if_neg (by simp)]⟩
      | true =>
        rw [if_pos rfl]
        have := w2 (fun M5 b' => t M5 g b' (nI (i + 1)))
        refine ⟨(M', w), ⟨s3, next w ⟨fun z => ⟨rfl, fun _ => z⟩, fun z => z.2 hb⟩⟩, this⟩
  · rintro t ⟨M, b⟩ ⟨i1, i2⟩
    have e11 : M 11 0 = nI (gh.1 0) := (Rn_s5 hR i1).cnt.2.2.2.2.1
    show f12_areLandable_4_s t M g b (nI (gh.1 0)) = _
    unfold f12_areLandable_4_s
    rw [e11, if_neg (show ¬ nI (gh.1 0) < nI (gh.1 0) by rw [q_lt (by omega) (by omega)]; omega)]
