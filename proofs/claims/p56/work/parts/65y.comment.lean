/-! comment, answer, find -/
theorem d_lines {gh : rC_gh} {C R : rv_Mem} {c f L : Nat} {A : List Int32} (hc : c < 82) (hf : f < 4) (hA : fileC C c f A) (hA' : fileR R c f A) (hL : L ≤ 1) (x y : Int32) :
    (∃ a k, x = nI a ∧ y = nI k ∧ L ≤ k ∧ a + k ≤ A.length ∧ ¬ y < nI L ∧ f11_needLines gh C (nI c) (nI f) x y = some (.inl ()) ∧ f12_areLines R (nI c) (nI f) x (nI L) y = some true) ∨
    ((y < nI L ∨ (¬ y < nI L ∧ f11_needLines gh C (nI c) (nI f) x y = some (.inr 2))) ∧ f12_areLines R (nI c) (nI f) x (nI L) y = some false) := by
  have lA := hA.1
  have e1 : f11_needLines gh C (nI c) (nI f) x y = (if 0 ≤ x then (if x ≤ nI A.length then (if (nI A.length - x) < y then (some (.inr 2)) else (some (.inl ()))) else (some (.inr 2))) else (some (.inr 2))) := by
    unfold f11_needLines
    rw [s9_sizeOf hc hf, hA.2.1, o1_some]
  have e2 : f12_areLines R (nI c) (nI f) x (nI L) y = rv_o1 (f12_isIn x (nI 0) (nI A.length)) (fun r4 => (if r4 = true then rv_o1 (f12_isIn y (nI L) (nI A.length - x)) (fun r6 => (if r6 = true then (some true) else (some false))) else (some false))) := by
    unfold f12_areLines
    rw [s12_sizeOf hc hf, hA'.2.1, o1_some]
    rfl
  have left : f11_needLines gh C (nI c) (nI f) x y = some (.inr 2) → f12_areLines R (nI c) (nI f) x (nI L) y = some false → (y < nI L ∨ (¬ y < nI L ∧ f11_needLines gh C (nI c) (nI f) x y = some (.inr 2))) ∧ f12_areLines R (nI c) (nI f) x (nI L) y = some false := fun h1 h2 => by
    by_cases q : y < nI L
    · exact ⟨Or.inl q, h2⟩
    · exact ⟨Or.inr ⟨q, h1⟩, h2⟩
  rcases q_any x with hx | ⟨a, ha, rfl⟩
  · right
    refine left ?_ ?_
    · rw [e1, if_neg (by rw [q_neg hx]; exact fun z => z)]
    · rw [e2, s12_isIn_neg hx (by omega)]; rfl
  · by_cases h1 : a ≤ A.length
    · have e3 : nI A.length - nI a = nI (A.length - a) := q_sub h1
      rw [e3, s12_isIn ha (by omega) (by omega), decide_eq_true (show 0 ≤ a ∧ a ≤ A.length by omega), o1_some, if_pos rfl] at e2
      rw [e3, if_pos (by rw [q_0, q_le (by omega) ha]; omega), if_pos (by rw [q_le ha (by omega)]; exact h1)] at e1
      rcases q_any y with hy | ⟨k, hk, rfl⟩
      · right
        refine ⟨Or.inl ?_, ?_⟩
        · rw [Int32.lt_iff_toInt_lt, q_ti (by omega)]
          rw [Int32.lt_iff_toInt_lt] at hy
          have : (0 : Int32).toInt = 0 := rfl
          omega
        · rw [e2, s12_isIn_neg hy (by omega)]; rfl
      · by_cases h2 : L ≤ k
        · have h3 : ¬ nI k < nI L := by rw [q_lt hk (by omega)]; omega
          by_cases h4 : k ≤ A.length - a
          · left
            refine ⟨a, k, rfl, rfl, h2, by omega, h3, ?_, ?_⟩
            · rw [e1, if_neg (by rw [q_lt (by omega) hk]; omega)]
            · rw [e2, s12_isIn hk (by omega) (by omega), decide_eq_true ⟨h2, h4⟩]; rfl
          · right
            refine left ?_ ?_
            · rw [e1, if_pos (by rw [q_lt (by omega) hk]; omega)]
            · rw [e2, s12_isIn hk (by omega) (by omega), decide_eq_false (fun z => h4 z.2)]; rfl
        · right
          refine ⟨Or.inl (by rw [q_lt hk (by omega)]; omega), ?_⟩
          rw [e2, s12_isIn hk (by omega) (by omega), decide_eq_false (fun z => h2 z.1)]; rfl
    · right
      refine left ?_ ?_
      · rw [e1, if_pos (by rw [q_0, q_le (by omega) ha]; omega), if_neg (by rw [q_le ha (by omega)]; exact h1)]
      · rw [e2, s12_isIn ha (by omega) (by omega), decide_eq_false (fun z => h1 z.2)]; rfl
theorem s12_lays {M : rv_Mem} {cm : Nat} (h24 : M 24 0 = nI cm) (hcm : cm < 60) (a b c d e : Int32) : f12_lays M a b c d e = some (rv_u (rv_u (rv_u (rv_u (rv_u M 26 cm a) 27 cm b) 28 cm c) 29 cm d) 30 cm e) := by
  unfold f12_lays
  simp (disch := omega) only [h24, q_in, if_pos, q_nc, lt_do, mu_ne]
theorem s12_drafts {M : rv_Mem} {cm : Nat} (h24 : M 24 0 = nI cm) (hcm : cm < 60) (a b : Int32) (w : Bool) : f12_drafts M a b w = some (nI cm, rv_u (rv_u (rv_u (rv_u (rv_u M 25 cm a) 31 cm b) 32 cm (rv_i true)) 33 cm (rv_i w)) 24 0 (nI (cm + 1))) := by
  unfold f12_drafts
  have : nI (cm + 1) - 1 = nI cm := by rw [q_1, q_sub (by omega)]; rfl
  simp (disch := omega) only [h24, q_in, if_pos, q_nc, lt_do, mu_ne, q_succ, mu_same, this]
theorem needChange_in {gh : rC_gh} (C : rv_Mem) {q : Nat} (hc : gh.1 0 ≤ 20) (hq : q < gh.1 0) : f11_needChange gh C (nI q) = some (.inl (100 + q)) := by
  unfold f11_needChange
  simp (disch := omega) only [q_no, q_no2, q_0, q_1, q_2, q_3, q_4, q_5, q_6, q_7, q_8, q_10, q_11, q_12, q_15, q_16, q_17, q_20, q_30, q_31, q_32, q_40, q_45, q_60, q_80, q_81, q_82, q_100, q_320, q_328, q_399, q_400, q_3280, q_nc, q_eq, q_lt, q_le, q_add, q_mul, q_in, q_inno, q_no_eq, q_no_eq', q_no_lt, q_lt_no, q_no_le, q_le_no, o1_some, o2_some, lt_do, x1_inl, x1_inr, x2_inl, x2_inr, if_true, if_false, if_pos, if_neg, rvi_t, rvi_f, bt_f, bf_t, bb_t, bb_f, not_true_eq_false, not_false_eq_true, is1 hq hc]
theorem commitAt_66 {n : Nat} {gh : rC_gh} {C R : rv_Mem} (hR : Rn n gh C R) (v : Int32) (h s : Int32) : f12_commitAt (rv_u R 66 0 v) h s = some (mAt n (R 5) (R 6) h s) := s12_commitAt (by rw [mu_ne (by omega)]; exact hR.cnt.2.2.1) hR.n80 h s
/-- one comment more, on both sides -/
theorem Rn_lay {n : Nat} {gh : rC_gh} {C R R1 : rv_Mem} {pk p t : Nat} {th31 : Int32} {w : Bool} (h : Rn n gh C R) (hcm : gh.1 1 < 60) (hk : ∀ k, k ≠ 66 → R1 k = R k) (C' : rv_Mem) (hC : ∀ k, k ≠ 200 + gh.1 1 → k ≠ 300 + gh.1 1 → C' k = C k) (hC2 : C' (200 + gh.1 1) = rv_fs [nI p, nI t, rv_i w, 0, 0]) (hp : p < 6) (ht : (th31 = NO ∧ t = gh.1 1) ∨ (t < gh.1 1 ∧ th31 = nI t ∧ R 31 t = NO)) (hpk : rC_is (rC_gi gh 1 pk) 8 pk = true)
    {q s f a k : Nat} (hq : q < gh.1 0) (hs : s < (R 14 q).toNatClampNeg) (hf : f < 4) (h1 : 1 ≤ k) (c0 : C' pk 0 = nI q) (c1 : C' pk 1 = nI s) (c2 : C' pk 2 = nI f) (c3 : C' pk 3 = nI a) (c4 : C' pk 4 = nI k) (hak : a + k ≤ (R 3 (4 * (mAt n (R 5) (R 6) (nI q) (nI s)).toNatClampNeg + f)).toNatClampNeg) :
    Rn n (rC_gi gh 1 pk) C' (rv_u (rv_u (rv_u (rv_u (rv_u (rv_u (rv_u (rv_u (rv_u (rv_u R1 26 (gh.1 1) (nI q)) 27 (gh.1 1) (nI s)) 28 (gh.1 1) (nI f)) 29 (gh.1 1) (nI a)) 30 (gh.1 1) (nI k)) 25 (gh.1 1) (nI p)) 31 (gh.1 1) th31) 32 (gh.1 1) (rv_i true)) 33 (gh.1 1) (rv_i w)) 24 0 (nI (gh.1 1 + 1))) := by
  refine Rn_cmt1 h hcm hC (fun k hk' => ?_) (fun k i h1 h2 hi => ?_) (mu_same _ _ _ _) ?_ ?_ hpk ⟨⟨p, hp, by rw [hC2]; rfl, ?_⟩, ?_, ?_, by rw [hC2]; rfl, q, s, f, a, k, hq, hs, hf, h1, c0, ?_, c1, ?_, c2, ?_, c3, ?_, c4, ?_, hak⟩
  · rw [mu_ne (by omega), mu_ne (by omega), mu_ne (by omega), mu_ne (by omega), mu_ne (by omega), mu_ne (by omega), mu_ne (by omega), mu_ne (by omega), mu_ne (by omega), mu_ne (by omega), hk k (by omega)]
  · rw [mu_ne (by omega), mu_ne2 hi, mu_ne2 hi, mu_ne2 hi, mu_ne2 hi, mu_ne2 hi, mu_ne2 hi, mu_ne2 hi, mu_ne2 hi, mu_ne2 hi, hk k (by omega)]
  · rw [mu_ne (by omega), mu_ne (by omega), mu_ne (by omega), mu_ne (by omega), mu_ne (by omega), mu_ne (by omega), mu_ne (by omega), mu_ne (by omega), mu_ne (by omega), mu_ne (by omega), hk 64 (by omega)]
    exact h.h64
  · rw [mu_ne (by omega), mu_ne (by omega), mu_same]; rfl
  · rw [mu_ne (by omega), mu_ne (by omega), mu_ne (by omega), mu_ne (by omega), mu_same]
  · have e31 : (rv_u (rv_u (rv_u (rv_u (rv_u (rv_u (rv_u (rv_u (rv_u (rv_u R1 26 (gh.1 1) (nI q)) 27 (gh.1 1) (nI s)) 28 (gh.1 1) (nI f)) 29 (gh.1 1) (nI a)) 30 (gh.1 1) (nI k)) 25 (gh.1 1) (nI p)) 31 (gh.1 1) th31) 32 (gh.1 1) (rv_i true)) 33 (gh.1 1) (rv_i w)) 24 0 (nI (gh.1 1 + 1))) 31 (gh.1 1) = th31 := by
      rw [mu_ne (by omega), mu_ne (by omega), mu_ne (by omega), mu_same]
    have e1 : C' (200 + gh.1 1) 1 = nI t := by rw [hC2]; rfl
    rw [e31, e1]
    rcases ht with ⟨t1, t2⟩ | ⟨t1, t2, t3⟩
    · exact Or.inl ⟨t1, by rw [t2]⟩
    · exact Or.inr ⟨t, t1, t2, rfl, t3⟩
  · rw [mu_ne (by omega), mu_same, hC2]; rfl
  · rw [mu_ne (by omega), mu_ne (by omega), mu_ne (by omega), mu_ne (by omega), mu_ne (by omega), mu_ne (by omega), mu_ne (by omega), mu_ne (by omega), mu_ne (by omega), mu_same]
  · rw [mu_ne (by omega), mu_ne (by omega), mu_ne (by omega), mu_ne (by omega), mu_ne (by omega), mu_ne (by omega), mu_ne (by omega), mu_ne (by omega), mu_same]
  · rw [mu_ne (by omega), mu_ne (by omega), mu_ne (by omega), mu_ne (by omega), mu_ne (by omega), mu_ne (by omega), mu_ne (by omega), mu_same]
  · rw [mu_ne (by omega), mu_ne (by omega), mu_ne (by omega), mu_ne (by omega), mu_ne (by omega), mu_ne (by omega), mu_same]
  · rw [mu_ne (by omega), mu_ne (by omega), mu_ne (by omega), mu_ne (by omega), mu_ne (by omega), mu_same]
theorem h_comment : ∀ gh MC MR, Rel gh MC MR → ∀ p1 p2 p3 p4 p5 p6 (p7 : Bool), rS_comment Rel gh MC MR p1 p2 p3 p4 p5 p6 p7 := fun gh C R h p1 p2 p3 p4 p5 p6 w => by
  obtain ⟨n, hR⟩ := h
  have hn := hR.n80
  have hc := hR.ch20
  have hcm := hR.cnt.2.2.2.2.2.1
  have h24 := hR.cnt.2.2.2.2.2.2.1
  unfold rS_comment
  have one : ∀ v, Rel gh C (rv_u R 66 0 v) := fun v => ⟨n, Rn_66 hR⟩
  have bad1 : f11_comment gh C p1 p2 p3 p4 p5 p6 w = some (.inr 1) → f12_comment R p1 p2 p3 p4 p5 p6 w = f12_comment_29 R p1 p2 p3 p4 p5 p6 w → (∃ (MR' : rv_Mem) (v : Int32), f11_comment gh C p1 p2 p3 p4 p5 p6 w = some (.inr 1) ∧ f12_comment R p1 p2 p3 p4 p5 p6 w = some (v, MR') ∧ MR' 66 0 = 1 ∧ Rel gh C MR') := fun h1 h2 => ⟨rv_u R 66 0 1, 0, h1, by rw [h2]; rfl, mu_same _ _ _ _, one 1⟩
  rcases d_person gh C p1 with ⟨p, hp, rfl, a1, a2⟩ | ⟨a1, a2⟩
  · rcases hR.dchange p2 with ⟨q, hq, rfl, b1, b2⟩ | ⟨b1, b2⟩
    · rcases hR.dset hq p3 with ⟨s, c, rfl, d1, d2, d3, d4, d5, d6, d7, d8, d9, d10, d11⟩ | ⟨d1, d2⟩
      · rcases d_file gh C p4 with ⟨f, hf, rfl, f1, f2⟩ | ⟨f1, f2⟩
        · have hR1 : Rn n gh C (rv_u R 66 0 0) := Rn_66 hR
          have F := fil_files hR.fil (c := c) (f := f) (Or.inl d4) hf
          have eC : f11_comment gh C (nI p) (nI q) (nI s) (nI f) p5 p6 w = (if p6 < 1 then (some (.inr 2)) else rv_x1 (f11_needLines gh C (nI c) (nI f) p5 p6) (fun r18 => rv_x1 (f11_needSeen gh C (nI p) (100 + q)) (fun r22 => rv_x1 (f11_needRoomForComment gh C) (fun r26 => f11_comment_76 gh C (nI p) (nI q) (nI s) (nI f) p5 p6 w (nI (gh.1 1)))))) := by
            unfold f11_comment
            rw [a1]; simp only [x1_inl]
            rw [b1]; simp only [x1_inl]
            rw [d9]; simp only [x1_inl]
            rw [f1]; simp only [x1_inl]
          have eR : f12_comment R (nI p) (nI q) (nI s) (nI f) p5 p6 w = rv_o1 (f12_areLines (rv_u R 66 0 0) (nI c) (nI f) p5 (nI 1) p6) (fun r7 => (if r7 = false then f12_comment_90 (rv_u R 66 0 0) (nI p) (nI q) (nI s) (nI f) p5 p6 w 2 else rv_o1 (f12_canSee (rv_u R 66 0 0) (nI p) (nI q)) (fun r9 => (if r9 = true then (if ((rv_u R 66 0 0) 24 0) = 60 then f12_comment_85 (rv_u R 66 0 0) (nI p) (nI q) (nI s) (nI f) p5 p6 w else f12_comment_90 (rv_u R 66 0 0) (nI p) (nI q) (nI s) (nI f) p5 p6 w 0) else f12_comment_85 (rv_u R 66 0 0) (nI p) (nI q) (nI s) (nI f) p5 p6 w)))) := by
            unfold f12_comment
            rw [a2, o1_some, if_pos rfl, d10, o1_some, if_pos rfl, f2, o1_some, if_pos rfl]
            unfold f12_comment_30
            rw [goes_t]
            simp only [o2_some, bt_f, if_false]
            rw [commitAt_66 hR, d8, o1_some]
            rfl
          rcases d_lines (gh := gh) (C := C) (R := rv_u R 66 0 0) (c := c) (f := f) (L := 1) (by omega) hf F.1 (fileR_of (mu_ne (by omega)) (mu_ne (by omega)) F.2.1) (Nat.le_refl _) p5 p6 with ⟨a, k, rfl, rfl, l1, l2, l3, l4, l5⟩ | ⟨l1, l2⟩
          · have l3' : ¬ nI k < 1 := l3
            rw [if_neg l3', l4] at eC
            simp only [x1_inl] at eC
            rw [l5] at eR
            simp only [o1_some, bt_f, if_false] at eR
            have three : f11_comment gh C (nI p) (nI q) (nI s) (nI f) (nI a) (nI k) w = some (.inr 3) → f12_comment R (nI p) (nI q) (nI s) (nI f) (nI a) (nI k) w = f12_comment_85 (rv_u R 66 0 0) (nI p) (nI q) (nI s) (nI f) (nI a) (nI k) w → (∃ (MR' : rv_Mem) (v : Int32), f11_comment gh C (nI p) (nI q) (nI s) (nI f) (nI a) (nI k) w = some (.inr 3) ∧ f12_comment R (nI p) (nI q) (nI s) (nI f) (nI a) (nI k) w = some (v, MR') ∧ MR' 66 0 = 3 ∧ Rel gh C MR') := fun h1 h2 => ⟨rv_u (rv_u R 66 0 0) 66 0 3, 0, h1, by rw [h2]; rfl, mu_same _ _ _ _, ⟨n, Rn_66 hR1⟩⟩
            rcases hR1.seen hq hp with ⟨s1, s2⟩ | ⟨s1, s2⟩
            · rw [s1] at eC
              simp only [x1_inl] at eC
              rw [s2] at eR
              simp only [o1_some, if_true] at eR
              have z24 : (rv_u R 66 0 0) 24 0 = nI (gh.1 1) := by rw [mu_ne (by omega)]; exact h24
              by_cases full : gh.1 1 = 60
              · right; right; right
                refine three ?_ ?_
                · rw [eC]
                  unfold f11_needRoomForComment
                  rw [if_pos (by rw [q_60, q_le (by omega) (by omega)]; omega)]
                  rfl
                · rw [eR, z24, if_pos (by rw [full]; rfl)]
              · left
                have room : f11_needRoomForComment gh C = some (.inl ()) := by
                  unfold f11_needRoomForComment
                  rw [if_neg (by rw [q_60, q_le (by omega) (by omega)]; omega)]
                rw [room] at eC
                simp only [x1_inl] at eC
                rw [z24, if_neg (by rw [q_60, q_eq (by omega) (by omega)]; exact full)] at eR
                have y24 : (rv_u (rv_u R 66 0 0) 66 0 0) 24 0 = nI (gh.1 1) := by rw [mu_ne (by omega)]; exact z24
                rw [show f12_comment_90 (rv_u R 66 0 0) (nI p) (nI q) (nI s) (nI f) (nI a) (nI k) w 0 = rv_o1 (f12_lays (rv_u (rv_u R 66 0 0) 66 0 0) (nI q) (nI s) (nI f) (nI a) (nI k)) (fun M5 => rv_o2 (f12_drafts M5 (nI p) (-1) w) (fun r7 M8 => some (r7, M8))) from rfl] at eR
                rw [s12_lays y24 (by omega), o1_some, s12_drafts (cm := gh.1 1) (by rw [mu_ne (by omega), mu_ne (by omega), mu_ne (by omega), mu_ne (by omega), mu_ne (by omega)]; exact y24) (by omega), o2_some] at eR
                unfold f11_comment_76 at eC
                rw [if_pos (by rw [hR.ok, decide_eq_true (by omega)]; rfl)] at eC
                refine ⟨nI (gh.1 1), _, _, _, eC, eR, ?_, ⟨n, ?_⟩⟩
                · rw [mu_ne (by omega), mu_ne (by omega), mu_ne (by omega), mu_ne (by omega), mu_ne (by omega), mu_ne (by omega), mu_ne (by omega), mu_ne (by omega), mu_ne (by omega), mu_ne (by omega), mu_same]
                · have lc : (fl R c f).length = (R 3 (4 * c + f)).toNatClampNeg := fl_len
                  have nw : rC_is (rC_gi gh 1 (300 + gh.1 1)) 8 (300 + gh.1 1) = true := by
                    unfold rC_is rC_dm rC_kd
                    rw [if_neg (by omega), if_neg (by omega), if_neg (by omega), if_neg (by omega), if_pos (by omega), if_neg (by omega), if_neg (by omega), if_neg (by omega), if_neg (by omega), if_pos (by omega)]
                    rw [show 300 + gh.1 1 - 100 = 200 + gh.1 1 by omega]
                    simp [rC_gi1, rC_gi2]
                  refine Rn_lay (pk := 300 + gh.1 1) (t := gh.1 1) (q := q) (s := s) (f := f) (a := a) (k := k) hR (by omega) (fun k hk => by rw [mu_ne hk, mu_ne hk]) _ (fun k h1 h2 => by rw [mw_ne h2, mw_ne h1]) (by rw [mw_ne (by omega), mw_same]) hp (Or.inl ⟨rfl, rfl⟩) nw hq d2 hf l1 ?_ ?_ ?_ ?_ ?_ ?_
                  · rw [mw_same]; rfl
                  · rw [mw_same]; rfl
                  · rw [mw_same]; rfl
                  · rw [mw_same]; rfl
                  · rw [mw_same]; rfl
                  · rw [d8, q_nc (by omega), ← lc]; exact l2
            · right; right; right
              refine three ?_ ?_
              · rw [eC, s1]; rfl
              · rw [eR, s2, o1_some, if_neg (by simp)]
          · right; right; left
            refine ⟨rv_u (rv_u R 66 0 0) 66 0 2, 0, ?_, ?_, mu_same _ _ _ _, ⟨n, Rn_66 hR1⟩⟩
            · rw [eC]
              rcases l1 with l1 | ⟨l1, l3⟩
              · rw [if_pos (show p6 < 1 from l1)]
              · rw [if_neg (show ¬ p6 < 1 from l1), l3]; rfl
            · rw [eR, l2]; rfl
        · right; left
          refine bad1 ?_ ?_
          · unfold f11_comment
            rw [a1]; simp only [x1_inl]
            rw [b1]; simp only [x1_inl]
            rw [d9]; simp only [x1_inl]
            rw [f1]; rfl
          · unfold f12_comment
            rw [a2, o1_some, if_pos rfl, d10, o1_some, if_pos rfl, f2, o1_some, if_neg (by simp)]
      · right; left
        refine bad1 ?_ ?_
        · unfold f11_comment
          rw [a1]; simp only [x1_inl]
          rw [b1]; simp only [x1_inl]
          rw [d1]; rfl
        · unfold f12_comment
          rw [a2, o1_some, if_pos rfl, d2, o1_some, if_neg (by simp)]
    · right; left
      refine bad1 ?_ ?_
      · unfold f11_comment
        rw [a1]; simp only [x1_inl]
        rw [b1]; rfl
      · unfold f12_comment
        rw [a2, o1_some, if_pos rfl, isSet_no b2, o1_some, if_neg (by simp)]
  · right; left
    refine bad1 ?_ ?_
    · unfold f11_comment
      rw [a1]; rfl
    · unfold f12_comment
      rw [a2, o1_some, if_neg (by simp)]
