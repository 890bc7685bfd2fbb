/-! answer, find -/
theorem h_answer : ∀ gh MC MR, Rel gh MC MR → ∀ p1 p2 (p3 : Bool), rS_answer Rel gh MC MR p1 p2 p3 := fun gh C R h p1 p2 w => by
  obtain ⟨n, hR⟩ := h
  have hn := hR.n80
  have hc := hR.ch20
  have hcm := hR.cnt.2.2.2.2.2.1
  have h24 := hR.cnt.2.2.2.2.2.2.1
  unfold rS_answer
  have hR1 : Rn n gh C (rv_u R 66 0 0) := Rn_66 hR
  rcases d_person gh C p1 with ⟨p, hp, rfl, a1, a2⟩ | ⟨a1, a2⟩
  · rcases hR.dcomment p2 with ⟨t, ht, rfl, b1, b2⟩ | ⟨b1, b2⟩
    · obtain ⟨⟨pa, o1, o2, o3⟩, o4, o5, o6, o7, q, s, f, a, k, q1, q2, q3, q4, q5, q6, q7, q8, q9, q10, q11, q12, q13, q14, q15⟩ := hR.cmt t ht
      have i2 := is2 ht hcm
      have eC : f11_answer gh C (nI p) (nI t) w = (if rv_z (C (200 + t) 4) = true then (if ¬ C (200 + t) 1 = nI t then some (.inr 3) else rv_x1 (f11_needSeen gh C (nI p) (100 + q)) (fun _ => rv_x1 (f11_needRoomForComment gh C) (fun _ => f11_answer_63 gh C (nI p) (nI t) w (200 + t)))) else some (.inr 3)) := by
        unfold f11_answer
        rw [a1]; simp only [x1_inl]
        rw [b1]; simp only [x1_inl]
        rw [if_pos i2, if_pos o7, q5, needChange_in C hc q1]
        simp only [x1_inl]
      have k32 : (rv_u R 66 0 0) 32 = R 32 := mu_ne (by omega)
      have k31 : (rv_u R 66 0 0) 31 = R 31 := mu_ne (by omega)
      have k26 : (rv_u R 66 0 0) 26 = R 26 := mu_ne (by omega)
      have z24 : (rv_u R 66 0 0) 24 0 = nI (gh.1 1) := by rw [mu_ne (by omega)]; exact h24
      have eR : f12_answer R (nI p) (nI t) w = (if rv_z (R 32 t) = false then (if R 31 t = -1 then rv_o1 (f12_canSee (rv_u R 66 0 0) (nI p) (nI q)) (fun r5 => (if r5 = false then f12_answer_62 (rv_u R 66 0 0) (nI p) (nI t) w else f12_answer_67 (rv_u R 66 0 0) (nI p) (nI t) w false)) else f12_answer_62 (rv_u R 66 0 0) (nI p) (nI t) w) else f12_answer_62 (rv_u R 66 0 0) (nI p) (nI t) w) := by
        unfold f12_answer
        rw [a2, o1_some, if_pos rfl, b2, o1_some, if_pos rfl]
        unfold f12_answer_21
        rw [goes_t]
        simp (disch := omega) only [o2_some, bt_f, if_false, q_in, if_pos, q_nc, k32, k31, k26, q6]
      have e62 : f12_answer_62 (rv_u R 66 0 0) (nI p) (nI t) w = some (0, rv_u (rv_u R 66 0 0) 66 0 2) := rfl
      have two : f11_answer gh C (nI p) (nI t) w = some (.inr 3) → f12_answer R (nI p) (nI t) w = some (0, rv_u (rv_u R 66 0 0) 66 0 2) → (∃ (MR' : rv_Mem) (v : Int32), f11_answer gh C (nI p) (nI t) w = some (.inr 3) ∧ f12_answer R (nI p) (nI t) w = some (v, MR') ∧ MR' 66 0 = 2 ∧ Rel gh C MR') := fun h1 h2 => ⟨_, _, h1, h2, mu_same _ _ _ _, ⟨n, Rn_66 hR1⟩⟩
      rw [o6] at eC
      cases hd : rv_z (R 32 t) with
      | true =>
        right; right
        rw [hd] at eC eR
        exact two (by rw [eC]; rfl) (by rw [eR, if_neg (by simp), e62])
      | false =>
        rw [hd] at eC eR
        rw [if_pos rfl] at eR
        rw [show (!false) = true from rfl, if_pos rfl] at eC
        rcases o4 with ⟨r1, r2⟩ | ⟨t', r1, r2, r3, r4⟩
        · rw [r2, if_neg (fun z => z rfl)] at eC
          rw [r1, if_pos (show NO = -1 from rfl)] at eR
          rcases hR1.seen q1 hp with ⟨s1, s2⟩ | ⟨s1, s2⟩
          · rw [s1] at eC
            simp only [x1_inl] at eC
            rw [s2, o1_some, if_neg (by simp)] at eR
            have e67 : f12_answer_67 (rv_u R 66 0 0) (nI p) (nI t) w false = if (rv_u R 66 0 0) 24 0 = 60 then f12_answer_84 (rv_u R 66 0 0) (nI p) (nI t) w else f12_answer_89 (rv_u R 66 0 0) (nI p) (nI t) w 0 := rfl
            rw [e67, z24] at eR
            by_cases full : gh.1 1 = 60
            · right; right
              refine two ?_ ?_
              · rw [eC]
                unfold f11_needRoomForComment
                rw [if_pos (by rw [q_60, q_le (by omega) (by omega)]; omega)]
                rfl
              · rw [eR, if_pos (by rw [full]; rfl)]
                rfl
            · left
              have room : f11_needRoomForComment gh C = some (.inl ()) := by
                unfold f11_needRoomForComment
                rw [if_neg (by rw [q_60, q_le (by omega) (by omega)]; omega)]
              rw [room] at eC
              simp only [x1_inl] at eC
              rw [if_neg (by rw [q_60, q_eq (by omega) (by omega)]; exact full)] at eR
              have y : ∀ k, k ≠ 66 → (rv_u (rv_u R 66 0 0) 66 0 0) k = R k := fun k hk => by rw [mu_ne hk, mu_ne hk]
              have y24 : (rv_u (rv_u R 66 0 0) 66 0 0) 24 0 = nI (gh.1 1) := by rw [y 24 (by omega)]; exact h24
              rw [show f12_answer_89 (rv_u R 66 0 0) (nI p) (nI t) w 0 = (if rv_in (nI t) 60 = true then if rv_in (nI t) 60 = true then if rv_in (nI t) 60 = true then if rv_in (nI t) 60 = true then if rv_in (nI t) 60 = true then rv_o1 (f12_lays (rv_u (rv_u R 66 0 0) 66 0 0) ((rv_u (rv_u R 66 0 0) 66 0 0) 26 (nI t).toNatClampNeg) ((rv_u (rv_u R 66 0 0) 66 0 0) 27 (nI t).toNatClampNeg) ((rv_u (rv_u R 66 0 0) 66 0 0) 28 (nI t).toNatClampNeg) ((rv_u (rv_u R 66 0 0) 66 0 0) 29 (nI t).toNatClampNeg) ((rv_u (rv_u R 66 0 0) 66 0 0) 30 (nI t).toNatClampNeg)) (fun M5 => rv_o2 (f12_drafts M5 (nI p) (nI t) w) (fun r7 M8 => some (r7, M8))) else none else none else none else none else none) from rfl] at eR
              rw [q_nc (by omega), y 26 (by omega), y 27 (by omega), y 28 (by omega), y 29 (by omega), y 30 (by omega), q6, q8, q10, q12, q14] at eR
              simp only [q_inb (show t < 60 by omega) (show t < 2147483648 by omega), if_true] at eR
              rw [s12_lays y24 (by omega), o1_some, s12_drafts (cm := gh.1 1) (by rw [mu_ne (by omega), mu_ne (by omega), mu_ne (by omega), mu_ne (by omega), mu_ne (by omega)]; exact y24) (by omega), o2_some] at eR
              unfold f11_answer_63 at eC
              rw [if_pos i2, if_pos (by rw [hR.ok, decide_eq_true (by omega)]; rfl)] at eC
              have ev : nI (gh.1 1 + 1) - 1 = nI (gh.1 1) := by rw [q_1, q_sub (by omega)]; rfl
              rw [ev] at eC
              refine ⟨nI (gh.1 1), _, _, _, eC, eR, ?_, ⟨n, ?_⟩⟩
              · rw [mu_ne (by omega), mu_ne (by omega), mu_ne (by omega), mu_ne (by omega), mu_ne (by omega), mu_ne (by omega), mu_ne (by omega), mu_ne (by omega), mu_ne (by omega), mu_ne (by omega), mu_same]
              · have ne := ok_pl2 o7
                have hw : (rv_w C (200 + gh.1 1) (rv_fs [nI p, nI t, rv_i w, 0, 0])) (gh.2 (200 + t)) = C (gh.2 (200 + t)) := mw_ne (by omega)
                refine Rn_lay (pk := gh.2 (200 + t)) (t := t) (q := q) (s := s) (f := f) (a := a) (k := k) hR (by omega) (fun k hk => y k hk) _ (fun k h1 h2 => by rw [mw_ne h1]) (by rw [mw_same]) hp (Or.inr ⟨ht, rfl, r1⟩) (is8_up (by omega) o7) q1 q2 q3 q4 ?_ ?_ ?_ ?_ ?_ q15
                · rw [hw]; exact q5
                · rw [hw]; exact q7
                · rw [hw]; exact q9
                · rw [hw]; exact q11
                · rw [hw]; exact q13
          · right; right
            refine two ?_ ?_
            · rw [eC, s1]; rfl
            · rw [eR, s2, o1_some, if_pos rfl, e62]
        · right; right
          refine two ?_ ?_
          · rw [eC, r3, if_pos (by rw [q_eq (by omega) (by omega)]; omega)]
          · rw [eR, r2, if_neg (by rw [q_no, q_no_eq (by omega)]; exact fun z => z), e62]
    · right; left
      refine ⟨rv_u R 66 0 1, 0, ?_, ?_, mu_same _ _ _ _, ⟨n, Rn_66 hR⟩⟩
      · unfold f11_answer
        rw [a1]; simp only [x1_inl]
        rw [b1]; rfl
      · unfold f12_answer
        rw [a2, o1_some, if_pos rfl, b2, o1_some, if_neg (by simp)]
        rfl
  · right; left
    refine ⟨rv_u R 66 0 1, 0, ?_, ?_, mu_same _ _ _ _, ⟨n, Rn_66 hR⟩⟩
    · unfold f11_answer
      rw [a1]; rfl
    · unfold f12_answer
      rw [a2, o1_some, if_neg (by simp)]
      rfl
theorem h_find : ∀ gh MC MR, Rel gh MC MR → ∀ p1 p2 p3 p4 p5 p6, rS_find Rel gh MC MR p1 p2 p3 p4 p5 p6 := fun gh C R h p2 p3 p4 p5 p6 p7 => by
  obtain ⟨n, hR⟩ := h
  have hn := hR.n80
  have hc := hR.ch20
  have hfd := hR.cnt.2.2.2.2.2.2.2.1
  have h34 := hR.cnt.2.2.2.2.2.2.2.2.1
  unfold rS_find
  have bad1 : f11_find gh C p2 p3 p4 p5 p6 p7 = some (.inr 1) → f12_find R p2 p3 p4 p5 p6 p7 = f12_find_21 R p2 p3 p4 p5 p6 p7 → (∃ (MR' : rv_Mem) (v : Int32), f11_find gh C p2 p3 p4 p5 p6 p7 = some (.inr 1) ∧ f12_find R p2 p3 p4 p5 p6 p7 = some (v, MR') ∧ MR' 66 0 = 1 ∧ Rel gh C MR') := fun h1 h2 => ⟨rv_u R 66 0 1, 0, h1, by rw [h2]; rfl, mu_same _ _ _ _, ⟨n, Rn_66 hR⟩⟩
  rcases hR.dchange p2 with ⟨q, hq, rfl, b1, b2⟩ | ⟨b1, b2⟩
  · rcases hR.dset hq p3 with ⟨s, c, rfl, d1, d2, d3, d4, d5, d6, d7, d8, d9, d10, d11⟩ | ⟨d1, d2⟩
    · rcases d_file gh C p4 with ⟨f, hf, rfl, f1, f2⟩ | ⟨f1, f2⟩
      · have hR1 : Rn n gh C (rv_u R 66 0 0) := Rn_66 hR
        have F := fil_files hR.fil (c := c) (f := f) (Or.inl d4) hf
        have eC : f11_find gh C (nI q) (nI s) (nI f) p5 p6 p7 = (if p6 < 0 then (some (.inr 2)) else rv_x1 (f11_needLines gh C (nI c) (nI f) p5 p6) (fun r14 => (if (-1) ≤ p7 then (if 400 ≤ p7 then (some (.inr 2)) else (if 40 ≤ (nI (gh.1 2)) then (some (.inr 3)) else f11_find_93 gh C (nI q) (nI s) (nI f) p5 p6 p7 (nI c))) else (some (.inr 2))))) := by
          unfold f11_find
          rw [b1]; simp only [x1_inl]
          rw [d9]; simp only [x1_inl]
          rw [f1]; simp only [x1_inl]
        have eR : f12_find R (nI q) (nI s) (nI f) p5 p6 p7 = rv_o1 (f12_areLines (rv_u R 66 0 0) (nI c) (nI f) p5 (nI 0) p6) (fun r7 => (if r7 = true then rv_o1 (f12_isIn p7 (-1) 399) (fun r9 => (if r9 = true then f12_find_66 (rv_u R 66 0 0) (nI q) (nI s) (nI f) p5 p6 p7 true else f12_find_65 (rv_u R 66 0 0) (nI q) (nI s) (nI f) p5 p6 p7)) else f12_find_65 (rv_u R 66 0 0) (nI q) (nI s) (nI f) p5 p6 p7)) := by
          unfold f12_find
          rw [d10, o1_some, if_pos rfl, f2, o1_some, if_pos rfl]
          unfold f12_find_22
          rw [goes_t]
          simp only [o2_some, bt_f, if_false]
          rw [commitAt_66 hR, d8, o1_some]
          rfl
        have two : f11_find gh C (nI q) (nI s) (nI f) p5 p6 p7 = some (.inr 2) → f12_find R (nI q) (nI s) (nI f) p5 p6 p7 = f12_find_65 (rv_u R 66 0 0) (nI q) (nI s) (nI f) p5 p6 p7 → (∃ (MR' : rv_Mem) (v : Int32), f11_find gh C (nI q) (nI s) (nI f) p5 p6 p7 = some (.inr 2) ∧ f12_find R (nI q) (nI s) (nI f) p5 p6 p7 = some (v, MR') ∧ MR' 66 0 = 2 ∧ Rel gh C MR') := fun h1 h2 => ⟨rv_u (rv_u R 66 0 0) 66 0 2, 0, h1, by rw [h2]; rfl, mu_same _ _ _ _, ⟨n, Rn_66 hR1⟩⟩
        rcases d_lines (gh := gh) (C := C) (R := rv_u R 66 0 0) (c := c) (f := f) (L := 0) (by omega) hf F.1 (fileR_of (mu_ne (by omega)) (mu_ne (by omega)) F.2.1) (Nat.zero_le _) p5 p6 with ⟨a, k, rfl, rfl, l1, l2, l3, l4, l5⟩ | ⟨l1, l2⟩
        · rw [if_neg (show ¬ nI k < 0 from l3), l4] at eC
          simp only [x1_inl] at eC
          rw [l5, o1_some, if_pos rfl] at eR
          -- the line
          have hl : ((-1 : Int32) ≤ p7 ∧ ¬ (400 : Int32) ≤ p7 ∧ f12_isIn p7 (-1) 399 = some true ∧ (p7 = NO ∨ ∃ v, v < 400 ∧ p7 = nI v)) ∨ (((¬ (-1 : Int32) ≤ p7) ∨ ((-1 : Int32) ≤ p7 ∧ (400 : Int32) ≤ p7)) ∧ f12_isIn p7 (-1) 399 = some false) := by
            have e400 : (400 : Int32) = nI 400 := rfl
            have e399 : (399 : Int32) = nI 399 := rfl
            unfold f12_isIn
            rcases q_any p7 with hneg | ⟨v, hv, rfl⟩
            · by_cases e : p7 = -1
              · subst e
                exact Or.inl ⟨by decide, by decide, by decide, Or.inl rfl⟩
              · right
                have : ¬ (-1 : Int32) ≤ p7 := by
                  intro z
                  apply e
                  rw [Int32.le_iff_toInt_le] at z
                  rw [Int32.lt_iff_toInt_lt] at hneg
                  have e0 : (0 : Int32).toInt = 0 := rfl
                  have e1 : (-1 : Int32).toInt = -1 := by decide
                  apply Int32.toInt_inj.mp
                  omega
                exact ⟨Or.inl this, by rw [if_neg this]⟩
            · have h1 : (-1 : Int32) ≤ nI v := by rw [q_no, q_no_le hv]; trivial
              rw [if_pos h1]
              simp (disch := omega) only [e400, e399, q_le]
              by_cases hv4 : v < 400
              · exact Or.inl ⟨h1, by omega, by rw [if_pos (by omega)], Or.inr ⟨v, hv4, rfl⟩⟩
              · exact Or.inr ⟨Or.inr ⟨h1, by omega⟩, by rw [if_neg (by omega)]⟩
          rcases hl with ⟨g1, g2, g3, g4⟩ | ⟨g1, g2⟩
          · rw [if_pos g1, if_neg g2] at eC
            rw [g3, o1_some, if_pos rfl] at eR
            have e66 : f12_find_66 (rv_u R 66 0 0) (nI q) (nI s) (nI f) (nI a) (nI k) p7 true = if (rv_u R 66 0 0) 34 0 = 40 then f12_find_92 (rv_u R 66 0 0) (nI q) (nI s) (nI f) (nI a) (nI k) p7 3 else f12_find_92 (rv_u R 66 0 0) (nI q) (nI s) (nI f) (nI a) (nI k) p7 0 := rfl
            have y34 : (rv_u R 66 0 0) 34 0 = nI (gh.1 2) := by rw [mu_ne (by omega)]; exact h34
            rw [e66, y34] at eR
            by_cases full : gh.1 2 = 40
            · right; right; right
              refine ⟨rv_u (rv_u R 66 0 0) 66 0 3, 0, ?_, ?_, mu_same _ _ _ _, ⟨n, Rn_66 hR1⟩⟩
              · rw [eC, if_pos (by rw [q_40, q_le (by omega) (by omega)]; omega)]
              · rw [eR, if_pos (by rw [full]; rfl)]; rfl
            · left
              rw [if_neg (by rw [q_40, q_le (by omega) (by omega)]; omega)] at eC
              rw [if_neg (by rw [q_40, q_eq (by omega) (by omega)]; exact full)] at eR
              unfold f11_find_93 at eC
              rw [if_pos (by rw [hR.ok, decide_eq_true (by omega)]; rfl)] at eC
              have ev : nI (gh.1 2 + 1) - 1 = nI (gh.1 2) := by rw [q_1, q_sub (by omega)]; rfl
              rw [ev] at eC
              have y : ∀ k, k ≠ 66 → (rv_u (rv_u R 66 0 0) 66 0 0) k = R k := fun k hk => by rw [mu_ne hk, mu_ne hk]
              have x34 : (rv_u (rv_u R 66 0 0) 66 0 0) 34 0 = nI (gh.1 2) := by rw [y 34 (by omega)]; exact h34
              have e92 : f12_find_92 (rv_u R 66 0 0) (nI q) (nI s) (nI f) (nI a) (nI k) p7 0 = some (nI (gh.1 2), rv_u (rv_u (rv_u (rv_u (rv_u (rv_u (rv_u (rv_u (rv_u R 66 0 0) 66 0 0) 35 (gh.1 2) (nI q)) 36 (gh.1 2) (nI s)) 37 (gh.1 2) (nI f)) 38 (gh.1 2) (nI a)) 39 (gh.1 2) (nI k)) 40 (gh.1 2) p7) 34 0 (nI (gh.1 2 + 1))) := by
                unfold f12_find_92
                show rv_o2 (some (true, rv_u (rv_u R 66 0 0) 66 0 0)) _ = _
                have en : nI (gh.1 2) + 1 = nI (gh.1 2 + 1) := q_succ _
                simp (disch := omega) only [o2_some, bt_f, if_false, x34, q_in, if_pos, q_nc, lt_do, mu_ne, en, mu_same, ev]
              rw [e92] at eR
              refine ⟨nI (gh.1 2), _, _, _, eC, eR, ?_, ⟨n, ?_⟩⟩
              · rw [mu_ne (by omega), mu_ne (by omega), mu_ne (by omega), mu_ne (by omega), mu_ne (by omega), mu_ne (by omega), mu_ne (by omega), mu_same]
              · have lc : (fl R c f).length = (R 3 (4 * c + f)).toNatClampNeg := fl_len
                have c4 : (rv_w (rv_w C (400 + gh.1 2) (rv_fs [nI c, p7, 0])) (500 + gh.1 2) (rv_fs [nI q, nI s, nI f, nI a, nI k])) (400 + gh.1 2) = rv_fs [nI c, p7, 0] := by rw [mw_ne (by omega), mw_same]
                have c5 : (rv_w (rv_w C (400 + gh.1 2) (rv_fs [nI c, p7, 0])) (500 + gh.1 2) (rv_fs [nI q, nI s, nI f, nI a, nI k])) (500 + gh.1 2) = rv_fs [nI q, nI s, nI f, nI a, nI k] := mw_same _ _ _
                refine Rn_fnd1 hR (by omega) (fun k h1 h2 => by rw [mw_ne h2, mw_ne h1]) (fun k hk => ?_) (fun k i h1 h2 hi => ?_) (mu_same _ _ _ _) ?_ ⟨q, s, f, a, k, hq, d2, hf, by rw [c5]; rfl, ?_, by rw [c5]; rfl, ?_, by rw [c5]; rfl, ?_, by rw [c5]; rfl, ?_, by rw [c5]; rfl, ?_, by rw [c4, d8]; rfl, by rw [d8, q_nc (by omega), ← lc]; exact l2, by rw [c4, mu_ne (by omega), mu_same]; rfl, ?_⟩
                · rw [mu_ne (by omega), mu_ne (by omega), mu_ne (by omega), mu_ne (by omega), mu_ne (by omega), mu_ne (by omega), mu_ne (by omega), y k (by omega)]
                · rw [mu_ne (by omega), mu_ne2 hi, mu_ne2 hi, mu_ne2 hi, mu_ne2 hi, mu_ne2 hi, mu_ne2 hi, y k (by omega)]
                · rw [mu_ne (by omega), mu_ne (by omega), mu_ne (by omega), mu_ne (by omega), mu_ne (by omega), mu_ne (by omega), mu_ne (by omega), y 64 (by omega)]; exact hR.h64
                · rw [mu_ne (by omega), mu_ne (by omega), mu_ne (by omega), mu_ne (by omega), mu_ne (by omega), mu_ne (by omega), mu_same]
                · rw [mu_ne (by omega), mu_ne (by omega), mu_ne (by omega), mu_ne (by omega), mu_ne (by omega), mu_same]
                · rw [mu_ne (by omega), mu_ne (by omega), mu_ne (by omega), mu_ne (by omega), mu_same]
                · rw [mu_ne (by omega), mu_ne (by omega), mu_ne (by omega), mu_same]
                · rw [mu_ne (by omega), mu_ne (by omega), mu_same]
                · rw [mu_ne (by omega), mu_same]; exact g4
          · right; right; left
            refine two ?_ ?_
            · rw [eC]
              rcases g1 with g1 | ⟨g1, g3⟩
              · rw [if_neg g1]
              · rw [if_pos g1, if_pos g3]
            · rw [eR, g2, o1_some, if_neg (by simp)]
        · right; right; left
          refine two ?_ ?_
          · rw [eC]
            rcases l1 with l1 | ⟨l1, l3⟩
            · rw [if_pos (show p6 < 0 from l1)]
            · rw [if_neg (show ¬ p6 < 0 from l1), l3]; rfl
          · rw [eR, l2, o1_some, if_neg (by simp)]
      · right; left
        refine bad1 ?_ ?_
        · unfold f11_find
          rw [b1]; simp only [x1_inl]
          rw [d9]; simp only [x1_inl]
          rw [f1]; rfl
        · unfold f12_find
          rw [d10, o1_some, if_pos rfl, f2, o1_some, if_neg (by simp)]
    · right; left
      refine bad1 ?_ ?_
      · unfold f11_find
        rw [b1]; simp only [x1_inl]
        rw [d1]; rfl
      · unfold f12_find
        rw [d2, o1_some, if_neg (by simp)]
  · right; left
    refine bad1 ?_ ?_
    · unfold f11_find
      rw [b1]; rfl
    · unfold f12_find
      rw [isSet_no b2, o1_some, if_neg (by simp)]
