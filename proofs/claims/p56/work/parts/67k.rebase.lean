/-! both sides merge rows alike; rebase -/
theorem Rn.merge {n : Nat} {gh : rC_gh} {C R : rv_Mem} (hR : Rn n gh C R) {c0 c1 c2 : Nat} (h0 : c0 < n) (h1 : c1 < n) (h2 : c2 < n) : ∃ ok C' R', f2_mergeRows gh C (nI c0) (nI c1) (nI c2) = some (ok, C') ∧ f12_merges R (nI c0) (nI c1) (nI c2) = some (ok, R') ∧ Rn n gh C' R' ∧ m8 C' C ∧ m9 R' R ∧ (ok = true → rowOK 81 81 C' R') := by
  have hn := hR.n80
  have fl1 : ∀ c, c < n → ∀ f, f < 4 → fileC C c f (fl R c f) ∧ fileR R c f (fl R c f) ∧ ∀ p, p < (fl R c f).length → ∃ v, v < 400 ∧ (fl R c f).getD p 0 = nI v := fun c hc f hf => fil_files hR.fil (Or.inl hc) hf
  obtain ⟨ok, C', a1, a2, a3, a4⟩ := s2_mergeRows (gh := gh) (C := C) (c0 := c0) (c1 := c1) (c2 := c2) (O := fl R c0) (A := fl R c1) (B := fl R c2) (by omega) (by omega) (by omega) (fun f hf => (fl1 c0 h0 f hf).1) (fun f hf => (fl1 c1 h1 f hf).1) (fun f hf => (fl1 c2 h2 f hf).1)
  obtain ⟨ok', R', b1, b2, b3, b4⟩ := s12_merges (R := R) (c0 := c0) (c1 := c1) (c2 := c2) (O := fl R c0) (A := fl R c1) (B := fl R c2) hR.h64 (by omega) (by omega) (by omega) (fun f hf => (fl1 c0 h0 f hf).2.1) (fun f hf => (fl1 c1 h1 f hf).2.1) (fun f hf => (fl1 c2 h2 f hf).2.1)
  have e : ok' = ok := by
    cases ok with
    | true => exact b3.mpr (a3.mp rfl)
    | false =>
      cases ok' with
      | false => rfl
      | true => have := a3.mpr (b3.mp rfl); cases this
  subst e
  refine ⟨ok', C', R', a1, b1, Rn_81 hR a2 b2, a2, b2, fun z f hf => ?_⟩
  obtain ⟨x1, x2, x3⟩ := a4 z f hf
  obtain ⟨y1, y2, y3⟩ := b4 z f hf
  have pv : ∀ c, c < n → ∀ x, x ∈ fl R c f → ∃ v, v < 400 ∧ x = nI v := fun c hc x hx => by
    obtain ⟨p, hp, e⟩ := List.mem_iff_getElem.mp hx
    obtain ⟨v, v1, v2⟩ := (fl1 c hc f hf).2.2 p hp
    rw [List.getD_eq_getElem?_getD, List.getElem?_eq_getElem hp] at v2
    exact ⟨v, v1, by rw [← e]; exact v2⟩
  refine ⟨(mgd (fl R c0 f) (fl R c1 f) (fl R c2 f)).length, x1, x2, y2, fun p hp => ?_⟩
  obtain ⟨v, v1, v2⟩ := mgd_all (P := fun x => ∃ v, v < 400 ∧ x = nI v) (pv c0 h0) (pv c1 h1) (pv c2 h2) _ (List.getElem_mem hp)
  have e : (mgd (fl R c0 f) (fl R c1 f) (fl R c2 f)).getD p 0 = nI v := by
    rw [List.getD_eq_getElem?_getD, List.getElem?_eq_getElem hp]; exact v2
  exact ⟨v, v1, by rw [x3 p hp, e], by rw [y3 p hp, e]⟩
theorem h_rebase : ∀ gh MC MR, Rel gh MC MR → ∀ p1 p2, rS_rebase Rel gh MC MR p1 p2 := fun gh C R h p1 p2 => by
  obtain ⟨n, hR⟩ := h
  have hc := hR.ch20
  have hn80 := hR.n80
  rcases hR.dwrong p1 p2 with ⟨p, h, hp, hh, rfl, rfl, e1, e2, e3⟩ | ⟨e1, e2⟩
  · obtain ⟨-, -, ⟨r, r0, f2, -⟩, -⟩ := hR.chg h hh
    have hR0 : Rn n gh C (rv_u R 66 0 0) := Rn_66 hR
    generalize hS : rv_u R 66 0 0 = S at hR0
    have sS : ∀ q, q ≠ 66 → S q = R q := fun q hq => by rw [← hS, mu_ne hq]
    have s66 : S 66 0 = 0 := by rw [← hS, mu_same]
    have bad : ∀ C' M, Rn n gh C' M → f11_rebase gh C (nI p) (nI h) = some (.inr (3, C')) → f12_rebase R (nI p) (nI h) = some (0, rv_u M 66 0 2) → rS_rebase Rel gh C R (nI p) (nI h) := fun C' M hM y1 y2 => by
      right; right
      exact ⟨C', rv_u M 66 0 2, 0, y1, y2, mu_same _ _ _ _, ⟨n, Rn_66 hM⟩⟩
    have g2 : ∀ M : rv_Mem, f12_goes M 2 = some (false, rv_u M 66 0 2) := fun M => rfl
    have sh32 : f12_rebase_32 S (nI p) (nI h) = some (0, rv_u S 66 0 2) := by
      unfold f12_rebase_32 f12_rebase_37
      rw [g2, o2_some, if_pos rfl]
    have sh85 : ∀ (M : rv_Mem) x, f12_rebase_85 M (nI p) (nI h) x = some (0, rv_u M 66 0 2) := fun M x => by
      unfold f12_rebase_85 f12_rebase_90
      rw [g2, o2_some, if_pos rfl]
    have eR : f12_rebase R (nI p) (nI h) = rv_o1 (f12_isShut S (nI p) (nI h)) (fun r7 => (if r7 = false then (if (S 0 0) = 80 then f12_rebase_32 S (nI p) (nI h) else f12_rebase_37 S (nI p) (nI h) 0) else f12_rebase_32 S (nI p) (nI h))) := by
      have g1 : f12_goes R (nI 0) = some (true, S) := by rw [← hS]; rfl
      unfold f12_rebase
      rw [e3, o1_some, g1, o2_some, if_pos rfl]
    have eC : f11_rebase gh C (nI p) (nI h) = rv_x2 (f11_needOpenAndSeen gh C (nI p) (100 + h)) C (fun r10 => rv_o1 (f9_currentOf gh C (nI h)) (fun r14 => rv_o1 (f9_baseOf gh C r14) (fun r16 => rv_o1 (f11_newBaseOf gh C (100 + h)) (fun r18 => (if r18 = r16 then (some (.inr (3, C))) else rv_x2 (f11_needRoomForCommit gh C) C (fun r20 => rv_o2 (f2_mergeRows gh C r16 r14 r18) (fun r24 M25 => (if r24 = false then (some (.inr (3, M25))) else rv_o2 (f11_addSet gh M25 (nI p) (100 + h) 81 r18) (fun r27 M28 => (some (.inl (r27, M28)))))))))))) := by
      unfold f11_rebase
      rw [e1, x2_inl, e2, x2_inl]
    rcases hR.shut hh hp with ⟨z1, z2, z3⟩ | ⟨z1, z2⟩
    · have z2' : f12_isShut S (nI p) (nI h) = some false := by
        rcases hR0.shut hh hp with ⟨-, z, -⟩ | ⟨z, -⟩
        · exact z
        · rw [z1] at z; cases z
      rw [z1, x2_inl] at eC
      rw [z2', o1_some, if_pos rfl, hR0.cnt.2.2.1] at eR
      obtain ⟨k, c, k1, k2, k3, k4, c1, c2, c3, c4, c5, c6, c7, c8⟩ := hR.cur hh
      obtain ⟨x, x1, x2, x3, x4⟩ := hR.base c1 c2
      obtain ⟨b, b1, b2, b3, b4, b5⟩ := hR.newBase hh z3 r0 f2
      unfold f9_currentOf f9_baseOf at eC
      rw [s9_read (L := 20) (show h < 20 by omega) rfl rfl (by omega), o1_some, o1_some, c3, s9_read (L := 82) (show c < 82 by omega) rfl rfl (by omega), o1_some, o1_some, x2, b2, o1_some] at eC
      by_cases cf : n = 80
      · subst cf
        rw [if_pos (show nI 80 = 80 from rfl), sh32] at eR
        refine bad C S hR0 ?_ eR
        rw [eC]
        by_cases cb : nI b = nI x
        · rw [if_pos cb]
        · rw [if_neg cb]
          unfold f11_needRoomForCommit f9_isFull
          rw [hR.cnt.2.1]; rfl
      · rw [if_neg (show ¬ nI n = 80 by rw [q_80, q_eq (by omega) (by omega)]; exact cf)] at eR
        have room : f11_needRoomForCommit gh C = some (.inl ()) := by
          unfold f11_needRoomForCommit f9_isFull
          rw [hR.cnt.2.1, q_80, if_neg (by rw [q_le (by omega) (by omega)]; omega)]; rfl
        rw [room, x2_inl] at eC
        -- the reference's second state
        have hR1 : Rn n gh C (rv_u S 66 0 0) := Rn_66 hR0
        generalize hT : rv_u S 66 0 0 = T at hR1
        have sT : ∀ q, q ≠ 66 → T q = R q := fun q hq => by rw [← hT, mu_ne hq, sS q hq]
        have t66 : T 66 0 = 0 := by rw [← hT, mu_same]
        have g1 : f12_goes S 0 = some (true, T) := by rw [← hT]; rfl
        obtain ⟨b', b1', b2', b3', b4', b5'⟩ := hR1.newBase hh (by rw [sT 13 (by omega)]; exact z3) r0 f2
        have hbb : b' = b := by
          rw [b2, Option.some.injEq, q_eq (by omega) (by omega)] at b2'
          exact b2'.symm
        subst hbb
        obtain ⟨k', c', -, -, -, -, -, c2', c3', -, -, -, -, c8'⟩ := hR1.cur hh
        have hcc : c' = c := by
          rw [c3, q_eq (by omega) (by omega)] at c3'
          exact c3'.symm
        subst hcc
        have t2 : T 2 c' = nI x := by rw [sT 2 (by omega)]; exact x3
        have eR2 : f12_rebase_37 S (nI p) (nI h) 0 = if ¬ nI b' = nI x then rv_o2 (f12_merges T (nI x) (nI c') (nI b')) (fun r11 M12 => (if r11 = false then f12_rebase_85 M12 (nI p) (nI h) (nI b') else f12_rebase_90 M12 (nI p) (nI h) (nI b') 0)) else f12_rebase_85 T (nI p) (nI h) (nI b') := by
          unfold f12_rebase_37
          rw [g1, o2_some, if_neg (by simp), b3', o1_some, c8', o1_some, if_pos (q_inb (show c' < 82 by omega) (by omega)), q_nc (by omega), t2, o1_some]
        rw [eR2] at eR
        by_cases cb : nI b' = nI x
        · rw [if_pos cb] at eC
          rw [if_neg (fun z => z cb), sh85] at eR
          exact bad C T hR1 eC eR
        · rw [if_neg cb] at eC
          rw [if_pos cb] at eR
          obtain ⟨ok, C', R', m1, m2, m3, m4, m5, m6⟩ := hR1.merge (show x < n by omega) c2 b1
          rw [m1, o2_some] at eC
          rw [m2, o2_some] at eR
          cases ok with
          | false =>
            rw [if_pos rfl] at eC
            rw [if_pos rfl, sh85] at eR
            exact bad C' R' m3 eC eR
          | true =>
            rw [if_neg (by simp)] at eC
            rw [if_neg (by simp)] at eR
            have hrow := m6 rfl
            have hR2 : Rn n gh C' (rv_u R' 66 0 0) := Rn_66 m3
            have g3 : f12_goes R' 0 = some (true, rv_u R' 66 0 0) := rfl
            generalize hU : rv_u R' 66 0 0 = U at hR2 g3
            have sU : ∀ q, q ≠ 66 → U q = R' q := fun q hq => by rw [← hU, mu_ne hq]
            have u66 : U 66 0 = 0 := by rw [← hU, mu_same]
            have f2' : C' (100 + h) 2 = nI r := by rw [m4.1 (100 + h) (by omega) (by omega) (by omega) (by omega) (by omega)]; exact f2
            have sR : ∀ q, q ≤ 52 → q ≠ 3 → q ≠ 4 → U q = R q := fun q q1 q3 q4 => by rw [sU q (by omega), m5.1 q q3 q4 (by omega), sT q (by omega)]
            have hrow' : rowOK 81 81 C' U := by
              unfold rowOK at hrow ⊢
              rw [sU 3 (by omega), sU 4 (by omega)]; exact hrow
            obtain ⟨kk, C2, R2, w1, w2, w3, w4⟩ := Rn_upl hR2 (by omega) (s := 81) (b := b') (r := r) (h := h) (p := p) (a3 := 81) (Rc := U) hh (by rw [sR 13 (by omega) (by omega) (by omega)]; exact z3) hp (by omega) (by omega) b1 r0 f2' (by rw [sR 1 (by omega) (by omega) (by omega)]; exact b4) copies_81 (fun _ _ _ => rfl) (fun _ _ => rfl) (fun _ _ => rfl) hrow' (fun e z => by
              have pe : parS n U = parS n R := by
                funext g
                unfold parS curS
                rw [sR 5 (by omega) (by omega) (by omega), sR 6 (by omega) (by omega) (by omega), sR 14 (by omega) (by omega) (by omega), sR 2 (by omega) (by omega) (by omega)]
              rw [pe, sR 5 (by omega) (by omega) (by omega)] at z
              exact b5 e z)
            left
            refine ⟨nI kk, C2, R2, ?_, ?_, by rw [w4]; exact u66, ⟨n + 1, w3⟩⟩
            · rw [eC, show (81 : Int32) = nI 81 from rfl, w1]; rfl
            · rw [eR]
              unfold f12_rebase_90
              rw [g3, o2_some, if_neg (by simp), w2]; rfl
    · rw [z1] at eC
      refine bad C S hR0 eC ?_
      have z2' : f12_isShut S (nI p) (nI h) = some true := by
        rcases hR0.shut hh hp with ⟨z, -, -⟩ | ⟨-, z⟩
        · rw [z1] at z; cases z
        · exact z
      rw [eR, z2', o1_some, if_neg (by simp), sh32]
  · right; left
    refine ⟨C, rv_u R 66 0 1, 0, ?_, ?_, mu_same _ _ _ _, ⟨n, Rn_66 hR⟩⟩
    · unfold f11_rebase
      rcases e1 with e1 | ⟨e1, e1'⟩
      · rw [e1]; rfl
      · rw [e1, x2_inl, e1']; rfl
    · unfold f12_rebase
      rw [e2]; rfl
