/-! upload, open -/
theorem Rn_upl {n : Nat} {gh : rC_gh} {C R Rc : rv_Mem} (hR : Rn n gh C R) (hn : n < 80) {s b r h p : Nat} {a3 : Int32} (hh : h < gh.1 0) (ho : R 13 h = nI 0) (hp : p < 6) (hs : 80 ≤ s) (hs2 : s < 82) (hb : b < n) (hr : r < 2) (f2 : C (100 + h) 2 = nI r) (hrb : R 1 b = nI r)
    (hcp : f12_copies R a3 81 = some Rc) (hRc : ∀ q, q ≠ 3 → q ≠ 4 → Rc q = R q) (h3 : ∀ i, i < 324 → Rc 3 i = R 3 i) (h4 : ∀ i, i < 3240 → Rc 4 i = R 4 i) (hrow : rowOK s 81 C Rc) (hno : ∀ e, pch (parS n R) (R 5 b) e ≠ nI h) :
    ∃ k C2 R2, f11_addSet gh C (nI p) (100 + h) (nI s) (nI b) = some (nI k, C2) ∧ f12_uploads R (nI p) (nI h) a3 (nI b) = some (nI k, R2) ∧ Rn (n + 1) gh C2 R2 ∧ R2 66 = R 66 := by
  have hc := hR.ch20
  obtain ⟨k, k1, k2, k3, k4, k5⟩ := hR.sets hh
  obtain ⟨a1, a2, ⟨r', r0, a3', a4, -⟩, ⟨s', s0, s1, s2⟩, a6, a7, a8, a10, d, d1, d2, d3⟩ := hR.chg h hh
  have hs' : s' = 0 := by
    rw [ho, q_eq (by omega) (by omega)] at s2; omega
  subst hs'
  have hrr : r' = r := by
    rw [f2, q_eq (by omega) (by omega)] at a3'; omega
  subst hrr
  obtain ⟨C2, R2, x1, x2, x3, x4⟩ := Rn_add (C0 := C) (R0 := R) (gh' := gh) (k := k) (d := d) hR hn hs hs2 hb hr hrb hp (fun _ _ _ => rfl) (fun _ _ => rfl) k3 (fun _ _ _ => rfl) (fun _ _ _ _ => rfl) k4 hR.cnt.2.2.2.2.1 hR.h64 hcp hRc h3 h4 hrow (Or.inl ⟨hh, rfl, k2, k4⟩) rfl rfl (fun _ => rfl) hR.ok a1 a2 f2 ⟨s1, s2⟩ a6 a7 a8 a10
    ⟨d1, d3 (by rw [ho, Ne, q_eq (by omega) (by omega)]; omega)⟩ a4 (hR.rev h hh) (fun _ => by rw [ho, Ne, q_eq (by omega) (by omega)]; omega) (fun _ => d2) hno
  exact ⟨k, C2, R2, x1, x2, x3, x4⟩
theorem row80 {n : Nat} {gh : rC_gh} {C R : rv_Mem} (hR : Rn n gh C R) {M : rv_Mem} (hM3 : M 3 = R 3) (hM4 : M 4 = R 4) : ∃ Rc, f12_copies M 80 81 = some Rc ∧ (∀ q, q ≠ 3 → q ≠ 4 → Rc q = M q) ∧ (∀ i, i < 324 → Rc 3 i = R 3 i) ∧ (∀ i, i < 3240 → Rc 4 i = R 4 i) ∧ rowOK 80 81 C Rc := by
  obtain ⟨Rc, c1, c2, c3, c4, c5⟩ := s12_copies (M := M) (a := 80) (b := 81) (by omega) (by omega) (by omega)
  refine ⟨Rc, c1, fun q q3 q4 => c2 q q4 q3, fun i hi => by rw [c4 i (by omega), hM3], fun i hi => by rw [c3 i (by omega), hM4], fun f hf => ?_⟩
  obtain ⟨z, z1, z2, z3, z4⟩ := hR.fil 80 (Or.inr rfl) f hf
  have z3' : M 3 (4 * 80 + f) = nI z := by rw [hM3]; exact z3
  refine ⟨z, z1, z2, by rw [(c5 f hf).1]; exact z3', fun p hp => ?_⟩
  obtain ⟨v, v1, v2, v3⟩ := z4 p hp
  exact ⟨v, v1, v2, by rw [(c5 f hf).2 p z z3' z1 hp, hM4]; exact v3⟩
theorem h_upload : ∀ gh MC MR, Rel gh MC MR → ∀ p1 p2, rS_upload Rel gh MC MR p1 p2 := fun gh C R h p1 p2 => by
  obtain ⟨n, hR⟩ := h
  have hc := hR.ch20
  have hn80 := hR.n80
  rcases hR.dwrong p1 p2 with ⟨p, h, hp, hh, rfl, rfl, e1, e2, e3⟩ | ⟨e1, e2⟩
  · obtain ⟨b, b1, b2, b3⟩ := hR.bas.2.2.2
    obtain ⟨r, r0, r1, r2⟩ := (hR.bas.1 b b1).1
    obtain ⟨-, -, ⟨r', r0', a3, -⟩, -⟩ := hR.chg h hh
    have hval : C 19 b = R 5 b ∧ (R 5 b = NO ∨ ∃ g, g < gh.1 0 ∧ R 5 b = nI g) := by
      rcases hR.own b b1 with ⟨z1, z⟩ | ⟨g, s', p', o1, -, o2, o3, -⟩
      · exact ⟨by rw [z1, z], Or.inl z⟩
      · exact ⟨by rw [o2, o3], Or.inr ⟨g, o1, o3⟩⟩
    have hR0 : Rn n gh C (rv_u R 66 0 0) := Rn_66 hR
    generalize hS : rv_u R 66 0 0 = S at hR0
    have sS : ∀ q, q ≠ 66 → S q = R q := fun q hq => by rw [← hS, mu_ne hq]
    have s66 : S 66 0 = 0 := by rw [← hS, mu_same]
    obtain ⟨w, w1, w2, w3⟩ := hR0.above hh (x := R 5 b) hval.2
    -- the answers
    have bad : f11_upload gh C (nI p) (nI h) = some (.inr (3, C)) → f12_upload R (nI p) (nI h) = f12_upload_79 S (nI p) (nI h) → rS_upload Rel gh C R (nI p) (nI h) := fun y1 y2 => by
      right; right
      refine ⟨C, rv_u S 66 0 2, 0, y1, ?_, mu_same _ _ _ _, ⟨n, Rn_66 hR0⟩⟩
      rw [y2]; rfl
    have eR : f12_upload R (nI p) (nI h) = if nI r = nI r' then (if w = true then f12_upload_50 S (nI p) (nI h) else f12_upload_55 S (nI p) (nI h) false) else f12_upload_50 S (nI p) (nI h) := by
      have hrp : f12_repoOf S (nI h) = some (nI r') := hR0.repoM (fun _ _ => rfl) hh a3 r0'
      have g1 : f12_goes R (nI 0) = some (true, S) := by rw [← hS]; rfl
      have s2 : S 2 (80 : Int32).toNatClampNeg = nI b := by rw [sS 2 (by omega)]; exact b3
      have i80 : rv_in (80 : Int32) 82 = true := rfl
      have ib : rv_in (nI b) 82 = true := q_inb (by omega) (by omega)
      have nb : (nI b).toNatClampNeg = b := q_nc (by omega)
      have s1 : S 1 b = nI r := by rw [sS 1 (by omega)]; exact r2
      have ab : f12_isAbove S (nI h) (nI b) = some w := by
        unfold f12_isAbove
        rw [if_pos ib, nb, sS 5 (by omega)]; exact w2
      unfold f12_upload
      rw [e3, o1_some, g1, o2_some, if_neg (by simp), if_pos i80, s2, if_pos ib, hrp, o1_some, nb, s1, if_pos i80, ab, o1_some]
    have sh : f12_upload_50 S (nI p) (nI h) = f12_upload_79 S (nI p) (nI h) := by
      unfold f12_upload_50 f12_upload_55
      rcases hR0.shut hh hp with ⟨-, z, -⟩ | ⟨-, z⟩
      · rw [z, o1_some, if_pos rfl, if_neg (by simp)]
      · rw [z, o1_some, if_neg (by simp)]
    rw [sh] at eR
    have eC : f11_upload gh C (nI p) (nI h) = rv_x2 (f11_needOpenAndSeen gh C (nI p) (100 + h)) C (fun _ => if ¬ nI r = nI r' then (some (.inr (3, C))) else (if w = true then (some (.inr (3, C))) else rv_x2 (f11_needRoomForCommit gh C) C (fun r23 => rv_o2 (f11_addSet gh C (nI p) (100 + h) 80 (nI b)) (fun r27 M28 => (some (.inl (r27, M28))))))) := by
      unfold f11_upload f9_baseOf f9_repositoryOf f9_changeOf
      rw [e1, x2_inl, e2, x2_inl, show (80 : Int32) = nI 80 from rfl, s9_read (L := 82) (show 80 < 82 by omega) rfl rfl (by omega), o1_some, o1_some, b2, s9_read (L := 82) (show b < 82 by omega) rfl rfl (by omega), o1_some, o1_some, r1, if_pos (is1 hh hc), a3, s9_read (L := 82) (show b < 82 by omega) rfl rfl (by omega), o1_some, o1_some, hval.1, w1, o1_some]
    rcases hR.shut hh hp with ⟨z1, z2, z3⟩ | ⟨z1, z2⟩
    · rw [z1, x2_inl] at eC
      by_cases c1 : r = r'
      · subst c1
        rw [if_neg (fun z => z rfl)] at eC
        rw [if_pos rfl] at eR
        cases w with
        | true =>
          rw [if_pos rfl] at eC eR
          exact bad eC eR
        | false =>
          rw [if_neg (by simp)] at eC eR
          have f55 : f12_upload_55 S (nI p) (nI h) false = if nI n = 80 then f12_upload_79 S (nI p) (nI h) else f12_upload_84 S (nI p) (nI h) 0 := by
            unfold f12_upload_55
            rcases hR0.shut hh hp with ⟨-, z, -⟩ | ⟨z, -⟩
            · rw [z, o1_some, if_pos rfl, if_pos rfl, hR0.cnt.2.2.1]
            · rw [z1] at z; cases z
          rw [f55] at eR
          by_cases c2 : n = 80
          · subst c2
            rw [if_pos (show nI 80 = 80 from rfl)] at eR
            refine bad ?_ eR
            rw [eC]
            unfold f11_needRoomForCommit f9_isFull
            rw [hR.cnt.2.1]; rfl
          · have n80' : ¬ nI n = 80 := by rw [q_80, q_eq (by omega) (by omega)]; exact c2
            rw [if_neg n80'] at eR
            have room : f11_needRoomForCommit gh C = some (.inl ()) := by
              unfold f11_needRoomForCommit f9_isFull
              rw [hR.cnt.2.1, q_80, if_neg (by rw [q_le (by omega) (by omega)]; omega)]; rfl
            rw [room, x2_inl] at eC
            obtain ⟨Rc, y1, y2, y3, y4, y5⟩ := row80 hR0 (M := rv_u S 66 0 0) (mu_ne (by omega)) (mu_ne (by omega))
            have hR1 : Rn n gh C (rv_u S 66 0 0) := Rn_66 hR0
            obtain ⟨k, C2, R2, x1, x2, x3, x4⟩ := Rn_upl hR1 (by omega) (s := 80) (b := b) (r := r) (h := h) (p := p) hh (by rw [mu_ne (by omega), sS 13 (by omega)]; exact z3) hp (by omega) (by omega) b1 r0 a3 (by rw [mu_ne (by omega), sS 1 (by omega)]; exact r2) y1 y2 (fun i hi => by rw [y3 i hi, mu_ne (by omega)]) (fun i hi => by rw [y4 i hi, mu_ne (by omega)]) y5 (fun e z => by
              have pe : parS n (rv_u S 66 0 0) = parS n S := by
                funext g
                unfold parS curS
                rw [mu_ne (by omega), mu_ne (by omega), mu_ne (by omega), mu_ne (by omega)]
              rw [pe, mu_ne (by omega), sS 5 (by omega)] at z
              have := w3.mpr ⟨e, z⟩
              cases this)
            left
            refine ⟨nI k, C2, R2, ?_, ?_, by rw [x4, mu_same], ⟨n + 1, x3⟩⟩
            · rw [eC, show (80 : Int32) = nI 80 from rfl, x1]; rfl
            · rw [eR]
              unfold f12_upload_84
              have g1 : f12_goes S 0 = some (true, rv_u S 66 0 0) := rfl
              have s2 : (rv_u S 66 0 0) 2 (80 : Int32).toNatClampNeg = nI b := by rw [mu_ne (by omega), sS 2 (by omega)]; exact b3
              rw [g1, o2_some, if_neg (by simp), if_pos (show rv_in (80 : Int32) 82 = true from rfl), s2, x2]; rfl
      · have hrr : ¬ nI r = nI r' := by rw [q_eq (by omega) (by omega)]; exact c1
        rw [if_pos hrr] at eC
        rw [if_neg hrr] at eR
        exact bad eC eR
    · rw [z1] at eC
      refine bad eC ?_
      rw [eR]
      have f55 : f12_upload_55 S (nI p) (nI h) false = f12_upload_79 S (nI p) (nI h) := by
        unfold f12_upload_55
        rcases hR0.shut hh hp with ⟨z, -, -⟩ | ⟨-, z⟩
        · rw [z1] at z; cases z
        · rw [z, o1_some, if_neg (by simp)]
      rw [f55]
      by_cases c1 : nI r = nI r'
      · rw [if_pos c1]
        cases w with
        | true => rw [if_pos rfl]
        | false => rw [if_neg (by simp)]
      · rw [if_neg c1]
  · right; left
    refine ⟨C, rv_u R 66 0 1, 0, ?_, ?_, mu_same _ _ _ _, ⟨n, Rn_66 hR⟩⟩
    · unfold f11_upload
      rcases e1 with e1 | ⟨e1, e1'⟩
      · rw [e1]; rfl
      · rw [e1, x2_inl, e1']; rfl
    · unfold f12_upload
      rw [e2]; rfl
