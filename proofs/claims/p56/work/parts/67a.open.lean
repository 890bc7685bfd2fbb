theorem ok_0 {gh : rC_gh} (h : rC_ok gh = true) : rC_ok (rC_gi gh 0 0) = true := by
  unfold rC_ok at h ⊢
  refine List.all_eq_true.mpr (fun j hj => ?_)
  have hj : j < gh.1 1 := List.mem_range.mp hj
  have := List.all_eq_true.mp h j (List.mem_range.mpr hj)
  exact is8_up (by omega) this
theorem h_open : ∀ gh MC MR, Rel gh MC MR → ∀ p1, rS_open Rel gh MC MR p1 := fun gh C R h p1 => by
  obtain ⟨n, hR⟩ := h
  have hc := hR.ch20
  have hn80 := hR.n80
  have h0 := hR.cnt.2.2.1
  have h11 := hR.cnt.2.2.2.2.1
  have h10 := hR.cnt.2.1
  rcases d_person gh C p1 with ⟨p, hp, rfl, e1, e2⟩ | ⟨e1, e2⟩
  · have bad : f11_open gh C (nI p) = some (.inr 3) → f12_open R (nI p) = f12_open_35 R (nI p) 2 → rS_open Rel gh C R (nI p) := fun y1 y2 => by
      right; right
      refine ⟨rv_u R 66 0 2, 0, y1, ?_, mu_same _ _ _ _, ⟨n, Rn_66 hR⟩⟩
      rw [y2]; rfl
    have eC : f11_open gh C (nI p) = (if gh.1 0 < 20 then rv_o1 (f9_isFull gh C) (fun r6 => (if r6 = true then (some (.inr 3)) else rv_o1 (f9_baseOf gh C 80) (fun r8 => f11_open_46 gh C (nI p) r8))) else (some (.inr 3))) := by
      unfold f11_open
      rw [e1, x1_inl]
      by_cases c : gh.1 0 < 20
      · rw [if_pos c, if_pos (by rw [q_20, q_lt (by omega) (by omega)]; exact c)]
      · rw [if_neg c, if_neg (by rw [q_20, q_lt (by omega) (by omega)]; exact c)]
    have eR : f12_open R (nI p) = (if gh.1 0 = 20 then f12_open_35 R (nI p) 2 else if n = 80 then f12_open_35 R (nI p) 2 else f12_open_35 R (nI p) 0) := by
      unfold f12_open f12_open_30
      rw [e2, o1_some, if_neg (by simp), h11, h0]
      by_cases c : gh.1 0 = 20
      · rw [if_pos c, if_neg (fun z => z (by rw [c]; rfl))]
      · rw [if_neg c, if_pos (by rw [q_20, q_eq (by omega) (by omega)]; exact c)]
        by_cases c2 : n = 80
        · rw [if_pos c2, if_pos (by rw [c2]; rfl)]
        · rw [if_neg c2, if_neg (by rw [q_80, q_eq (by omega) (by omega)]; exact c2)]
    by_cases c1 : gh.1 0 = 20
    · rw [if_neg (by omega)] at eC
      rw [if_pos c1] at eR
      exact bad eC eR
    · rw [if_pos (by omega)] at eC
      rw [if_neg c1] at eR
      by_cases c2 : n = 80
      · rw [if_pos c2] at eR
        refine bad ?_ eR
        rw [eC]
        unfold f9_isFull
        rw [h10, c2]; rfl
      · rw [if_neg c2] at eR
        have full : f9_isFull gh C = some false := by
          unfold f9_isFull
          rw [h10, q_80, if_neg (by rw [q_le (by omega) (by omega)]; omega)]
        rw [full, o1_some, if_neg (by simp)] at eC
        obtain ⟨b, b1, b2, b3⟩ := hR.bas.2.2.2
        obtain ⟨r, r0, r1, r2⟩ := (hR.bas.1 b b1).1
        have hgh : (rC_gi gh 0 0).1 0 = gh.1 0 + 1 := rfl
        generalize hch : gh.1 0 = ch at *
        -- the class
        generalize hC0 : rM_nC gh C (nI p) (nI ch) (nI r) = C0
        have eC2 : f11_open gh C (nI p) = rv_o2 (f11_addSet (rC_gi gh 0 0) C0 (nI p) (100 + ch) (nI 80) (nI b)) (fun _ M3 => some (.inl (M3 (100 + ch) 0, rC_gi gh 0 0, M3))) := by
          rw [eC]
          unfold f9_baseOf f11_open_46 f9_repositoryOf
          rw [show (80 : Int32) = nI 80 from rfl, s9_read (L := 82) (show 80 < 82 by omega) rfl rfl (by omega), o1_some, o1_some, b2, hR.ok, hch, if_pos (by simp; omega), s9_read (L := 82) (show b < 82 by omega) rfl rfl (by omega), o1_some, o1_some, r1, hC0]
        have cf : ∀ j, C0 (100 + ch) j = rv_fs [nI ch, nI p, nI r, 0, 0, 0, 0, 0, -1, 0, 0, 0, -1] j := fun j => by
          rw [← hC0]
          unfold rM_nC
          rw [mw_ne (by omega), hch, mw_same]
        have cO : ∀ q, q ≠ 100 + ch → q ≠ 120 + ch → C0 q = C q := fun q q1 q2 => by
          rw [← hC0]
          unfold rM_nC
          rw [hch, mw_ne q2, mw_ne q1]
        -- the reference
        generalize hS : rv_u (rv_u (rv_u (rv_u (rv_u (rv_u R 66 0 0) 12 ch (nI p)) 13 ch 0) 14 ch 0) 17 ch NO) 11 0 (nI (ch + 1)) = S
        have sO : ∀ q, q ≠ 66 → ¬ (q = 11 ∨ q = 12 ∨ q = 13 ∨ q = 14 ∨ q = 17) → S q = R q := fun q q1 q2 => by
          rw [← hS, mu_ne (by omega), mu_ne (by omega), mu_ne (by omega), mu_ne (by omega), mu_ne (by omega), mu_ne (by omega)]
        have s12 : S 12 = rv_u (rv_u R 66 0 0) 12 ch (nI p) 12 := by
          rw [← hS, mu_ne (by omega), mu_ne (by omega), mu_ne (by omega), mu_ne (by omega)]
        have s13 : S 13 = rv_u (rv_u (rv_u R 66 0 0) 12 ch (nI p)) 13 ch 0 13 := by
          rw [← hS, mu_ne (by omega), mu_ne (by omega), mu_ne (by omega)]
        have s14 : S 14 = rv_u (rv_u (rv_u (rv_u R 66 0 0) 12 ch (nI p)) 13 ch 0) 14 ch 0 14 := by
          rw [← hS, mu_ne (by omega), mu_ne (by omega)]
        have s17 : S 17 = rv_u (rv_u (rv_u (rv_u (rv_u R 66 0 0) 12 ch (nI p)) 13 ch 0) 14 ch 0) 17 ch NO 17 := by
          rw [← hS, mu_ne (by omega)]
        have s11 : S 11 0 = nI (ch + 1) := by rw [← hS, mu_same]
        have s66 : S 66 0 = 0 := by rw [← hS, mu_ne (by omega), mu_ne (by omega), mu_ne (by omega), mu_ne (by omega), mu_ne (by omega), mu_same]
        have eR2 : f12_open R (nI p) = rv_o2 (f12_uploads S (nI p) (nI ch) 80 (nI b)) (fun r10 M11 => (some (((M11 11 0) - 1), M11))) := by
          rw [eR]
          unfold f12_open_35
          have g1 : f12_goes R 0 = some (true, rv_u R 66 0 0) := rfl
          have x11 : ∀ M : rv_Mem, M 11 = R 11 → rv_in (M 11 0) 20 = true ∧ (M 11 0).toNatClampNeg = ch := fun M hM => by
            rw [hM, h11]; exact ⟨q_inb (by omega) (by omega), q_nc (by omega)⟩
          have y0 := x11 (rv_u R 66 0 0) (mu_ne (by omega))
          have y1 := x11 (rv_u (rv_u R 66 0 0) 12 ch (nI p)) (by rw [mu_ne (by omega), mu_ne (by omega)])
          have y2 := x11 (rv_u (rv_u (rv_u R 66 0 0) 12 ch (nI p)) 13 ch 0) (by rw [mu_ne (by omega), mu_ne (by omega), mu_ne (by omega)])
          have y3 := x11 (rv_u (rv_u (rv_u (rv_u R 66 0 0) 12 ch (nI p)) 13 ch 0) 14 ch 0) (by rw [mu_ne (by omega), mu_ne (by omega), mu_ne (by omega), mu_ne (by omega)])
          have y4 : (rv_u (rv_u (rv_u (rv_u (rv_u R 66 0 0) 12 ch (nI p)) 13 ch 0) 14 ch 0) 17 ch NO) 11 0 + 1 = nI (ch + 1) := by
            rw [mu_ne (by omega), mu_ne (by omega), mu_ne (by omega), mu_ne (by omega), mu_ne (by omega), h11, q_succ]
          have s2 : S 2 (80 : Int32).toNatClampNeg = nI b := by rw [sO 2 (by omega) (by omega)]; exact b3
          have c1 : nI (ch + 1) - 1 = nI ch := by rw [q_1, q_sub (by omega), Nat.add_sub_cancel]
          rw [g1, o2_some, if_neg (by simp), if_pos y0.1, y0.2, lt_do, if_pos y1.1, y1.2, lt_do, if_pos y2.1, y2.2, lt_do, if_pos y3.1, y3.2, lt_do, q_no, y4, lt_do, hS, if_pos (show rv_in (80 : Int32) 82 = true from rfl), s11, c1, s2]
        obtain ⟨Rc, y1, y2, y3, y4, y5⟩ := row80 hR (M := S) (sO 3 (by omega) (by omega)) (sO 4 (by omega) (by omega))
        have own5 : ∀ c, c < n → R 5 c ≠ nI ch := fun c hc z => by
          rcases hR.own c hc with ⟨-, z1⟩ | ⟨g, s', p', o1, -, -, o3, -⟩
          · rw [z1, q_no_eq' (by omega)] at z; exact z
          · rw [o3, q_eq (by omega) (by omega)] at z; omega
        have hrowC : rowOK 80 81 C0 Rc := by
          unfold rowOK at y5 ⊢
          rw [cO 15 (by omega) (by omega), cO 14 (by omega) (by omega)]; exact y5
        have key := Rn_add (gh' := rC_gi gh 0 0) (C0 := C0) (R0 := S) (Rc := Rc) (s := 80) (b := b) (r := r) (h := ch) (k := 0) (p := p) (d := 0) (a3 := nI 80) hR (by omega) (by omega) (by omega) b1 r0 r2 hp cO (fun j hj => absurd hj (Nat.not_lt_zero _)) (by rw [cf]; rfl)
          (fun q hq hq2 => sO q (by omega) hq2) (fun q x hq hx => ?_) (by rw [s14, mu_same]; rfl) (by rw [s11, hgh]) (by rw [sO 64 (by omega) (by omega)]; exact hR.h64) y1 y2 y3 y4 hrowC (Or.inr ⟨hch.symm, by rw [hgh, hch], rfl, by omega⟩) rfl rfl (fun j => by rw [rC_gi2, if_neg (by omega)]) (ok_0 hR.ok)
          (by rw [cf]; rfl) ⟨p, hp, by rw [cf]; rfl, by rw [s12, mu_same]⟩ (by rw [cf]; rfl) ⟨by rw [cf]; rfl, by rw [s13, mu_same]; rfl⟩ ?_ ?_ ⟨by rw [cf, s17, mu_same]; rfl, Or.inl (by rw [s17, mu_same])⟩ ?_ ⟨Nat.zero_le _, by rw [cf]; rfl⟩ (fun c hc z => absurd z (own5 c hc)) (fun i hi => ?_) (fun z => by omega) (fun z => by omega) (fun e => ?_)
        · obtain ⟨C2, R2, x1, x2, x3, x4⟩ := key
          left
          refine ⟨nI ch, rC_gi gh 0 0, C2, R2, ?_, ?_, by rw [x4]; exact s66, ⟨n + 1, x3⟩⟩
          · rw [eC2, x1, o2_some, (x3.chg ch (by rw [hgh]; omega)).1]
          · have : R2 11 0 = nI (ch + 1) := by rw [x3.cnt.2.2.2.2.1, hgh]
            rw [eR2, show (80 : Int32) = nI 80 from rfl, x2, o2_some, this, q_1, q_sub (by omega), Nat.add_sub_cancel]
        · rcases hq with rfl | rfl | rfl | rfl
          · rw [s12, mu_ne2 hx, mu_ne (by omega)]
          · rw [s13, mu_ne2 hx, mu_ne (by omega), mu_ne (by omega)]
          · rw [s14, mu_ne2 hx, mu_ne (by omega), mu_ne (by omega), mu_ne (by omega)]
          · rw [s17, mu_ne2 hx, mu_ne (by omega), mu_ne (by omega), mu_ne (by omega), mu_ne (by omega)]
        · rw [cf, sO 15 (by omega) (by omega), (hR.nw ch (by omega) (by omega)).1]; rfl
        · rw [cf, sO 16 (by omega) (by omega), (hR.nw ch (by omega) (by omega)).2.1]; rfl
        · rw [cf, sO 20 (by omega) (by omega), (hR.nw ch (by omega) (by omega)).2.2.2]; rfl
        · have z1 : (List.range (gh.1 1)).any (fun k => decide (R 26 k = nI ch) && !rv_z (R 32 k) && decide (R 25 k = nI i)) = false := by
            rw [List.any_eq_false]
            intro k hk
            obtain ⟨-, -, -, -, -, g, s', f, a, k', d1, -, -, -, -, d6, -⟩ := hR.cmt k (List.mem_range.mp hk)
            have : decide (R 26 k = nI ch) = false := decide_eq_false (by rw [d6, q_eq (by omega) (by omega)]; omega)
            rw [this]; simp
          have z2 : (List.range n).any (fun c => decide (R 5 c = nI ch) && decide (i < 6) && (decide (R 22 (12 * c + 2 * i) ≠ 0) || decide (R 22 (12 * c + 2 * i + 1) ≠ 0))) = false := by
            rw [List.any_eq_false]
            intro c hc
            rw [decide_eq_false (own5 c (List.mem_range.mp hc))]; simp
          unfold revB
          rw [z1, z2, (hR.nw ch (by omega) (by omega)).2.2.1, b_0, cf]
          simp [rv_fs, b_0]
        · have hval : R 5 b = NO ∨ ∃ g, g < gh.1 0 ∧ R 5 b = nI g := by
            rcases hR.own b b1 with ⟨-, z⟩ | ⟨g, s', p', o1, -, -, o3, -⟩
            · exact Or.inl z
            · exact Or.inr ⟨g, o1, o3⟩
          have hf : ∀ g, g < gh.1 0 → parS n R g = NO ∨ ∃ g', g' < gh.1 0 ∧ parS n R g = nI g' := fun g hg => by
            obtain ⟨y, -, -, y3, y4⟩ := hR.parent hg
            rw [y3]; exact y4
          rcases (pch_cong (f' := parS n R) hval (by omega) hf (fun _ _ => rfl) e).2 with z | ⟨g, z1, z2⟩
          · rw [z, Ne, q_no_eq' (by omega)]; simp
          · rw [z2, Ne, q_eq (by omega) (by omega)]; omega
  · right; left
    refine ⟨rv_u R 66 0 1, 0, ?_, ?_, mu_same _ _ _ _, ⟨n, Rn_66 hR⟩⟩
    · unfold f11_open
      rw [e1]; rfl
    · unfold f12_open
      rw [e2]; rfl
