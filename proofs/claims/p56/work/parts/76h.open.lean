/-! OPENING -/
section
variable {n n' : Nat} {gh gh' : rC_gh} {C C' R R' M M' A A' : rv_Mem}
theorem t_open0 (hR : Rn n gh C R) {p : Nat} (hp : p < 6) (c1 : gh.1 0 < 20) (c2 : n < 80) : ∃ (C2 R2 S : rv_Mem), f11_open gh C (nI p) = some (.inl (nI (gh.1 0), rC_gi gh 0 0, C2)) ∧ Rn (n + 1) (rC_gi gh 0 0) C2 R2 ∧ (∀ q, q ≠ 66 → ¬ (q = 11 ∨ q = 12 ∨ q = 13 ∨ q = 14 ∨ q = 17) → S q = R q) ∧ (∀ q x, (q = 12 ∨ q = 13 ∨ q = 14 ∨ q = 17) → x ≠ gh.1 0 → S q x = R q x) ∧ S 12 (gh.1 0) = nI p ∧ S 13 (gh.1 0) = 0 ∧ S 17 (gh.1 0) = NO ∧ (∃ b, b < n ∧ R 2 80 = nI b ∧ R2 2 n = nI b ∧ ∀ x, x ≠ n → R2 2 x = S 2 x) ∧ xF n (gh.1 0) 0 p S R2 := by
  have hc := hR.ch20
  have hn80 := hR.n80
  have h0 := hR.cnt.2.2.1
  have h11 := hR.cnt.2.2.2.2.1
  have h10 := hR.cnt.2.1
  have eC : f11_open gh C (nI p) = rv_o1 (f9_baseOf gh C 80) (fun r8 => f11_open_46 gh C (nI p) r8) := by
    unfold f11_open f9_isFull
    rw [ok_person hp, x1_inl, if_pos (by rw [q_20, q_lt (by omega) (by omega)]; exact c1), h10, q_80, if_neg (by rw [q_le (by omega) (by omega)]; omega), o1_some, if_neg (by simp)]
  obtain ⟨b, b1, b2, b3⟩ := hR.bas.2.2.2
  obtain ⟨r, r0, r1, r2⟩ := (hR.bas.1 b b1).1
  have hgh : (rC_gi gh 0 0).1 0 = gh.1 0 + 1 := rfl
  generalize hch : gh.1 0 = ch at *
  -- the class
  generalize hC0 : rM_nC gh C (nI p) (nI ch) (nI r) = C0
  have eC2 : f11_open gh C (nI p) = rv_o2 (f11_addSet (rC_gi gh 0 0) C0 (nI p) (100 + ch) (nI 80) (nI b)) (fun _ M3 => some (.inl (M3 (100 + ch) 0, rC_gi gh 0 0, M3))) := by
    rw [eC]
    unfold f9_baseOf f11_open_46 f9_repositoryOf
    rw [show (80 : Int32) = nI 80 from rfl, s9_read (L := 82) (show 80 < 82 by omega) rfl rfl (by omega), o1_some, o1_some, b2, hR.ok, hch, if_pos (by simp; omega), s9_read (L := 82) (show b < 82 by omega) rfl rfl (by omega), o1_some, o1_some, r1, hC0]
  have cf : ∀ j, C0 (100 + ch) j = rv_fs [nI ch, nI p, nI r, 0, 0, 0, 0, 0, -1, 0, 0, 0, -1] j := fun j => by
    rw [← hC0]
    unfold rM_nC
    rw [mw_ne (by omega), hch, mw_same]
  have cO : ∀ q, q ≠ 100 + ch → q ≠ 120 + ch → C0 q = C q := fun q q1 q2 => by
    rw [← hC0]
    unfold rM_nC
    rw [hch, mw_ne q2, mw_ne q1]
  -- the reference
  generalize hS : rv_u (rv_u (rv_u (rv_u (rv_u (rv_u R 66 0 0) 12 ch (nI p)) 13 ch 0) 14 ch 0) 17 ch NO) 11 0 (nI (ch + 1)) = S
  have sO : ∀ q, q ≠ 66 → ¬ (q = 11 ∨ q = 12 ∨ q = 13 ∨ q = 14 ∨ q = 17) → S q = R q := fun q q1 q2 => by
    rw [← hS, mu_ne (by omega), mu_ne (by omega), mu_ne (by omega), mu_ne (by omega), mu_ne (by omega), mu_ne (by omega)]
  have s12 : S 12 = rv_u (rv_u R 66 0 0) 12 ch (nI p) 12 := by
    rw [← hS, mu_ne (by omega), mu_ne (by omega), mu_ne (by omega), mu_ne (by omega)]
  have s13 : S 13 = rv_u (rv_u (rv_u R 66 0 0) 12 ch (nI p)) 13 ch 0 13 := by
    rw [← hS, mu_ne (by omega), mu_ne (by omega), mu_ne (by omega)]
  have s14 : S 14 = rv_u (rv_u (rv_u (rv_u R 66 0 0) 12 ch (nI p)) 13 ch 0) 14 ch 0 14 := by
    rw [← hS, mu_ne (by omega), mu_ne (by omega)]
  have s17 : S 17 = rv_u (rv_u (rv_u (rv_u (rv_u R 66 0 0) 12 ch (nI p)) 13 ch 0) 14 ch 0) 17 ch NO 17 := by
    rw [← hS, mu_ne (by omega)]
  have s11 : S 11 0 = nI (ch + 1) := by rw [← hS, mu_same]
  have s66 : S 66 0 = 0 := by rw [← hS, mu_ne (by omega), mu_ne (by omega), mu_ne (by omega), mu_ne (by omega), mu_ne (by omega), mu_same]
  obtain ⟨Rc, y1, y2, y3, y4, y5⟩ := row80 hR (M := S) (sO 3 (by omega) (by omega)) (sO 4 (by omega) (by omega))
  have own5 : ∀ c, c < n → R 5 c ≠ nI ch := fun c hc z => by
    rcases hR.own c hc with ⟨-, z1⟩ | ⟨g, s', p', o1, -, -, o3, -⟩
    · rw [z1, q_no_eq' (by omega)] at z; exact z
    · rw [o3, q_eq (by omega) (by omega)] at z; omega
  have hrowC : rowOK 80 81 C0 Rc := by
    unfold rowOK at y5 ⊢
    rw [cO 15 (by omega) (by omega), cO 14 (by omega) (by omega)]; exact y5
  have key := Rn_addX (gh' := rC_gi gh 0 0) (C0 := C0) (R0 := S) (Rc := Rc) (s := 80) (b := b) (r := r) (h := ch) (k := 0) (p := p) (d := 0) (a3 := nI 80) hR (by omega) (by omega) (by omega) b1 r0 r2 hp cO (fun j hj => absurd hj (Nat.not_lt_zero _)) (by rw [cf]; rfl)
    (fun q hq hq2 => sO q (by omega) hq2) (fun q x hq hx => ?_) (by rw [s14, mu_same]; rfl) (by rw [s11, hgh]) (by rw [sO 64 (by omega) (by omega)]; exact hR.h64) y1 y2 y3 y4 hrowC (Or.inr ⟨hch.symm, by rw [hgh, hch], rfl, by omega⟩) rfl rfl (fun j => by rw [rC_gi2, if_neg (by omega)]) (ok_0 hR.ok)
    (by rw [cf]; rfl) ⟨p, hp, by rw [cf]; rfl, by rw [s12, mu_same]⟩ (by rw [cf]; rfl) ⟨by rw [cf]; rfl, by rw [s13, mu_same]; rfl⟩ ?_ ?_ ⟨by rw [cf, s17, mu_same]; rfl, Or.inl (by rw [s17, mu_same])⟩ ?_ ⟨Nat.zero_le _, by rw [cf]; rfl⟩ (fun c hc z => absurd z (own5 c hc)) (fun i hi => ?_) (fun z => by omega) (fun z => by omega) (fun e => ?_)
  · obtain ⟨C2, R2, C3, T, E1, Rm, x1, x2, x3, x4, x5, x6, x7, x8, x9⟩ := key
    have F2 := X_two x5 x6 x7 x8 x9 y2 (by rw [sO 0 (by omega) (by omega)]; exact h0) (by omega) (by rw [hgh]; omega) hp
    have F := X_facts x5 x3 x6 x7 x8 x9 y2 (by rw [sO 0 (by omega) (by omega)]; exact h0) (by omega) (by rw [hgh]; omega) hp
    refine ⟨C2, R2, S, ?_, x3, sO, fun q x hq hx => ?_, by rw [s12, mu_same], by rw [s13, mu_same], by rw [s17, mu_same], ⟨b, b1, b3, F2⟩, F⟩
    · rw [eC2, x1, o2_some, (x3.chg ch (by rw [hgh]; omega)).1]
    · rcases hq with rfl | rfl | rfl | rfl
      · rw [s12, mu_ne2 hx, mu_ne (by omega)]
      · rw [s13, mu_ne2 hx, mu_ne (by omega), mu_ne (by omega)]
      · rw [s14, mu_ne2 hx, mu_ne (by omega), mu_ne (by omega), mu_ne (by omega)]
      · rw [s17, mu_ne2 hx, mu_ne (by omega), mu_ne (by omega), mu_ne (by omega), mu_ne (by omega)]
  · rcases hq with rfl | rfl | rfl | rfl
    · rw [s12, mu_ne2 hx, mu_ne (by omega)]
    · rw [s13, mu_ne2 hx, mu_ne (by omega), mu_ne (by omega)]
    · rw [s14, mu_ne2 hx, mu_ne (by omega), mu_ne (by omega), mu_ne (by omega)]
    · rw [s17, mu_ne2 hx, mu_ne (by omega), mu_ne (by omega), mu_ne (by omega), mu_ne (by omega)]
  · rw [cf, sO 15 (by omega) (by omega), (hR.nw ch (by omega) (by omega)).1]; rfl
  · rw [cf, sO 16 (by omega) (by omega), (hR.nw ch (by omega) (by omega)).2.1]; rfl
  · rw [cf, sO 20 (by omega) (by omega), (hR.nw ch (by omega) (by omega)).2.2.2]; rfl
  · have z1 : (List.range (gh.1 1)).any (fun k => decide (R 26 k = nI ch) && !rv_z (R 32 k) && decide (R 25 k = nI i)) = false := by
      rw [List.any_eq_false]
      intro k hk
      obtain ⟨-, -, -, -, -, g, s', f, a, k', d1, -, -, -, -, d6, -⟩ := hR.cmt k (List.mem_range.mp hk)
      have : decide (R 26 k = nI ch) = false := decide_eq_false (by rw [d6, q_eq (by omega) (by omega)]; omega)
      rw [this]; simp
    have z2 : (List.range n).any (fun c => decide (R 5 c = nI ch) && decide (i < 6) && (decide (R 22 (12 * c + 2 * i) ≠ 0) || decide (R 22 (12 * c + 2 * i + 1) ≠ 0))) = false := by
      rw [List.any_eq_false]
      intro c hc
      rw [decide_eq_false (own5 c (List.mem_range.mp hc))]; simp
    unfold revB
    rw [z1, z2, (hR.nw ch (by omega) (by omega)).2.2.1, b_0, cf]
    simp [rv_fs, b_0]
  · have hval : R 5 b = NO ∨ ∃ g, g < gh.1 0 ∧ R 5 b = nI g := by
      rcases hR.own b b1 with ⟨-, z⟩ | ⟨g, s', p', o1, -, -, o3, -⟩
      · exact Or.inl z
      · exact Or.inr ⟨g, o1, o3⟩
    have hf : ∀ g, g < gh.1 0 → parS n R g = NO ∨ ∃ g', g' < gh.1 0 ∧ parS n R g = nI g' := fun g hg => by
      obtain ⟨y, -, -, y3, y4⟩ := hR.parent hg
      rw [y3]; exact y4
    rcases (pch_cong (f' := parS n R) hval (by omega) hf (fun _ _ => rfl) e).2 with z | ⟨g, z1, z2⟩
    · rw [z, Ne, q_no_eq' (by omega)]; simp
    · rw [z2, Ne, q_eq (by omega) (by omega)]; omega
end
