/-! ACTS ON THE DESK -/
def kJI (q : Nat) : Prop := q = 1 ∨ q = 5 ∨ q = 6 ∨ q = 9 ∨ (12 ≤ q ∧ q ≤ 20) ∨ q = 22 ∨ (25 ≤ q ∧ q ≤ 30) ∨ q = 32 ∨ (45 ≤ q ∧ q ≤ 49)
section
variable {n : Nat} {gh : rC_gh} {C C' R R' A : rv_Mem}
theorem rvS_cong (hR : Rn n gh C R) (hR' : Rn n gh C' R') (hk : ∀ q, q = 5 ∨ q = 12 ∨ q = 19 ∨ q = 22 ∨ q = 25 ∨ q = 26 ∨ q = 32 → R' q = R q) {h : Nat} (hh : h < gh.1 0) : rvS R' h = rvS R h := by
  apply b_ext
  intro i hi
  rw [rvS_bt hR' hh hi, rvS_bt hR hh hi, hk 5 (by omega), hk 12 (by omega), hk 19 (by omega), hk 22 (by omega), hk 25 (by omega), hk 26 (by omega), hk 32 (by omega)]
theorem JI_cong (hR : Rn n gh C R) (hR' : Rn n gh C' R') (hk : ∀ q, kJI q → R' q = R q) (J : JI n gh R A) : JI n gh R' A := by
  have e : ∀ q, kJI q → R' q = R q := hk
  have k1 := e 1 (by unfold kJI; omega)
  have k5 := e 5 (by unfold kJI; omega)
  have k6 := e 6 (by unfold kJI; omega)
  have k9 := e 9 (by unfold kJI; omega)
  have k12 := e 12 (by unfold kJI; omega)
  have k13 := e 13 (by unfold kJI; omega)
  have k14 := e 14 (by unfold kJI; omega)
  have k15 := e 15 (by unfold kJI; omega)
  have k16 := e 16 (by unfold kJI; omega)
  have k17 := e 17 (by unfold kJI; omega)
  have k18 := e 18 (by unfold kJI; omega)
  have k20 := e 20 (by unfold kJI; omega)
  have hcur : ∀ g, curS n R' g = curS n R g := fun g => by unfold curS; rw [k5, k6, k14]
  have hrv : ∀ h, h < gh.1 0 → rvS R' h = rvS R h := fun h hh => rvS_cong hR hR' (fun q hq => e q (by unfold kJI; omega)) hh
  have hfl : ∀ h, flN R' h = flN R h := fun h => by unfold flN; rw [k15, k16]
  have henc : ∀ j, enc R' j = enc R j := fun j => by
    unfold enc
    rw [e 26 (by unfold kJI; omega), e 27 (by unfold kJI; omega), e 28 (by unfold kJI; omega), e 29 (by unfold kJI; omega), e 30 (by unfold kJI; omega)]
  refine ⟨by rw [k1]; exact J.j1, by rw [e 45 (by unfold kJI; omega)]; exact J.r45, by rw [e 46 (by unfold kJI; omega)]; exact J.r46, by rw [e 47 (by unfold kJI; omega)]; exact J.r47, by rw [e 48 (by unfold kJI; omega)]; exact J.r48, by rw [e 49 (by unfold kJI; omega)]; exact J.r49, J.ch8, fun r g hr hg => ?_, fun h hh => ?_, fun c c' h s s' => ?_, fun h hh i hi => ?_, fun h hh => ?_, fun h hh => ?_, fun h hh => ?_, fun h hh => ?_, J.cN, J.pA, fun j hj => ?_, J.none⟩
  · rw [k5, k9, k13, hcur]; exact J.tips r g hr hg
  · rw [k13, k5, k18, hcur]; exact J.lw h hh
  · rw [k5, k6]; exact J.mono c c' h s s'
  · rw [k20, k12, hrv h hh]; exact J.turnA h hh i hi
  · rw [k20, k13, k15]; exact J.turnB h hh
  · rw [k12]; exact J.cA0 h hh
  · rw [hfl]; exact J.cA1 h hh
  · rw [k17]; exact J.cA2 h hh
  · rw [henc]; exact J.qA j hj
theorem t_put (hR : Rn n gh C R) {f P v : Nat} (hf : f < 4) (hS : (fl R 80 f).length < 10) (hP : P ≤ (fl R 80 f).length) (hv : v < 400) : ∃ C' R', gp_act gh C A 2 (nI f) (nI P) (nI v) 0 0 = some (nI ((fl R 80 f).length + 1), gh, C') ∧ Rn n gh C' R' ∧ ∀ q, q ≠ 3 → q ≠ 4 → R' q = R q := by
  obtain ⟨⟨-, s2, -⟩, ⟨-, s3, -⟩, -⟩ := fil_files hR.fil (c := 80) (f := f) (Or.inr rfl) hf
  generalize (fl R 80 f).length = S at *
  have k1 := s9_sizeOf (gh := gh) (C := C) (c := 80) (f := f) (by omega) hf
  rw [s2] at k1
  rw [show 4 * 80 + f = 320 + f by omega] at s2 s3
  obtain ⟨C', g1, g2⟩ := s9_insertOnDesk (gh := gh) (C := C) (f := f) (P := P) (S := S) (v := nI v) hf hS hP s2
  obtain ⟨R', g3, g4⟩ := s12_put_89 (M0 := R) (f := f) (P := P) (S := S) (v := nI v) hf hS hP s3
  refine ⟨C', R', ?_, Rn_put hR hf hS hP hv s2 g2 g4 (by rw [g4.1 64 (by omega) (by omega)]; exact hR.h64), fun q h3 h4 => g4.1 q h4 h3⟩
  rw [ga_2]; unfold f11_put
  rw [ok_file hf, x2_inl, show (80 : Int32) = nI 80 from rfl, k1, o1_some, if_pos (by rw [q_0, q_le (by omega) (by omega)]; omega), if_neg (by rw [q_lt (by omega) (by omega)]; omega), if_pos (by rw [q_0, q_le (by omega) (by omega)]; omega), if_neg (by rw [q_400, q_le (by omega) (by omega)]; omega), if_neg (by rw [q_10, q_le (by omega) (by omega)]; omega), g1, o1_some, x3k, q_succ]
theorem t_cut (hR : Rn n gh C R) {f P : Nat} (hf : f < 4) (hP : P < (fl R 80 f).length) : ∃ v C' R', gp_act gh C A 3 (nI f) (nI P) 0 0 0 = some (nI v, gh, C') ∧ v < 400 ∧ Rn n gh C' R' ∧ (∀ q, q ≠ 3 → q ≠ 4 → R' q = R q) ∧ (fl R' 80 f).length = (fl R 80 f).length - 1 := by
  obtain ⟨v, v1, v2⟩ := ln_v hR (Or.inr rfl) hf hP
  obtain ⟨⟨s1, s2, s3⟩, ⟨-, t3, -⟩, -⟩ := fil_files hR.fil (c := 80) (f := f) (Or.inr rfl) hf
  have k3 := s9_lineAt (gh := gh) (by omega) hf s2 s1 hP
  rw [s3 P hP, ← ln_lt hP, v2] at k3
  have k1 := s9_sizeOf (gh := gh) (C := C) (c := 80) (f := f) (by omega) hf
  rw [s2] at k1
  obtain ⟨S, eS⟩ : ∃ S, (fl R 80 f).length = S + 1 := ⟨(fl R 80 f).length - 1, by omega⟩
  rw [eS] at s1 s2 t3 k1 hP ⊢
  rw [show 4 * 80 + f = 320 + f by omega] at s2 t3
  obtain ⟨C', g1, g2⟩ := s9_removeFromDesk (gh := gh) (C := C) (f := f) (P := P) (S := S) hf (by omega) (by omega) s2
  obtain ⟨R', g3, g4⟩ := s12_cut_76 (M0 := R) (f := f) (P := P) (S := S) (v := 0) hf (by omega) (by omega)
  refine ⟨v, C', R', ?_, v1, Rn_cut hR hf (by omega) (by omega) s2 g2 g4 (by rw [g4.1 64 (by omega) (by omega)]; exact hR.h64), fun q h3 h4 => g4.1 q h4 h3, ?_⟩
  · rw [ga_3]; unfold f11_cut
    rw [ok_file hf, x2_inl, if_pos (by rw [q_0, q_le (by omega) (by omega)]; omega), show (80 : Int32) = nI 80 from rfl, k1, o1_some, if_neg (by rw [q_le (by omega) (by omega)]; omega), k3, o1_some, g1, o1_some, x3k]
  · rw [fl_len, show 4 * 80 + f = 320 + f by omega, g4.2.2, if_pos rfl, q_nc (by omega)]; rfl
theorem t_take (hR : Rn n gh C R) {c : Nat} (hc : c < n) : ∃ C' R', gp_act gh C A 0 (nI c) 0 0 0 0 = some (R 1 c, gh, C') ∧ Rn n gh C' R' ∧ (∀ q, q ≠ 2 → q ≠ 3 → q ≠ 4 → R' q = R q) ∧ R' 2 80 = nI c ∧ ∀ f, f < 4 → (fl R' 80 f).length = (fl R' c f).length := by
  have hn := hR.n80
  obtain ⟨C', g1, g2⟩ := s9_copyFiles (gh := gh) (C := C) (a := c) (b := 80) (by omega) (by omega) (by omega) (fil_row hR (Or.inl hc))
  obtain ⟨R', g3, g4⟩ := s12_copies (M := R) (a := c) (b := 80) (by omega) (by omega) (by omega)
  obtain ⟨⟨r, r1, r2, r3⟩, -⟩ := hR.bas.1 c hc
  refine ⟨rv_u (rv_u C' 17 80 (nI c)) 16 80 (rv_u C' 17 80 (nI c) 16 c), rv_u R' 2 80 (nI c), ?_, Rn_take hR hc hc g2 g4 (by rw [g4.1 64 (by omega) (by omega)]; exact hR.h64) _, fun q h2 h3 h4 => by rw [mu_ne h2, g4.1 q h4 h3], mu_same _ _ _ _, fun f hf => ?_⟩
  · rw [ga_0]; unfold f11_take f11_moveDesk
    rw [ok_commit hR hc, x2_inl, show (80 : Int32) = nI 80 from rfl, g1, o1_some, s9_setDeskBase (by omega), o2_some, o2_some, x3k, mu_ne (by omega), g2.1 16 (by omega) (by omega), r2, r3]
  · rw [fl_len, fl_len, mu_ne (by omega), (g4.2.2.2 f hf).1, g4.2.2.1 (4 * c + f) (by omega)]
theorem t_takeSet (hR : Rn n gh C R) {m k s c : Nat} (hm : m < gh.1 0) (hk : R 14 m = nI k) (hk80 : k ≤ 80) (hs : s < k) (hc : c < n) (ec : mAt n (R 5) (R 6) (nI m) (nI s) = nI c) : ∃ C' R', gp_act gh C A 1 (nI m) (nI s) 0 0 0 = some (R 2 c, gh, C') ∧ Rn n gh C' R' ∧ (∀ q, q ≠ 2 → q ≠ 3 → q ≠ 4 → R' q = R q) ∧ R' 2 80 = R 2 c ∧ R' 2 c = R 2 c := by
  have hn := hR.n80
  obtain ⟨c', c1, c2, -, -, -, c6, c7⟩ := ok_set hR hm hk hk80 hs
  have e : c' = c := by rw [ec, q_eq (by omega) (by omega)] at c6; exact c6.symm
  subst e
  obtain ⟨b, b1, b2, b3, -⟩ := hR.base c1 c2
  obtain ⟨C', g1, g2⟩ := s9_copyFiles (gh := gh) (C := C) (a := c') (b := 80) (by omega) (by omega) (by omega) (fil_row hR (Or.inl c2))
  obtain ⟨R', g3, g4⟩ := s12_copies (M := R) (a := c') (b := 80) (by omega) (by omega) (by omega)
  refine ⟨rv_u (rv_u C' 17 80 (nI b)) 16 80 (rv_u C' 17 80 (nI b) 16 b), rv_u R' 2 80 (nI b), ?_, Rn_take hR c2 (by omega) g2 g4 (by rw [g4.1 64 (by omega) (by omega)]; exact hR.h64) _, fun q h2 h3 h4 => by rw [mu_ne h2, g4.1 q h4 h3], by rw [mu_same, b3], by rw [mu_ne2 (by omega), g4.1 2 (by omega) (by omega)]⟩
  rw [ga_1]; unfold f11_takeSet f11_moveDesk f9_baseOf
  rw [ok_change hR hm, x2_inl, c7, x2_inl, show (80 : Int32) = nI 80 from rfl, g1, o1_some, s9_read (L := 82) (by omega) rfl rfl (by omega), o1_some, o1_some, g2.1 17 (by omega) (by omega), b2, s9_setDeskBase (by omega), o2_some, o2_some, x3k, b3]
end
