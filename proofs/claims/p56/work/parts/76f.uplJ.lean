/-! A PATCH SET MORE, AND WHAT HOLDS -/
theorem Rn_uplJ {n : Nat} {gh : rC_gh} {C R Rc A : rv_Mem} (hR : Rn n gh C R) (J : JI n gh R A) (hn : n < 80) {s b r h p : Nat} {a3 : Int32} (hh : h < gh.1 0) (ho : R 13 h = nI 0) (hp : p < 6) (hs : 80 ≤ s) (hs2 : s < 82) (hb : b < n) (hr : r < 2) (f2 : C (100 + h) 2 = nI r) (hrb : R 1 b = nI r)
    (hcp : f12_copies R a3 81 = some Rc) (hRc : ∀ q, q ≠ 3 → q ≠ 4 → Rc q = R q) (h3 : ∀ i, i < 324 → Rc 3 i = R 3 i) (h4 : ∀ i, i < 3240 → Rc 4 i = R 4 i) (hrow : rowOK s 81 C Rc) (hno : ∀ e, pch (parS n R) (R 5 b) e ≠ nI h) :
    ∃ k C2 R2, f11_addSet gh C (nI p) (100 + h) (nI s) (nI b) = some (nI k, C2) ∧ f12_uploads R (nI p) (nI h) a3 (nI b) = some (nI k, R2) ∧ Rn (n + 1) gh C2 R2 ∧ R2 66 = R 66 ∧ R 14 h = nI k ∧ k ≤ 80 ∧ (R2 2 n = nI b ∧ ∀ x, x ≠ n → R2 2 x = R 2 x) ∧ JI (n + 1) gh R2 A ∧ xF n h k p R R2 := by
  have hc := hR.ch20
  obtain ⟨k, k1, k2, k3, k4, k5⟩ := hR.sets hh
  obtain ⟨a1, a2, ⟨r', r0, a3', a4, -⟩, ⟨s', s0, s1, s2⟩, a6, a7, a8, a10, d, d1, d2, d3⟩ := hR.chg h hh
  have hs' : s' = 0 := by
    rw [ho, q_eq (by omega) (by omega)] at s2; omega
  subst hs'
  have hrr : r' = r := by
    rw [f2, q_eq (by omega) (by omega)] at a3'; omega
  subst hrr
  obtain ⟨C2, R2, C3, T, E1, Rm, x1, x2, x3, x4, x5, x6, x7, x8, x9⟩ := Rn_addX (C0 := C) (R0 := R) (gh' := gh) (k := k) (d := d) hR hn hs hs2 hb hr hrb hp (fun _ _ _ => rfl) (fun _ _ => rfl) k3 (fun _ _ _ => rfl) (fun _ _ _ _ => rfl) k4 hR.cnt.2.2.2.2.1 hR.h64 hcp hRc h3 h4 hrow (Or.inl ⟨hh, rfl, k2, k4⟩) rfl rfl (fun _ => rfl) hR.ok a1 a2 f2 ⟨s1, s2⟩ a6 a7 a8 a10
    ⟨d1, d3 (by rw [ho, Ne, q_eq (by omega) (by omega)]; omega)⟩ a4 (hR.rev h hh) (fun _ => by rw [ho, Ne, q_eq (by omega) (by omega)]; omega) (fun _ => d2) hno
  have F := X_facts x5 x3 x6 x7 x8 x9 hRc hR.cnt.2.2.1 hn hh hp
  exact ⟨k, C2, R2, x1, x2, x3, x4, k4, k2, X_two x5 x6 x7 x8 x9 hRc hR.cnt.2.2.1 hn hh hp, JI_up hR x3 J hh ho k4 k2 F, F⟩
