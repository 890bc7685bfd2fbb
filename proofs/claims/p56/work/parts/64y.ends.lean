/-! A CHANGE ENDS -/
theorem Rn.repoM {n : Nat} {gh : rC_gh} {C R M : rv_Mem} (hR : Rn n gh C R) (hk : ∀ k, k ≤ 11 ∨ k = 14 → M k = R k) {h r : Nat} (hh : h < gh.1 0) (hr : C (100 + h) 2 = nI r) (hr2 : r < 2) : f12_repoOf M (nI h) = some (nI r) := by
  have hn := hR.n80
  have hc := hR.ch20
  obtain ⟨k, c, k1, k2, k3, k4, c1, c2, c3, c4, c5, c6, c7, c8⟩ := hR.cur hh
  obtain ⟨r', r1, r2, r3, -⟩ := (hR.chg h hh).2.2.1
  have er : r' = r := by rw [hr, q_eq (by omega) (by omega)] at r2; exact r2.symm
  subst er
  have e : M 14 h - 1 = nI (k - 1) := by rw [hk 14 (by omega), k3, q_1, q_sub k1]
  have e2 : R 14 h - 1 = nI (k - 1) := by rw [k3, q_1, q_sub k1]
  have hat : mAt n (M 5) (M 6) (nI h) (nI (k - 1)) = nI c := by
    rw [hk 5 (by omega), hk 6 (by omega), ← c7]
    unfold curS
    rw [e2]
  have hcur : f12_current M (nI h) = some (nI c) := by
    unfold f12_current
    rw [if_pos (q_inb (show h < 20 by omega) (by omega)), q_nc (by omega), e, s12_commitAt (n := n) (by rw [hk 0 (by omega)]; exact hR.1.2.2.1) hn, hat]
    rfl
  unfold f12_repoOf
  rw [hcur, o1_some, if_pos (q_inb (show c < 82 by omega) (by omega)), q_nc (by omega), hk 1 (by omega), r3 c c2 c4]
theorem mlU_cong {m m' : Nat → Int32} {S who : Int32} {p : Nat} (h : m p = m' p) : mlU m S who 6 p = mlU m' S who 6 p := by unfold mlU; rw [h]
/-- an open change is abandoned -/
theorem Rn_abandon {n : Nat} {gh : rC_gh} {C R : rv_Mem} (hR : Rn n gh C R) {g : Nat} (hg : g < gh.1 0) (ho : R 13 g = nI 0) (who : Int32) : ∃ C' R', f11_endChange gh C (100 + g) 2 who = some C' ∧ f12_abandons R (nI g) who = some R' ∧ Rn n gh C' R' ∧ R' 66 = R 66 ∧ R' 13 = rv_u R 13 g (nI 2) 13 ∧ (∀ q, q ≠ g → R' 21 q = R 21 q) ∧ R' 52 = R 52 := by
  have hc := hR.ch20
  obtain ⟨a1, ⟨o, o1, o2, o3⟩, ⟨r, r1, r2, r3, r4⟩, ⟨s, s1, s2, s3⟩, a5, a6, a7, a8, a9⟩ := hR.chg g hg
  obtain ⟨dd, dd1, dd2, dd3⟩ := hR.mis.2.2
  obtain ⟨C', c1, c2, c3, c4, c5⟩ := s11_noteAct (gh := gh) (C := rv_u (rv_u C (100 + g) 5 2) (100 + g) 10 0) hg hc r1 (by rw [mu_ne2 (by omega), mu_ne2 (by omega)]; exact r2) who
  have hM : ∀ k, k ≠ 13 → k ≠ 20 → rv_u (rv_u R 13 g 2) 20 g 0 k = R k := fun k h1 h2 => by rw [mu_ne h2, mu_ne h1]
  obtain ⟨R', t1, t2, t3, t4, t5⟩ := s12_tells (M := rv_u (rv_u R 13 g 2) 20 g 0) (h := g) (r := r) (by omega) (hR.rvM (fun k hk => hM k (by omega) (by omega)) hg) (hR.repoM (fun k hk => hM k (by omega) (by omega)) hg r2 r1) r1 who
  have cf : ∀ j, j ≠ 5 → j ≠ 10 → j ≠ 11 → C' (100 + g) j = C (100 + g) j := fun j h1 h2 h3 => by rw [c3 j h3, mu_ne2 h2, mu_ne2 h1]
  have v : ∀ k, k ≠ 13 → k ≠ 20 → k ≠ 21 → k ≠ 51 → R' k = R k := fun k h1 h2 h3 h4 => by rw [t2 k h4 h3]; exact hM k h1 h2
  have v13 : R' 13 g = nI 2 := by rw [t2 13 (by omega) (by omega), mu_ne (by omega), mu_same]; rfl
  have v20 : R' 20 g = 0 := by rw [t2 20 (by omega) (by omega), mu_same]
  have v21 : R' 21 g = nI dd := by rw [t4, hM 52 (by omega) (by omega)]; exact dd3
  refine ⟨C', R', ?_, ?_, ?_, v 66 (by omega) (by omega) (by omega) (by omega), ?_, fun q hq => ?_, v 52 (by omega) (by omega) (by omega) (by omega)⟩
  · unfold f11_endChange
    rw [if_pos (is1 hg hc)]
    show rv_o1 (f11_noteAct gh (rv_u (rv_u C (100 + g) 5 2) (100 + g) 10 0) who (100 + g)) (fun M5 => some M5) = _
    rw [c1]; rfl
  · unfold f12_abandons
    have hin : rv_in (nI g) 20 = true := q_inb (by omega) (by omega)
    simp only [hin, if_true, lt_do, q_nc (show g < 2147483648 by omega), t1, o1_some]
  · refine Rn_ch1 hR hg (fun k h1 h2 => by rw [c2 k h1 h2, mu_ne h2, mu_ne h2]) (cf 4 (by omega) (by omega) (by omega)) (fun k hk => v k (by omega) (by omega) (by omega) (by omega)) (fun k q hk hq => ?_) (by rw [v 64 (by omega) (by omega) (by omega) (by omega)]; exact hR.h64) ?_ (fun z => ?_) ?_ ?_
    · by_cases e21 : k = 21
      · subst e21
        rw [t5 q hq, mu_ne (by omega), mu_ne (by omega)]
      · rw [t2 k (by omega) e21, mu_ne2 hq, mu_ne2 hq]
    · unfold chg1
      rw [cf 0 (by omega) (by omega) (by omega), cf 1 (by omega) (by omega) (by omega), cf 2 (by omega) (by omega) (by omega), cf 6 (by omega) (by omega) (by omega), cf 7 (by omega) (by omega) (by omega), cf 8 (by omega) (by omega) (by omega), cf 12 (by omega) (by omega) (by omega), v 12 (by omega) (by omega) (by omega) (by omega), v 5 (by omega) (by omega) (by omega) (by omega), v 1 (by omega) (by omega) (by omega) (by omega), v 18 (by omega) (by omega) (by omega) (by omega), v 15 (by omega) (by omega) (by omega) (by omega), v 16 (by omega) (by omega) (by omega) (by omega), v 17 (by omega) (by omega) (by omega) (by omega), v 52 (by omega) (by omega) (by omega) (by omega), v13, v20, v21]
      refine ⟨a1, ⟨o, o1, o2, o3⟩, ⟨r, r1, r2, r3, fun z => ?_⟩, ⟨2, by omega, ?_, rfl⟩, a5, a6, a7, ?_, dd, ?_, rfl, fun z => absurd rfl z⟩
      · rw [q_eq (by omega) (by omega)] at z; omega
      · rw [c3 5 (by omega), mu_ne2 (by omega), mu_same]; rfl
      · rw [c3 10 (by omega), mu_same]
      · rw [dd3, q_nc (by omega)]; exact Nat.le_refl _
    · rw [ho, q_eq (by omega) (by omega)] at z; omega
    · intro i hi
      rw [cf 9 (by omega) (by omega) (by omega), v 5 (by omega) (by omega) (by omega) (by omega), v 12 (by omega) (by omega) (by omega) (by omega), v 19 (by omega) (by omega) (by omega) (by omega), v 22 (by omega) (by omega) (by omega) (by omega), v 25 (by omega) (by omega) (by omega) (by omega), v 26 (by omega) (by omega) (by omega) (by omega), v 32 (by omega) (by omega) (by omega) (by omega)]
      exact hR.rev g hg i hi
    · intro p hp
      have w : ∀ j, j ≠ 5 → j ≠ 10 → rv_u (rv_u C (100 + g) 5 2) (100 + g) 10 0 (100 + g) j = C (100 + g) j := fun j h1 h2 => by rw [mu_ne2 h2, mu_ne2 h1]
      rw [c5 p, t3 p, w 9 (by omega) (by omega), w 1 (by omega) (by omega), w 7 (by omega) (by omega), w 6 (by omega) (by omega), mu_ne (show 13 ≠ 100 + g by omega), mu_ne (show 13 ≠ 100 + g by omega), mu_ne (show 12 ≠ 100 + g by omega), mu_ne (show 12 ≠ 100 + g by omega), hM 12 (by omega) (by omega), hM 16 (by omega) (by omega), hM 15 (by omega) (by omega), hM 50 (by omega) (by omega), hM 51 (by omega) (by omega), a5, a6, o2, o3, hR.mis.1 r r1]
      exact mlU_cong (hR.mis.2.1 p hp)
  · rw [t2 13 (by omega) (by omega), mu_ne (by omega)]; rfl
  · rw [t5 q hq, mu_ne (by omega), mu_ne (by omega)]
