/-! COMMENTS ARE DRAFTED -/
section
variable {n n' : Nat} {gh gh' : rC_gh} {C C' R R' M M' A A' : rv_Mem}
theorem JI_cm {pk : Nat} {v : Int32} (hR : Rn n gh C R) (hR' : Rn n (rC_gi gh 1 pk) C' R') (J : JI n gh R A) (hC : ∀ h, h < gh.1 0 → C' (100 + h) = C (100 + h)) (hk : ∀ q, q ≤ 23 ∨ (34 ≤ q ∧ q ≤ 52) → R' q = R q) (hq : ∀ q i, 25 ≤ q → q ≤ 33 → i ≠ gh.1 1 → R' q i = R q i) (hv : v = enc R' (gh.1 1)) :
    JI n (rC_gi gh 1 pk) R' (rv_u (rv_u A 1 (gh.1 1) v) 2 0 (nI (gh.1 1 + 1))) := by
  have k1 := hk 1 (by omega)
  have k5 := hk 5 (by omega)
  have k6 := hk 6 (by omega)
  have k9 := hk 9 (by omega)
  have k12 := hk 12 (by omega)
  have k13 := hk 13 (by omega)
  have k14 := hk 14 (by omega)
  have k15 := hk 15 (by omega)
  have k16 := hk 16 (by omega)
  have k17 := hk 17 (by omega)
  have k18 := hk 18 (by omega)
  have k20 := hk 20 (by omega)
  have hcur : ∀ g, curS n R' g = curS n R g := fun g => by unfold curS; rw [k5, k6, k14]
  have hrv : ∀ h, h < gh.1 0 → rvS R' h = rvS R h := fun h hh => by
    rw [← rvS_eq hR hh, ← rvS_eq hR' (show h < (rC_gi gh 1 pk).1 0 from hh), hC h hh]
  have hfl : ∀ h, flN R' h = flN R h := fun h => by unfold flN; rw [k15, k16]
  have henc : ∀ j, j ≠ gh.1 1 → enc R' j = enc R j := fun j hj => by
    unfold enc
    rw [hq 26 j (by omega) (by omega) hj, hq 27 j (by omega) (by omega) hj, hq 28 j (by omega) (by omega) hj, hq 29 j (by omega) (by omega) hj, hq 30 j (by omega) (by omega) hj]
  have a0 : rv_u (rv_u A 1 (gh.1 1) v) 2 0 (nI (gh.1 1 + 1)) 0 = A 0 := by rw [mu_ne (by omega), mu_ne (by omega)]
  refine ⟨by rw [k1]; exact J.j1, by rw [hk 45 (by omega)]; exact J.r45, by rw [hk 46 (by omega)]; exact J.r46, by rw [hk 47 (by omega)]; exact J.r47, by rw [hk 48 (by omega)]; exact J.r48, by rw [hk 49 (by omega)]; exact J.r49, J.ch8, fun r g hr hg => ?_, fun h hh => ?_, fun c c' h s s' => ?_, fun h hh i hi => ?_, fun h hh => ?_, fun h hh => ?_, fun h hh => ?_, fun h hh => ?_, fun h h1 h2 => ?_, ?_, fun j hj => ?_, J.none⟩
  · rw [k5, k9, k13, hcur]; exact J.tips r g hr hg
  · rw [k13, k5, k18, hcur]; exact J.lw h hh
  · rw [k5, k6]; exact J.mono c c' h s s'
  · rw [k20, k12, hrv h hh]; exact J.turnA h hh i hi
  · rw [k20, k13, k15]; exact J.turnB h hh
  · rw [a0, k12]; exact J.cA0 h hh
  · rw [a0, hfl]; exact J.cA1 h hh
  · rw [a0, k17]; exact J.cA2 h hh
  · rw [a0]; exact J.cN h h1 h2
  · rw [mu_same]; rfl
  · rw [mu_ne (by omega)]
    by_cases e : j = gh.1 1
    · subst e; rw [mu_same]; exact hv
    · rw [mu_ne2 e, henc j e]
      have hj' : j < gh.1 1 + 1 := hj
      exact J.qA j (by omega)
theorem t_comment (hR : Rn n gh C R) (J : JI n gh R A) {p q s f a k kk c : Nat} {w : Bool} (hp : p < 6) (hq : q < gh.1 0) (h14 : R 14 q = nI kk) (hk80 : kk ≤ 80) (hs : s < kk) (hf : f < 4) (hr : gh.1 1 < 60) (hcn : c < n) (ec : mAt n (R 5) (R 6) (nI q) (nI s) = nI c) (h1 : 1 ≤ k) (hL : a + k ≤ (fl R c f).length) :
    (gp_commented_22 A gh C (nI p) (nI q) (nI s) (nI f) (nI a) (nI k) w = some (-1263, gh, C)) ∨ ∃ g' C' R', gp_commented_22 A gh C (nI p) (nI q) (nI s) (nI f) (nI a) (nI k) w = some (nI (gh.1 1), g', C') ∧ g'.1 0 = gh.1 0 ∧ Rn n g' C' R' ∧ JI n g' R' (rv_u (rv_u A 1 (gh.1 1) (encN q s f a k)) 2 0 (nI (gh.1 1 + 1))) ∧ R' 52 = R 52 := by
  have hn := hR.n80
  have hc := hR.ch20
  obtain ⟨c', c1, c2, c3, c4, c5, c6, c7⟩ := ok_set hR hq h14 hk80 hs
  rw [c6] at ec
  have e' : c' = c := by rw [q_eq (by omega) (by omega)] at ec; exact ec
  subst e'
  have F := fil_files hR.fil (c := c') (f := f) (Or.inl c2) hf
  have l10 := F.1.1
  have nl : f11_needLines gh C (nI c') (nI f) (nI a) (nI k) = some (.inl ()) := by
    unfold f11_needLines
    rw [s9_sizeOf (by omega) hf, F.1.2.1, o1_some, if_pos (by rw [q_0, q_le (by omega) (by omega)]; omega), if_pos (by rw [q_le (by omega) (by omega)]; omega), q_sub (by omega), if_neg (by rw [q_lt (by omega) (by omega)]; omega)]
  have room : f11_needRoomForComment gh C = some (.inl ()) := by
    unfold f11_needRoomForComment
    rw [if_neg (by rw [q_60, q_le (by omega) (by omega)]; omega)]
  have eC : f11_comment gh C (nI p) (nI q) (nI s) (nI f) (nI a) (nI k) w = rv_x1 (f11_needSeen gh C (nI p) (100 + q)) (fun r22 => f11_comment_76 gh C (nI p) (nI q) (nI s) (nI f) (nI a) (nI k) w (nI (gh.1 1))) := by
    unfold f11_comment
    rw [ok_person hp, x1_inl, ok_change hR hq, x1_inl, c7, x1_inl, ok_file hf, x1_inl, if_neg (by rw [q_1, q_lt (by omega) (by omega)]; omega), nl, x1_inl, room]
    rfl
  have e0 : ∀ g, f11_comment gh C (nI p) (nI q) (nI s) (nI f) (nI a) (nI k) w = g → gp_commented_22 A gh C (nI p) (nI q) (nI s) (nI f) (nI a) (nI k) w = lk_xm g (fun r2 g5 M6 => (some (r2, g5, M6))) (fun w3 => lk_hh w3 (some ((-1261), gh, C)) (some ((-1262), gh, C)) (some ((-1263), gh, C))) := fun g hg => by
    subst hg; rfl
  rcases hR.seen hq hp with ⟨s1, -⟩ | ⟨s1, -⟩
  · right
    rw [s1, x1_inl] at eC
    unfold f11_comment_76 at eC
    rw [if_pos (by rw [hR.ok, decide_eq_true (by omega)]; rfl)] at eC
    have nw : rC_is (rC_gi gh 1 (300 + gh.1 1)) 8 (300 + gh.1 1) = true := by
      unfold rC_is rC_dm rC_kd
      rw [if_neg (by omega), if_neg (by omega), if_neg (by omega), if_neg (by omega), if_pos (by omega), if_neg (by omega), if_neg (by omega), if_neg (by omega), if_neg (by omega), if_pos (by omega)]
      rw [show 300 + gh.1 1 - 100 = 200 + gh.1 1 by omega]
      simp [rC_gi1, rC_gi2]
    have hR' := Rn_lay (pk := 300 + gh.1 1) (p := p) (w := w) (th31 := NO) (t := gh.1 1) (q := q) (s := s) (f := f) (a := a) (k := k) (R1 := R) hR hr (fun k _ => rfl) (rv_w (rv_w C (200 + gh.1 1) (rv_fs [nI p, nI (gh.1 1), rv_i w, 0, 0])) (300 + gh.1 1) (rv_fs [nI q, nI s, nI f, nI a, nI k])) (fun k h1 h2 => by rw [mw_ne h2, mw_ne h1]) (by rw [mw_ne (by omega), mw_same]) hp (Or.inl ⟨rfl, rfl⟩) nw hq (by rw [h14, q_nc (by omega)]; exact hs) hf h1 (by rw [mw_same]; rfl) (by rw [mw_same]; rfl) (by rw [mw_same]; rfl) (by rw [mw_same]; rfl) (by rw [mw_same]; rfl) (by rw [c6, q_nc (by omega), ← fl_len]; exact hL)
    refine ⟨rC_gi gh 1 (300 + gh.1 1), _, _, (e0 _ eC).trans (by rw [xmk]), rfl, hR', ?_, ?_⟩
    · refine JI_cm hR hR' J (fun h hh => ?_) (fun q hq => ?_) (fun q i h1 h2 hi => ?_) ?_
      · rw [mw_ne (by omega), mw_ne (by omega)]
      · rw [mu_ne (by omega), mu_ne (by omega), mu_ne (by omega), mu_ne (by omega), mu_ne (by omega), mu_ne (by omega), mu_ne (by omega), mu_ne (by omega), mu_ne (by omega), mu_ne (by omega)]
      · rw [mu_ne (by omega), mu_ne2 hi, mu_ne2 hi, mu_ne2 hi, mu_ne2 hi, mu_ne2 hi, mu_ne2 hi, mu_ne2 hi, mu_ne2 hi, mu_ne2 hi]
      · unfold enc encN
        simp (disch := omega) only [mu_same, mu_ne]
    · rw [mu_ne (by omega), mu_ne (by omega), mu_ne (by omega), mu_ne (by omega), mu_ne (by omega), mu_ne (by omega), mu_ne (by omega), mu_ne (by omega), mu_ne (by omega), mu_ne (by omega)]
  · left
    rw [s1] at eC
    exact (e0 _ eC).trans rfl
end
