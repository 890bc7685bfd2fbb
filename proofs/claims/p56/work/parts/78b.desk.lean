/-! THE LAW: the desk -/
section
variable {n n' : Nat} {gh gh' : rC_gh} {C C' R R' M M' A A' : rv_Mem} {Ls : Nat} {xs : Nat → Int32} {k69 : rC_gh → rv_Mem → rv_Mem → Bool → Int32 → Option (Bool × rC_gh × rv_Mem × rv_Mem)}
theorem kJI_no {q : Nat} (h : kJI q) : q ≠ 2 ∧ q ≠ 3 ∧ q ≠ 4 ∧ q ≠ 52 := by
  unfold kJI at h
  omega
theorem lw_330 (hR : Rn n gh C R) (J : JI n gh R A) {k X V m s f D d : Nat} (hk : k < 90) (hX : X < 2147483648) (hV : V < 2147483648) (hm : gh.1 0 ≠ 0 → m < gh.1 0) (hs : s < 2147483648) (hf : f < 4) (hd : R 52 0 = nI d) (hD : d ≤ D) : stO k69 k D (gp_law_330 Ls xs k69 gh C A (nI k) (nI X) (nI V) (nI m) (nI s) (nI f)) := by
  have hn := hR.n80
  have hn2 := hR.cnt.1.1
  have hc : V / 4 % n < n := Nat.mod_lt _ (by omega)
  obtain ⟨C', R', x1, x2, x3, x4, x5⟩ := t_take (A := A) hR hc
  have J' : JI n gh R' A := JI_cong hR x2 (fun q hq => by
    have := kJI_no hq
    exact x3 q this.1 this.2.1 this.2.2.1) J
  unfold gp_law_330 gp_law_394
  rw [ak_commits hR, o1_some, if_neg (show ¬ nI n = 0 by rw [q_0, q_eq (by omega) (by omega)]; omega), show nI V / 4 = nI (V / 4) from q_div (L := 4) (d := 4) rfl hV (by omega) (by omega), show nI (V / 4) - nI (V / 4) / nI n * nI n = nI (V / 4 % n) from q_rem rfl (by omega) (by omega) (by omega), x1, o3k, ak_repo x2 J'.j1 hc, o2_some, if_pos (by rw [x3 1 (by omega) (by omega) (by omega)]), ak_before x2 (x := -1) (c := 80) (Or.inr ⟨rfl, rfl⟩), x1k, x4, if_pos rfl, ak_size x2 (x := -1) (c := 80) (Or.inr ⟨rfl, rfl⟩) hf, o2_some, ak_size x2 (Or.inl ⟨hc, rfl⟩) hf, o2_some, if_pos (by rw [x5 f hf])]
  exact lw_end x2 J' hk hX hV hm hs hf (by rw [x3 52 (by omega) (by omega) (by omega)]; exact hd) hD
theorem lw_takeSet (hR : Rn n gh C R) (J : JI n gh R A) {k X V m s f D d kk : Nat} (hk : k < 90) (hX : X < 2147483648) (hV : V < 2147483648) (hm : m < gh.1 0) (hkk : R 14 m = nI kk) (hk80 : kk ≤ 80) (hs : s < kk) (hf : f < 4) (hd : R 52 0 = nI d) (hD : d ≤ D) (x9 x10 : Int32) (h9 : x9 = 10) : stO k69 k D (gp_law_399 Ls xs k69 gh C A (nI k) (nI X) (nI V) x9 x10 (nI m) (nI s) (nI f)) := by
  have hn := hR.n80
  obtain ⟨c, c1, c2, c3, c4, c5, c6⟩ := ak_commitOf hR hm hkk hk80 hs
  obtain ⟨C', R', x1, x2, x3, x4, x5⟩ := t_takeSet (A := A) hR hm hkk hk80 hs c2 c5
  have J' : JI n gh R' A := JI_cong hR x2 (fun q hq => by
    have := kJI_no hq
    exact x3 q this.1 this.2.1 this.2.2.1) J
  obtain ⟨c', d1, d2, d3, d4, d5, d6⟩ := ak_commitOf x2 hm (by rw [x3 14 (by omega) (by omega) (by omega)]; exact hkk) hk80 hs
  have e : c' = c := by
    rw [x3 5 (by omega) (by omega) (by omega), x3 6 (by omega) (by omega) (by omega), c5, q_eq (by omega) (by omega)] at d5
    exact d5.symm
  subst e
  unfold gp_law_399 gp_law_458
  rw [if_pos h9, x1, o3k, d6, x1k, ak_before x2 (Or.inl ⟨d2, rfl⟩), x1k, if_pos x5.symm, ak_before x2 (x := -1) (c := 80) (Or.inr ⟨rfl, rfl⟩), x1k, x1k, ak_before x2 (Or.inl ⟨d2, rfl⟩), x1k, if_pos (by rw [x4, x5])]
  exact lw_end x2 J' hk hX hV (fun _ => hm) (by omega) hf (by rw [x3 52 (by omega) (by omega) (by omega)]; exact hd) hD
theorem lw_put (hR : Rn n gh C R) (J : JI n gh R A) {k X V H m s D d : Nat} (hk : k < 90) (hX : X < 2147483648) (hV : V < 2147483648) (hm : gh.1 0 ≠ 0 → m < gh.1 0) (hs : s < 2147483648) (hd : R 52 0 = nI d) (hD : d ≤ D) (hH : H < 8) (x10 : Int32) : stO k69 k D (gp_law_163 Ls xs k69 gh C A (nI k) (nI X) (nI V) (nI H) x10 (nI m) (nI s)) := by
  have hf : V / 4 % 3 < 4 := by omega
  have ef : nI V / 4 - nI V / 4 / 3 * 3 = nI (V / 4 % 3) := by
    rw [show nI V / 4 = nI (V / 4) from q_div (L := 4) (d := 4) rfl hV (by omega) (by omega)]
    exact q_rem (L := 3) (d := 3) rfl (by omega) (by omega) (by omega)
  have h10 := fl_10 hR (c := 80) (f := V / 4 % 3) (Or.inr rfl) hf
  unfold gp_law_163
  rw [ef, ak_size hR (x := -1) (c := 80) (Or.inr ⟨rfl, rfl⟩) hf, o2_some, if_pos (show nI H < 8 by rw [q_8, q_lt (by omega) (by omega)]; exact hH)]
  by_cases c : (fl R 80 (V / 4 % 3)).length = 10
  · rw [if_neg (fun z => z (by rw [c]; rfl))]
    unfold gp_law_242 gp_law_247
    exact lw_end hR J hk hX hV hm hs hf hd hD
  · generalize hl : (fl R 80 (V / 4 % 3)).length = l at *
    obtain ⟨C', R', x1, x2, x3⟩ := t_put (A := A) hR (f := V / 4 % 3) (P := V / 12 % (l + 1)) (v := V / 132 % 4 + V / 528 % 2 * 100) hf (by omega) (by have := Nat.mod_lt (V / 12) (show 0 < l + 1 by omega); omega) (by omega)
    have J' : JI n gh R' A := JI_cong hR x2 (fun q hq => by
      have := kJI_no hq
      exact x3 q this.2.1 this.2.2.1) J
    have e1 : nI V / 12 - nI V / 12 / nI (l + 1) * nI (l + 1) = nI (V / 12 % (l + 1)) := by
      rw [show nI V / 12 = nI (V / 12) from q_div (L := 12) (d := 12) rfl hV (by omega) (by omega)]
      exact q_rem rfl (by omega) (by omega) (by omega)
    have e2 : nI V / 132 - nI V / 132 / 4 * 4 = nI (V / 132 % 4) := by
      rw [show nI V / 132 = nI (V / 132) from q_div (L := 132) (d := 132) rfl hV (by omega) (by omega)]
      exact q_rem (L := 4) (d := 4) rfl (by omega) (by omega) (by omega)
    have e3 : (nI V / 528 - nI V / 528 / 2 * 2) * 100 = nI (V / 528 % 2 * 100) := by
      rw [show nI V / 528 = nI (V / 528) from q_div (L := 528) (d := 528) rfl hV (by omega) (by omega), show nI (V / 528) - nI (V / 528) / 2 * 2 = nI (V / 528 % 2) from q_rem (L := 2) (d := 2) rfl (by omega) (by omega) (by omega), q_100, q_mul]
    rw [if_pos (show ¬ nI l = 10 by rw [q_10, q_eq (by omega) (by omega)]; exact c), q_succ, if_neg (show ¬ nI (l + 1) = 0 by rw [q_0, q_eq (by omega) (by omega)]; omega), e1, e2, e3, q_add, x1, o3k, hl, if_pos rfl]
    unfold gp_law_242 gp_law_247
    exact lw_end x2 J' hk hX hV hm hs hf (by rw [x3 52 (by omega) (by omega)]; exact hd) hD
theorem lw_cut (hR : Rn n gh C R) (J : JI n gh R A) {k X V m s D d : Nat} (hk : k < 90) (hX : X < 2147483648) (hV : V < 2147483648) (hm : gh.1 0 ≠ 0 → m < gh.1 0) (hs : s < 2147483648) (hd : R 52 0 = nI d) (hD : d ≤ D) (x10 : Int32) : stO k69 k D (gp_law_163 Ls xs k69 gh C A (nI k) (nI X) (nI V) (nI 8) x10 (nI m) (nI s)) := by
  have hf : V / 4 % 3 < 4 := by omega
  have ef : nI V / 4 - nI V / 4 / 3 * 3 = nI (V / 4 % 3) := by
    rw [show nI V / 4 = nI (V / 4) from q_div (L := 4) (d := 4) rfl hV (by omega) (by omega)]
    exact q_rem (L := 3) (d := 3) rfl (by omega) (by omega) (by omega)
  have h10 := fl_10 hR (c := 80) (f := V / 4 % 3) (Or.inr rfl) hf
  unfold gp_law_163
  rw [ef, ak_size hR (x := -1) (c := 80) (Or.inr ⟨rfl, rfl⟩) hf, o2_some, if_neg (show ¬ nI 8 < 8 by rw [q_8, q_lt (by omega) (by omega)]; omega), if_pos (show nI 8 = 8 from rfl)]
  by_cases c : (fl R 80 (V / 4 % 3)).length = 0
  · rw [if_neg (fun z => z (by rw [c]; rfl))]
    unfold gp_law_299 gp_law_304
    exact lw_end hR J hk hX hV hm hs hf hd hD
  · generalize hl : (fl R 80 (V / 4 % 3)).length = l at *
    have hP : V / 12 % l < l := Nat.mod_lt _ (by omega)
    obtain ⟨v, C', R', x1, x0, x2, x3, x4⟩ := t_cut (A := A) hR (f := V / 4 % 3) (P := V / 12 % l) hf (by omega)
    have J' : JI n gh R' A := JI_cong hR x2 (fun q hq => by
      have := kJI_no hq
      exact x3 q this.2.1 this.2.2.1) J
    have e1 : nI V / 12 - nI V / 12 / nI l * nI l = nI (V / 12 % l) := by
      rw [show nI V / 12 = nI (V / 12) from q_div (L := 12) (d := 12) rfl hV (by omega) (by omega)]
      exact q_rem rfl (by omega) (by omega) (by omega)
    have hne : ¬ nI l = 0 := by rw [q_0, q_eq (by omega) (by omega)]; exact c
    rw [if_pos hne, if_neg hne, e1, x1, o3k, if_pos (show 0 ≤ nI v by rw [q_0, q_le (by omega) (by omega)]; omega), ak_size x2 (x := -1) (c := 80) (Or.inr ⟨rfl, rfl⟩) hf, o2_some, x4, hl, q_1, q_sub (by omega), if_pos rfl]
    unfold gp_law_299 gp_law_304
    exact lw_end x2 J' hk hX hV hm hs hf (by rw [x3 52 (by omega) (by omega)]; exact hd) hD
end
