/-! THE LAW: which step it is -/
section
variable {n n' : Nat} {gh gh' : rC_gh} {C C' R R' M M' A A' : rv_Mem} {Ls : Nat} {xs : Nat → Int32} {k69 : rC_gh → rv_Mem → rv_Mem → Bool → Int32 → Option (Bool × rC_gh × rv_Mem × rv_Mem)}
theorem lw_572 (hR : Rn n gh C R) (J : JI n gh R A) {k X V p m s f D d kk H : Nat} (hk : k < 90) (hX : X < 2147483648) (hV : V < 2147483648) (hp : p < 6) (hm : m < gh.1 0) (hkk : R 14 m = nI kk) (hk1 : 1 ≤ kk) (hk80 : kk ≤ 80) (hs : s < kk) (hf : f < 4) (hd : R 52 0 = nI d) (hD : d + 20 ≤ D) (hD2 : D ≤ 10000) (hH : H < 32) : stO k69 k D (gp_law_572 Ls xs k69 gh C A (nI k) (nI X) (nI V) (nI H) (nI p) (nI m) (nI s) (nI f)) := by
  have lt : ∀ b, b < 100 → (nI H < nI b) = (H < b) := fun b hb => q_lt (by omega) (by omega)
  have l16 : (nI H < 16) = (H < 16) := lt 16 (by omega)
  have l18 : (nI H < 18) = (H < 18) := lt 18 (by omega)
  have l22 : (nI H < 22) = (H < 22) := lt 22 (by omega)
  have l24 : (nI H < 24) = (H < 24) := lt 24 (by omega)
  by_cases c1 : H < 16
  · exact lw_upload hR J hk hX hV hp hm (by omega) hf hd (by omega) _ (by rw [l16]; exact c1)
  by_cases c2 : H < 18
  · exact lw_rebase hR J hk hX hV hp hm (by omega) hf hd (by omega) _ (by rw [l16]; exact c1) (by rw [l18]; exact c2)
  by_cases c3 : H < 22
  · exact lw_vote hR J hk hX hV hm hkk hk1 hk80 hs hf hd (by omega) _ (by rw [l16]; exact c1) (by rw [l18]; exact c2) (by rw [l22]; exact c3)
  by_cases c4 : H < 24
  · exact lw_comment hR J hk hX hV hp hm hkk hk80 hs hf hd (by omega) _ (by rw [l16]; exact c1) (by rw [l18]; exact c2) (by rw [l22]; exact c3) (by rw [l24]; exact c4)
  by_cases c5 : H = 24
  · rw [c5]; exact lw_publish hR J hk hX hV hp hm (by omega) hf hd (by omega)
  by_cases c6 : H < 27
  · exact lw_land hR J hk hX hV hp hm (by omega) hf hd (by omega) (by omega) c6
  rcases (show H = 27 ∨ H = 28 ∨ H = 29 ∨ H = 30 ∨ H = 31 by omega) with e | e | e | e | e
  · rw [e]; exact lw_set hR J hk hX hV hm (by omega) hf hd (by omega)
  · rw [e]; exact lw_flags hR J hk hX hV hm (by omega) hf hd (by omega)
  · rw [e]; exact lw_topic hR J hk hX hV hm (by omega) hf hd (by omega)
  · rw [e]; exact lw_end30 hR J hk hX hV hp hm (by omega) hf hd (by omega)
  · rw [e]; exact lw_days hR J hk hX hV hp hm (by omega) hf hd hD hD2
theorem lw_399 (hR : Rn n gh C R) (J : JI n gh R A) {k X V p m s f D d H : Nat} (hk : k < 90) (hX : X < 2147483648) (hV : V < 2147483648) (hn46 : n < 46) (hp : p < 6) (hm : gh.1 0 ≠ 0 → m < gh.1 0) (hm0 : gh.1 0 = 0 → m = 0) (hs : gh.1 0 ≠ 0 → ∃ kk, R 14 m = nI kk ∧ 1 ≤ kk ∧ kk ≤ 80 ∧ s < kk) (hs0 : s < 2147483648) (hf : f < 4) (hd : R 52 0 = nI d) (hD : d + 20 ≤ D) (hD2 : D ≤ 10000) (hH : H < 32) (hH10 : 10 ≤ H) (hH12 : gh.1 0 = 0 → 12 ≤ H) : stO k69 k D (gp_law_399 Ls xs k69 gh C A (nI k) (nI X) (nI V) (nI H) (nI p) (nI m) (nI s) (nI f)) := by
  have hc := hR.ch20
  have c8 := J.ch8
  by_cases c1 : H = 10
  · have hne : gh.1 0 ≠ 0 := fun z => by have := hH12 z; omega
    obtain ⟨kk, k1, k2, k3, k4⟩ := hs hne
    exact lw_takeSet hR J hk hX hV (hm hne) k1 k3 k4 hf hd (by omega) _ _ (by rw [c1]; rfl)
  · unfold gp_law_399
    have go : stO k69 k D (gp_law_477 Ls xs k69 gh C A (nI k) (nI X) (nI V) (nI H) (nI p) (nI m) (nI s) (nI f)) ∨ ¬ (gh.1 0 = 0 ∨ H < 13) := by
      by_cases c2 : gh.1 0 = 0 ∨ H < 13
      · left
        by_cases c3 : gh.1 0 = 8
        · obtain ⟨kk, k1, k2, k3, k4⟩ := hs (by omega)
          unfold gp_law_477
          rw [show f11_changes gh C = some (nI (gh.1 0)) from rfl, o1_some, if_neg (show ¬ nI (gh.1 0) < 8 by rw [q_8, q_lt (by omega) (by omega)]; omega)]
          exact lw_572 hR J hk hX hV hp (hm (by omega)) k1 k2 k3 k4 hf hd hD hD2 hH
        · exact lw_477 hR J hk hX hV hn46 hp hm hm0 hs0 hf hd (by omega) _ c3
      · exact Or.inr c2
    rw [if_neg (show ¬ nI H = 10 by rw [q_10, q_eq (by omega) (by omega)]; exact c1)]
    by_cases c2 : 13 ≤ H
    · rw [if_pos (show 13 ≤ nI H by rw [show (13 : Int32) = nI 13 from rfl, q_le (by omega) (by omega)]; exact c2), show f11_changes gh C = some (nI (gh.1 0)) from rfl, o1_some]
      by_cases c3 : gh.1 0 = 0
      · rw [if_pos (show nI (gh.1 0) = 0 by rw [c3]; rfl)]
        exact go.resolve_right (fun z => z (Or.inl c3))
      · rw [if_neg (show ¬ nI (gh.1 0) = 0 by rw [q_0, q_eq (by omega) (by omega)]; exact c3)]
        obtain ⟨kk, k1, k2, k3, k4⟩ := hs c3
        exact lw_572 hR J hk hX hV hp (hm c3) k1 k2 k3 k4 hf hd hD hD2 hH
    · rw [if_neg (show ¬ 13 ≤ nI H by rw [show (13 : Int32) = nI 13 from rfl, q_le (by omega) (by omega)]; exact c2)]
      exact go.resolve_right (fun z => z (Or.inr (by omega)))
theorem lw_163 (hR : Rn n gh C R) (J : JI n gh R A) {k X V p m s D d H : Nat} (hk : k < 90) (hX : X < 2147483648) (hV : V < 2147483648) (hn46 : n < 46) (hp : p < 6) (hm : gh.1 0 ≠ 0 → m < gh.1 0) (hm0 : gh.1 0 = 0 → m = 0) (hs : gh.1 0 ≠ 0 → ∃ kk, R 14 m = nI kk ∧ 1 ≤ kk ∧ kk ≤ 80 ∧ s < kk) (hs0 : s < 2147483648) (hd : R 52 0 = nI d) (hD : d + 20 ≤ D) (hD2 : D ≤ 10000) (hH : H < 32) : stO k69 k D (gp_law_163 Ls xs k69 gh C A (nI k) (nI X) (nI V) (nI H) (nI p) (nI m) (nI s)) := by
  have hc := hR.ch20
  by_cases c1 : H < 8
  · exact lw_put hR J hk hX hV hm hs0 hd (by omega) c1 _
  by_cases c2 : H = 8
  · rw [c2]; exact lw_cut hR J hk hX hV hm hs0 hd (by omega) _
  have hf : V / 4 % 3 < 4 := by omega
  have ef : nI V / 4 - nI V / 4 / 3 * 3 = nI (V / 4 % 3) := by
    rw [show nI V / 4 = nI (V / 4) from q_div (L := 4) (d := 4) rfl hV (by omega) (by omega)]
    exact q_rem (L := 3) (d := 3) rfl (by omega) (by omega) (by omega)
  unfold gp_law_163
  rw [ef, ak_size hR (x := -1) (c := 80) (Or.inr ⟨rfl, rfl⟩) hf, o2_some, if_neg (show ¬ nI H < 8 by rw [q_8, q_lt (by omega) (by omega)]; exact c1), if_neg (show ¬ nI H = 8 by rw [q_8, q_eq (by omega) (by omega)]; exact c2)]
  have e9 : (nI H = 9) = (H = 9) := q_eq (a := H) (b := 9) (by omega) (by omega)
  by_cases c3 : H = 9
  · rw [if_neg (show ¬ ¬ nI H = 9 by rw [e9]; exact fun z => z c3)]
    exact lw_330 hR J hk hX hV hm hs0 hf hd (by omega)
  · rw [if_pos (show ¬ nI H = 9 by rw [e9]; exact c3), show f11_changes gh C = some (nI (gh.1 0)) from rfl, o1_some]
    by_cases c4 : gh.1 0 = 0
    · rw [if_pos (show nI (gh.1 0) = 0 by rw [c4]; rfl)]
      by_cases c5 : H < 12
      · rw [if_pos (show nI H < 12 by rw [q_12, q_lt (by omega) (by omega)]; exact c5)]
        exact lw_330 hR J hk hX hV hm hs0 hf hd (by omega)
      · rw [if_neg (show ¬ nI H < 12 by rw [q_12, q_lt (by omega) (by omega)]; exact c5)]
        exact lw_399 hR J hk hX hV hn46 hp hm hm0 hs hs0 hf hd hD hD2 hH (by omega) (fun _ => by omega)
    · rw [if_neg (show ¬ nI (gh.1 0) = 0 by rw [q_0, q_eq (by omega) (by omega)]; exact c4)]
      exact lw_399 hR J hk hX hV hn46 hp hm hm0 hs hs0 hf hd hD hD2 hH (by omega) (fun z => absurd z c4)
theorem lw_138 (hR : Rn n gh C R) (J : JI n gh R A) {k X V p m D d H : Nat} (hk : k < 90) (hX : X < 2147483648) (hV : V < 2147483648) (hn46 : n < 46) (hp : p < 6) (hm : gh.1 0 ≠ 0 → m < gh.1 0) (hm0 : gh.1 0 = 0 → m = 0) (hd : R 52 0 = nI d) (hD : d + 20 ≤ D) (hD2 : D ≤ 10000) (hH : H < 32) : stO k69 k D (gp_law_138 Ls xs k69 gh C A (nI k) (nI X) (nI V) (nI H) (nI p) (nI m)) := by
  have hc := hR.ch20
  unfold gp_law_138
  rw [show f11_changes gh C = some (nI (gh.1 0)) from rfl, o1_some]
  by_cases c : gh.1 0 = 0
  · rw [if_pos (show nI (gh.1 0) = 0 by rw [c]; rfl)]
    exact lw_163 hR J (s := 0) hk hX hV hn46 hp hm hm0 (fun z => absurd c z) (by omega) hd hD hD2 hH
  · obtain ⟨kk, k1, k2, -, k4, -⟩ := hR.sets (hm c)
    have e40 : nI V / 40 - nI V / 40 / nI kk * nI kk = nI (V / 40 % kk) := by
      rw [show nI V / 40 = nI (V / 40) from q_div (L := 40) (d := 40) rfl hV (by omega) (by omega)]
      exact q_rem rfl (by omega) (by omega) (by omega)
    have hmod : V / 40 % kk < kk := Nat.mod_lt _ (by omega)
    rw [if_neg (show ¬ nI (gh.1 0) = 0 by rw [q_0, q_eq (by omega) (by omega)]; exact c), ak_sets hR (hm c), x1k, k4, if_neg (show ¬ nI kk = 0 by rw [q_0, q_eq (by omega) (by omega)]; omega), e40]
    exact lw_163 hR J hk hX hV hn46 hp hm hm0 (fun _ => ⟨kk, k4, k1, k2, hmod⟩) (by omega) hd hD hD2 hH
theorem and_pos (y : Int32) : ¬ (y &&& 2147483647) < 0 := by
  intro h
  rw [q_0, Int32.lt_iff_toInt_lt, q_ti (by omega)] at h
  have h2 : (y &&& 2147483647).toBitVec.toInt < 0 := h
  have h3 : (y &&& 2147483647).toBitVec.msb = true := by
    rw [BitVec.msb_eq_toInt]
    exact decide_eq_true h2
  rw [BitVec.msb_eq_getLsbD_last] at h3
  have h4 : bt (y &&& 2147483647) 31 = true := h3
  rw [b_and, show bt 2147483647 31 = false by decide +kernel, Bool.and_false] at h4
  cases h4
theorem ak_dice {k : Nat} (hL : Ls ≤ 260) (hk : k < 90) : ∃ X, X < 2147483648 ∧ gp_dice Ls xs gh C A (nI k) = some (nI X, C) := by
  have fin : ∀ y : Int32, ∃ X, X < 2147483648 ∧ gp_dice_32 Ls xs gh A C y = some (nI X, C) := fun y => by
    obtain ⟨X, x1, x2⟩ := nI_of (and_pos y)
    exact ⟨X, x1, by unfold gp_dice_32; rw [x2]⟩
  unfold gp_dice
  by_cases c : k < Ls
  · obtain ⟨X, x1, x2⟩ := fin (xs k)
    exact ⟨X, x1, by rw [if_pos (show nI k < nI Ls by rw [q_lt (by omega) (by omega)]; exact c), if_pos (show rv_in (nI k) Ls = true from q_inb c (by omega)), q_nc (by omega), x2]⟩
  · obtain ⟨X, x1, x2⟩ := fin (((1160258023 * (nI k + 331)) + ((723 * nI k) * nI k)) + 227)
    exact ⟨X, x1, by rw [if_neg (show ¬ nI k < nI Ls by rw [q_lt (by omega) (by omega)]; exact c), x2]⟩
theorem lw_1904 (hR : Rn n gh C R) (J : JI n gh R A) : ∃ r, gp_law_1904 Ls xs gh C A true = some (true, r) := by
  unfold gp_law_1904
  have e : gp_areChanges gh C A 1 = some (true, C) := areChanges_ok hR J (X := 1) (by omega)
  exact ⟨_, by rw [if_pos rfl, e, o2_some, if_pos rfl]⟩
theorem lw_69 (hL : Ls ≤ 260) : ∀ (d k fuel n : Nat) (gh : rC_gh) (C R A : rv_Mem) (D : Nat), k + d = 90 → d < fuel → Rn n gh C R → JI n gh R A → R 52 0 = nI D → D ≤ 20 * k → ∃ r, gp_law_69 Ls xs fuel gh C A true (nI k) = some (true, r) := by
  intro d
  induction d with
  | zero =>
    intro k fuel n gh C R A D h1 h2 hR J hD hDk
    obtain ⟨f, rfl⟩ : ∃ f, fuel = f + 1 := ⟨fuel - 1, by omega⟩
    obtain ⟨r, er⟩ := lw_1904 (Ls := Ls) (xs := xs) hR J
    refine ⟨r, ?_⟩
    show gp_law_69_s Ls xs (gp_law_69 Ls xs f) gh C A true (nI k) = _
    unfold gp_law_69_s
    rw [if_neg (show ¬ nI k < 90 by rw [show (90 : Int32) = nI 90 from rfl, q_lt (by omega) (by omega)]; omega)]
    exact er
  | succ d ih =>
    intro k fuel n gh C R A D h1 h2 hR J hD hDk
    obtain ⟨f, rfl⟩ : ∃ f, fuel = f + 1 := ⟨fuel - 1, by omega⟩
    have hn := hR.n80
    have hc := hR.ch20
    show ∃ r, gp_law_69_s Ls xs (gp_law_69 Ls xs f) gh C A true (nI k) = some (true, r)
    unfold gp_law_69_s
    rw [if_pos (show nI k < 90 by rw [show (90 : Int32) = nI 90 from rfl, q_lt (by omega) (by omega)]; omega), if_pos rfl, ak_commits hR, o1_some]
    by_cases c : n < 46
    · obtain ⟨X, x1, x2⟩ := ak_dice (xs := xs) (gh := gh) (C := C) (A := A) hL (show k < 90 by omega)
      have e2 : nI X - nI X / 32 * 32 = nI (X % 32) := q_rem (L := 32) (d := 32) rfl x1 (by omega) (by omega)
      have e1 : nI X / 32 = nI (X / 32) := q_div (L := 32) (d := 32) rfl x1 (by omega) (by omega)
      have e3 : nI (X / 32) - nI (X / 32) / 4 * 4 = nI (X / 32 % 4) := q_rem (L := 4) (d := 4) rfl (by omega) (by omega) (by omega)
      have e4 : nI (X / 32) / 4 = nI (X / 32 / 4) := q_div (L := 4) (d := 4) rfl (by omega) (by omega) (by omega)
      have fin : ∀ e, stO (gp_law_69 Ls xs f) k (20 * (k + 1)) e → ∃ r, e = some (true, r) := fun e he => by
        obtain ⟨n', gh', C', R', A', y1, y2, y3, d', y4, y5⟩ := he
        rw [y1]
        exact ih (k + 1) f n' gh' C' R' A' d' (by omega) (by omega) y2 y3 y4 y5
      rw [if_pos (show nI n < 46 by rw [show (46 : Int32) = nI 46 from rfl, q_lt (by omega) (by omega)]; exact c), x2, o2_some, show f11_changes gh C = some (nI (gh.1 0)) from rfl, o1_some, e2, e1, e3, e4]
      by_cases c0 : gh.1 0 = 0
      · rw [if_pos (show nI (gh.1 0) = 0 by rw [c0]; rfl)]
        exact fin _ (lw_138 hR J (m := 0) (by omega) x1 (by omega) c (by omega) (fun z => absurd c0 z) (fun _ => rfl) hD (by omega) (by omega) (by omega))
      · have hne : ¬ nI (gh.1 0) = 0 := by rw [q_0, q_eq (by omega) (by omega)]; exact c0
        have hmod : X / 32 / 4 % gh.1 0 < gh.1 0 := Nat.mod_lt _ (by omega)
        rw [if_neg hne, o1_some, if_neg hne, show nI (X / 32 / 4) - nI (X / 32 / 4) / nI (gh.1 0) * nI (gh.1 0) = nI (X / 32 / 4 % gh.1 0) from q_rem rfl (by omega) (by omega) (by omega)]
        exact fin _ (lw_138 hR J (by omega) x1 (by omega) c (by omega) (fun _ => hmod) (fun z => absurd z c0) hD (by omega) (by omega) (by omega))
    · rw [if_neg (show ¬ nI n < 46 by rw [show (46 : Int32) = nI 46 from rfl, q_lt (by omega) (by omega)]; exact c)]
      exact lw_1904 hR J
end
theorem JI_0 : Rn 2 m0_gh m0_C m0_R ∧ JI 2 m0_gh m0_R (fun _ _ => 0) ∧ m0_R 52 0 = nI 0 ∧ m0_R 44 0 = 0 := by
  obtain ⟨n, hR⟩ := m0_Rel
  have hn := hR.n80
  have e : n = 2 := by
    have h0 : m0_R 0 0 = nI n := hR.cnt.2.2.1
    have h1 : m0_R 0 0 = nI 2 := rfl
    rw [h1, q_eq (by omega) (by omega)] at h0
    exact h0.symm
  subst e
  refine ⟨hR, ?_, rfl, rfl⟩
  refine ⟨⟨rfl, rfl⟩, rfl, rfl, rfl, rfl, rfl, Nat.zero_le _, fun r g _ hg => absurd hg (Nat.not_lt_zero _), fun h hh => absurd hh (Nat.not_lt_zero _), fun c c' h s s' hc1 _ hh _ _ x1 _ _ _ _ => ?_, fun h hh => absurd hh (Nat.not_lt_zero _), fun h hh => absurd hh (Nat.not_lt_zero _), fun h hh => absurd hh (Nat.not_lt_zero _), fun h hh => absurd hh (Nat.not_lt_zero _), fun h hh => absurd hh (Nat.not_lt_zero _), fun h _ _ => ⟨rfl, rfl⟩, rfl, fun j hj => absurd hj (Nat.not_lt_zero _), fun _ => rfl⟩
  rcases hR.own c hc1 with ⟨-, z⟩ | ⟨g, s1, p1, a1, -⟩
  · rw [z, q_no_eq' (by omega)] at x1; exact x1.elim
  · exact absurd a1 (Nat.not_lt_zero _)
theorem law_ok {Ls : Nat} {xs : Nat → Int32} (hL : Ls ≤ 260) : ∃ r, gp_law_23 Ls xs m0_gh m0_C (fun _ _ => 0) = some (true, r) := by
  obtain ⟨hR, J, h52, h44⟩ := JI_0
  obtain ⟨C1, x1, hR1⟩ := isRefused_ok (A := fun _ _ => 0) hR J.r45 J.ch8 J.pA (X := 0) (by omega)
  obtain ⟨C2, x2, hR2⟩ := isRefused_ok (A := fun _ _ => 0) hR1 J.r45 J.ch8 J.pA (X := 1) (by omega)
  obtain ⟨C3, R3, y1, hR3, J3, y2, -⟩ := t_lastResort (A := fun _ _ => 0) hR2 J (p := 4) (by omega) 0 0 0 0
  obtain ⟨r, hr⟩ := lw_69 (xs := xs) hL 90 0 91 2 m0_gh C3 R3 (fun _ _ => 0) 0 (by omega) (by omega) hR3 J3 (by rw [y2]; exact h52) (by omega)
  refine ⟨r, ?_⟩
  have x1' : gp_isRefused m0_gh m0_C (fun _ _ => 0) 0 = some (true, m0_gh, C1) := x1
  have x2' : gp_isRefused m0_gh C1 (fun _ _ => 0) 1 = some (true, m0_gh, C2) := x2
  have y1' : gp_act m0_gh C2 (fun _ _ => 0) 23 4 0 0 0 0 = some (m0_R 44 0, m0_gh, C3) := y1
  unfold gp_law_23 gp_law_64
  rw [x1', o3k, if_pos rfl, x2', o3k, if_pos rfl, y1', o3k, if_pos h44]
  exact hr
