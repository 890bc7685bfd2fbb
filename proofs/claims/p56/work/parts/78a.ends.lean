/-! THE LAW: the end of a step -/
/-- a step is made: what holds, holds again; the day is D at most -/
def stO (k69 : rC_gh → rv_Mem → rv_Mem → Bool → Int32 → Option (Bool × rC_gh × rv_Mem × rv_Mem)) (k D : Nat) (e : Option (Bool × rC_gh × rv_Mem × rv_Mem)) : Prop := ∃ n gh C R A, e = k69 gh C A true (nI (k + 1)) ∧ Rn n gh C R ∧ JI n gh R A ∧ ∃ d, R 52 0 = nI d ∧ d ≤ D
section
variable {n n' : Nat} {gh gh' : rC_gh} {C C' R R' M M' A A' : rv_Mem} {Ls : Nat} {xs : Nat → Int32} {k69 : rC_gh → rv_Mem → rv_Mem → Bool → Int32 → Option (Bool × rC_gh × rv_Mem × rv_Mem)}
theorem lw_1869 (hR : Rn n gh C R) (J : JI n gh R A) {k X : Nat} (hk : k < 90) (hX : X < 2147483648) : ∃ C', gp_law_1869 Ls xs k69 gh C A (nI k) (nI X) = k69 gh C' A true (nI (k + 1)) ∧ Rn n gh C' R := by
  have e1 : ∀ C', gp_law_1891 Ls xs k69 gh C' A (nI k) = k69 gh C' A true (nI (k + 1)) := fun C' => by
    unfold gp_law_1891 gp_law_1896
    rw [q_succ]
  unfold gp_law_1869
  rw [show nI k - nI k / 20 * 20 = nI (k % 20) from q_rem (L := 20) (d := 20) rfl (by omega) (by omega) (by omega)]
  by_cases c : k % 20 = 0
  · obtain ⟨C', x1, x2⟩ := isRefused_ok hR J.r45 J.ch8 J.pA (X := X / 3) (by omega)
    refine ⟨C', ?_, x2⟩
    rw [if_pos (by rw [q_0, q_le (by omega) (by omega)]; omega), show nI X / 3 = nI (X / 3) from q_div (L := 3) (d := 3) rfl hX (by omega) (by omega), x1, o3k, if_pos rfl, e1]
  · refine ⟨C, ?_, hR⟩
    rw [if_neg (by rw [q_0, q_le (by omega) (by omega)]; omega), e1]
theorem lw_1835 (hR : Rn n gh C R) (J : JI n gh R A) {k X V : Nat} (hk : k < 90) (hX : X < 2147483648) (hV : V < 2147483648) : ∃ C', gp_law_1835 Ls xs k69 gh C A (nI k) (nI X) (nI V) = k69 gh C' A true (nI (k + 1)) ∧ Rn n gh C' R := by
  have i0 : rv_in (0 : Int32) (lk_n 2) = true := by decide
  have z0 : (0 : Int32).toNatClampNeg = 0 := rfl
  have hcm := hR.cnt.2.2.2.2.2.1
  unfold gp_law_1835
  rw [show nI k - nI k / 2 * 2 = nI (k % 2) from q_rem (L := 2) (d := 2) rfl (by omega) (by omega) (by omega)]
  by_cases c : k % 2 = 0
  · rw [if_pos (by rw [q_0, q_le (by omega) (by omega)]; omega), if_pos i0, z0, J.pA]
    by_cases p0 : gh.1 1 = 0
    · rw [if_neg (fun z => z (by rw [p0]; rfl))]
      exact lw_1869 hR J hk hX
    · have hne : ¬ nI (gh.1 1) = 0 := by rw [q_0, q_eq (by omega) (by omega)]; exact p0
      obtain ⟨C', x1, x2⟩ := isShown_ok hR J (j := V % gh.1 1) (X := V / 60) (Nat.mod_lt _ (by omega)) (by omega)
      obtain ⟨C2, y1, y2⟩ := lw_1869 (Ls := Ls) (xs := xs) (k69 := k69) x2 J hk hX
      refine ⟨C2, ?_, y2⟩
      rw [if_pos hne, if_pos i0, if_neg hne, show nI V - nI V / nI (gh.1 1) * nI (gh.1 1) = nI (V % gh.1 1) from q_rem rfl hV (by omega) (by omega), show nI V / 60 = nI (V / 60) from q_div (L := 60) (d := 60) rfl hV (by omega) (by omega), x1, o2_some, if_pos rfl]
      exact y1
  · rw [if_neg (by rw [q_0, q_le (by omega) (by omega)]; omega)]
    exact lw_1869 hR J hk hX
theorem lw_1801 (hR : Rn n gh C R) (J : JI n gh R A) {k X V m s f : Nat} (hk : k < 90) (hX : X < 2147483648) (hV : V < 2147483648) (hm : gh.1 0 ≠ 0 → m < gh.1 0) (hs : s < 2147483648) (hf : f < 4) : ∃ C', gp_law_1801 Ls xs k69 gh C A (nI k) (nI X) (nI V) (nI m) (nI s) (nI f) (nI (gh.1 0)) = k69 gh C' A true (nI (k + 1)) ∧ Rn n gh C' R := by
  have hc := hR.ch20
  unfold gp_law_1801
  by_cases c : gh.1 0 = 0
  · rw [if_neg (fun z => z (by rw [c]; rfl))]
    exact lw_1835 hR J hk hX hV
  · have hm' := hm c
    obtain ⟨kk, k1, k2, -, k4, -⟩ := hR.sets hm'
    have hne : ¬ nI kk = 0 := by rw [q_0, q_eq (by omega) (by omega)]; omega
    obtain ⟨C', x1, x2⟩ := areHunks_ok (A := A) hR hm' k4 k2 (s := s % kk) (s' := V % kk) (Nat.mod_lt _ (by omega)) (Nat.mod_lt _ (by omega)) hf
    obtain ⟨C2, y1, y2⟩ := lw_1835 (Ls := Ls) (xs := xs) (k69 := k69) x2 J hk hX hV
    refine ⟨C2, ?_, y2⟩
    rw [if_pos (by rw [q_0, q_eq (by omega) (by omega)]; exact c), ak_sets hR hm', x1k, k4, if_neg hne, x1k, if_neg hne, show nI s - nI s / nI kk * nI kk = nI (s % kk) from q_rem rfl hs (by omega) (by omega), show nI V - nI V / nI kk * nI kk = nI (V % kk) from q_rem rfl hV (by omega) (by omega), x1, o2_some, if_pos rfl]
    exact y1
theorem lw_end (hR : Rn n gh C R) (J : JI n gh R A) {k X V m s f D d : Nat} (hk : k < 90) (hX : X < 2147483648) (hV : V < 2147483648) (hm : gh.1 0 ≠ 0 → m < gh.1 0) (hs : s < 2147483648) (hf : f < 4) (hd : R 52 0 = nI d) (hD : d ≤ D) : stO k69 k D (gp_law_1773 Ls xs k69 gh C A true (nI k) (nI X) (nI V) (nI m) (nI s) (nI f)) := by
  obtain ⟨C', x1, x2⟩ := lw_1801 (Ls := Ls) (xs := xs) (k69 := k69) hR J hk hX hV hm hs hf
  refine ⟨n, gh, C', R, A, ?_, x2, J, d, hd, hD⟩
  unfold gp_law_1773
  rw [show f11_changes gh C = some (nI (gh.1 0)) from rfl, o1_some, if_pos rfl, show nI k - nI k / 3 * 3 = nI (k % 3) from q_rem (L := 3) (d := 3) rfl (by omega) (by omega) (by omega)]
  by_cases c : k % 3 = 0
  · rw [if_pos (by rw [q_0, q_le (by omega) (by omega)]; omega), areChanges_ok hR J hV, o2_some, if_pos rfl]
    exact x1
  · rw [if_neg (by rw [q_0, q_le (by omega) (by omega)]; omega)]
    exact x1
end
