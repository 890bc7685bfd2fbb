/-! isRefused, from its begin -/
section
variable {n : Nat} {gh : rC_gh} {C R A : rv_Mem}
theorem ir_129 (hR : Rn n gh C R) (h45 : R 45 0 = nI 1) (hch : gh.1 0 ≤ 8) (hA : A 2 0 = nI (gh.1 1)) {r : Nat} (hr : r < 30) {x3 x5 x6 x7 x8 x9 : Int32} {low : Bool} (h3 : x3 - x3 / 30 * 30 = nI r) (h5 : Wr x5 6) (h6 : Wr x6 (gh.1 0)) (h7 : Wr x7 n) (h8 : Wr x8 4) (h9 : Wr x9 2) : ∃ C', gp_isRefused_129 A gh C x3 low x5 x6 x7 x8 x9 = some (true, gh, C') ∧ Rn n gh C' R := by
  have hn := hR.n80
  have hcm := hR.cnt.2.2.2.2.2.1
  obtain ⟨v, hv⟩ := av_all (n := n) (gh := gh) (R := R) (A := A) hR.ch20
  obtain ⟨⟨s1, s2, -⟩, -, -⟩ := fil_files hR.fil (c := 80) (f := 3) (Or.inr rfl) (by omega)
  have esz : gp_size gh C A (-1) 3 = some (nI (fl R 80 3).length, C) := ak_size hR (x := -1) (c := 80) (f := 3) (Or.inr ⟨rfl, rfl⟩) (by omega)
  generalize (fl R 80 3).length = s at s1 s2 esz
  have s2 : C 15 323 = nI s := s2
  obtain ⟨C1, e17, hR1⟩ := rf_17x (A := A) (c := 0) (d := 0) hR h45 (by omega)
  have h46 : C1 4 6 = nI 1 := by
    obtain ⟨nr, -, n2, n3, n4, -⟩ := hR1.rules'
    rw [h45, q_eq (by omega) (by omega)] at n4
    rw [n3, ← n4]
  obtain ⟨C2, e2, hR2⟩ := ir_loop (A := A) (low := low) hR.ch20 hv hr h3 h5 h6 h8 h9 (gh.1 0) 0 9 C1 hR1 (Nat.zero_add _) (by omega)
  refine ⟨C2, ?_, hR2⟩
  have lo7 : ¬ (8 : Int32) ≤ 7 - nI r := (by decide : ∀ r, r < 30 → ¬ (8 : Int32) ≤ 7 - nI r) r hr
  have lo0 : ¬ (1 : Int32) ≤ 0 - nI r := (by decide : ∀ r, r < 30 → ¬ (1 : Int32) ≤ 0 - nI r) r hr
  have a0 := rf_0 (A := A) (a := 0) (b := 0) (c := 0) (d := 0) hR h7
  have a1 := rf_1 (gh := gh) (C := C) (A := A) (a := 0) (b := 0) (c := 0) (d := 0) h6
  have a2 := rf_2f (gh := gh) (C := C) (A := A) (a := 0) (b := -1) (c := 0) (d := 0) h8
  have a4 := rf_4 (gh := gh) (C := C) (A := A) (a := 0) (b := 0) (c := 0) (d := 0) h5
  have a5 := rf_5 (gh := gh) (C := C) (A := A) (b := 0) (c := 0) (d := 0) h6
  have a6 := rf_6 (gh := gh) (C := C) (A := A) (a := x6) (b := 0) (c := 0) (d := 0) h5
  have a7 := rf_7 (gh := gh) (C := C) (A := A) (b := 0) (c := 0) (d := 0) h6
  have a8 := rf_8 (gh := gh) (C := C) (A := A) (a := 0) (b := 0) (c := 0) (d := 0) h6
  have a9 := rf_9 (gh := gh) (C := C) (A := A) (c := 0) (d := 0) h6
  have a10 := rf_10 (gh := gh) (C := C) (A := A) (a := -5) (b := 0) (c := 0) (d := 0) h6
  have a12 := rf_12 (gh := gh) (C := C) (A := A) (a := x6) (b := 0) (c := 0) (d := 0) h5
  have a13 := rf_13 (gh := gh) (C := C) (A := A) (a := -1) (b := 0) (c := 0) (d := 0) h6
  have a14 := rf_14r (gh := gh) (C := C) (A := A) (a := 0) (b := -1) (d := 0) h9
  have a16 := rf_16l (gh := gh) (C := C) (A := A) (a := 0) (b := 0) (c := 0) (d := 0) h9
  have a19 := rf_19r (gh := gh) (C := C1) (A := A) (a := 9) (b := 0) (c := 0) (d := 0) h9
  have a20 := rf_20 (gh := gh) (C := C1) (A := A) (a := 0) (b := 0) (c := 0) (d := 0) h5
  have a21 := rf_21 (gh := gh) (C := C1) (A := A) (b := 0) (c := 0) (d := 0) h6
  have a23 := rf_23 (gh := gh) (C := C1) (A := A) (a := 0) (b := 0) (c := 0) (d := 0) h5
  have a24 := rf_24 (gh := gh) (C := C1) (A := A) (a := 0) (c := 0) (d := 0) h9
  have a25 := rf_25 (gh := gh) (C := C1) (A := A) (a := 0) (c := 0) (d := 0) h5
  have ac := rf_c (gh := gh) (C := C1) (A := A) (a := 0) (b := 0) (c := 0) (d := 0) h6
  have af := rf_f (gh := gh) (C := C1) (A := A) (a := 0) (b := 0) (c := 0) (d := 0) (e := 500) h6
  have e2 : gp_isRefused_978 A 9 gh C1 x3 low x5 x6 x8 x9 v true 0 = some (true, gh, C2) := e2
  unfold gp_isRefused_129
  rw [hv C hR, o2_some, a0, o3k, if_pos rfl, a1, o3k, if_pos rfl, a2, o3k, if_pos rfl]
  cases low with
  | true =>
    rw [if_pos rfl, h3]
    unfold gp_isRefused_213
    rw [rf_2p s2 s1 (Wr.lo1 _ r hr), o3k, if_pos rfl, if_pos rfl, h3]
    unfold gp_isRefused_246
    rw [rf_2l s2 s1 (Wr.lo1 _ r hr), o3k, if_pos rfl, if_pos rfl]
    unfold gp_isRefused_275
    rw [rf_3 s2 s1 (Wr.lo _), o3k, if_pos rfl, a4, o3k, if_pos rfl, a5, o3k, if_pos rfl, a6, o3k, if_pos rfl, a7, o3k, if_pos rfl, a8, o3k, if_pos rfl, a9, o3k, if_pos rfl, a10, o3k, if_pos rfl, if_pos rfl, h3]
    unfold gp_isRefused_439
    rw [rf_11 (Wr.lo1 _ r hr), o3k, if_pos rfl, a12, o3k, if_pos rfl, a13, o3k, if_pos rfl, a14, o3k, if_pos rfl, if_pos rfl]
    unfold gp_isRefused_521
    rw [rf_14l (Wr.lo _), o3k, if_pos rfl, if_pos rfl, h3]
    unfold gp_isRefused_554
    rw [rf_14p (Wr.lo1 _ r hr), o3k, if_pos rfl, a16, o3k, if_pos rfl, if_pos rfl]
    unfold gp_isRefused_599
    rw [rf_16v (Wr.lo _), o3k, if_pos rfl, if_pos rfl, h3]
    unfold gp_isRefused_630
    rw [rf_17s (Or.inl lo7), o3k, if_pos rfl, if_pos rfl, h3]
    unfold gp_isRefused_664
    rw [rf_17m (Wr.lo1 _ r hr), o3k, if_pos rfl, if_pos rfl, h3]
    unfold gp_isRefused_698
    rw [rf_17n (Wr.lo1 _ r hr), o3k, if_pos rfl, e17, o3k, if_pos rfl, if_pos rfl, h3]
    unfold gp_isRefused_752
    rw [rf_18 h46 (by omega) (Wr.lo1 _ r hr), o3k, if_pos rfl, a19, o3k, if_pos rfl, if_pos rfl]
    unfold gp_isRefused_798
    rw [rf_19w (Wr.lo _), o3k, if_pos rfl, a20, o3k, if_pos rfl, a21, o3k, if_pos rfl, if_pos rfl, h3]
    unfold gp_isRefused_865
    rw [rf_22 (Or.inl lo0), o3k, if_pos rfl, a23, o3k, if_pos rfl, a24, o3k, if_pos rfl, a25, o3k, if_pos rfl, ac, o3k, if_pos rfl, af, o3k, if_pos rfl]
    exact e2
  | false =>
    rw [if_neg (by simp), esz, o2_some, q_succ]
    unfold gp_isRefused_213
    rw [rf_2p s2 s1 Wr.at, o3k, if_pos rfl, if_neg (by simp)]
    unfold gp_isRefused_246
    rw [rf_2l s2 s1 (show Wr 400 400 from Wr.at), o3k, if_pos rfl, if_neg (by simp), esz, o2_some]
    unfold gp_isRefused_275
    rw [rf_3 s2 s1 Wr.at, o3k, if_pos rfl, a4, o3k, if_pos rfl, a5, o3k, if_pos rfl, a6, o3k, if_pos rfl, a7, o3k, if_pos rfl, a8, o3k, if_pos rfl, a9, o3k, if_pos rfl, a10, o3k, if_pos rfl, if_neg (by simp), if_pos (show rv_in (0 : Int32) (lk_n 2) = true from rfl), h3, show A 2 (0 : Int32).toNatClampNeg = nI (gh.1 1) from hA]
    unfold gp_isRefused_439
    rw [rf_11 (Wr.hi (by omega)), o3k, if_pos rfl, a12, o3k, if_pos rfl, a13, o3k, if_pos rfl, a14, o3k, if_pos rfl, if_neg (by simp)]
    unfold gp_isRefused_521
    rw [rf_14l (show Wr 7 7 from Wr.at), o3k, if_pos rfl, if_neg (by simp)]
    unfold gp_isRefused_554
    rw [rf_14p (show Wr 64 64 from Wr.at), o3k, if_pos rfl, a16, o3k, if_pos rfl, if_neg (by simp)]
    unfold gp_isRefused_599
    rw [rf_16v (show Wr 32 32 from Wr.at), o3k, if_pos rfl, if_neg (by simp)]
    unfold gp_isRefused_630
    rw [rf_17s (Or.inr (by decide)), o3k, if_pos rfl, if_neg (by simp)]
    unfold gp_isRefused_664
    rw [rf_17m (show Wr 65536 65536 from Wr.at), o3k, if_pos rfl, if_neg (by simp)]
    unfold gp_isRefused_698
    rw [rf_17n (show Wr 65536 65536 from Wr.at), o3k, if_pos rfl, e17, o3k, if_pos rfl, if_neg (by simp), h3]
    unfold gp_isRefused_752
    rw [rf_18 h46 (by omega) (show Wr (1 + nI r) 1 from Wr.hi (N := 1) (by omega)), o3k, if_pos rfl, a19, o3k, if_pos rfl, if_neg (by simp)]
    unfold gp_isRefused_798
    rw [rf_19w (show Wr 3 3 from Wr.at), o3k, if_pos rfl, a20, o3k, if_pos rfl, a21, o3k, if_pos rfl, if_neg (by simp)]
    unfold gp_isRefused_865
    rw [rf_22 (Or.inr (by decide)), o3k, if_pos rfl, a23, o3k, if_pos rfl, a24, o3k, if_pos rfl, a25, o3k, if_pos rfl, ac, o3k, if_pos rfl, af, o3k, if_pos rfl]
    exact e2
/-- everything that is wrong is refused, and nothing is changed -/
theorem isRefused_ok (hR : Rn n gh C R) (h45 : R 45 0 = nI 1) (hch : gh.1 0 ≤ 8) (hA : A 2 0 = nI (gh.1 1)) {X : Nat} (hX : X < 2147483648) : ∃ C', gp_isRefused gh C A (nI X) = some (true, gh, C') ∧ Rn n gh C' R := by
  have hn := hR.n80
  have h3 : nI X - nI X / 30 * 30 = nI (X % 30) := q_rem (L := 30) (d := 30) rfl hX (by omega) (by omega)
  have hr : X % 30 < 30 := Nat.mod_lt _ (by omega)
  unfold gp_isRefused
  rw [q_rem (L := 2) (d := 2) rfl hX (by omega) (by omega)]
  by_cases c : X % 2 = 0
  · rw [if_pos (by rw [c]; rfl)]
    unfold gp_isRefused_11
    rw [if_pos rfl]
    unfold gp_isRefused_34
    rw [if_pos rfl]
    unfold gp_isRefused_59
    rw [if_pos rfl]
    unfold gp_isRefused_85
    rw [if_pos rfl]
    unfold gp_isRefused_107
    rw [if_pos rfl]
    rw [h3]
    exact ir_129 hR h45 hch hA hr h3 (Wr.lo1 _ _ hr) (Wr.lo1 _ _ hr) (Wr.lo2 _ _ hr) (Wr.lo1 _ _ hr) (Wr.lo1 _ _ hr)
  · rw [if_neg (by rw [q_0, q_eq (by omega) (by omega)]; exact c)]
    unfold gp_isRefused_11
    rw [if_neg (by simp)]
    unfold gp_isRefused_34 f11_changes
    rw [if_neg (by simp), o1_some]
    unfold gp_isRefused_59
    rw [if_neg (by simp), ak_commits hR, o1_some]
    unfold gp_isRefused_85
    rw [if_neg (by simp)]
    unfold gp_isRefused_107
    rw [if_neg (by simp)]
    rw [h3]
    exact ir_129 hR h45 hch hA hr h3 (show Wr (6 + nI (X % 30)) 6 from Wr.hi (N := 6) (by omega)) (Wr.hi (by omega)) (Wr.hi (by omega)) (show Wr (4 + nI (X % 30)) 4 from Wr.hi (N := 4) (by omega)) (show Wr (2 + nI (X % 30)) 2 from Wr.hi (N := 2) (by omega))
end
