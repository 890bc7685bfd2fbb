/-! DIFFERENCES, THE REFERENCE -/
/-- row 30 + j holds the hunk i -/
def lrow (M : rv_Mem) (j : Nat) (h : Nat × Nat × Nat × Nat) : Prop := M 55 (30 + j) = nI h.1 ∧ M 57 (30 + j) = nI h.2.1 ∧ M 56 (30 + j) = nI h.2.2.1 ∧ M 58 (30 + j) = nI h.2.2.2
theorem s12_brought {M : rv_Mem} {k67 : rv_Mem → Int32 → Int32 → Int32 → Option rv_Mem} {c1 c2 d1 d2 f k l : Nat} {A B A' B' : List Int32} {g : Int32 → Int32} (hg : wd (rv_z (M 64 0)) = g) (h1 : c1 < 82) (h2 : c2 < 82) (hf : f < 4) (hA : fileR M c1 f A) (hB : fileR M c2 f B) (hA' : fileR M d1 f A') (hB' : fileR M d2 f B') (h3 : d1 < 82) (h4 : d2 < 82)
    (hk3 : k < (hk (A.map g) (B.map g)).length) (hr : hrow M (30 + k) c1 c2 ((hk (A.map g) (B.map g)).getD k hz0)) (hR : hokR M 3 d1 d2 (hk (A'.map g) (B'.map g))) (hl : l ≤ k) :
    ∃ M', f12_laysDifference_88 k67 rv_FU M (nI f) (nI l) (nI (30 + k)) false 45 = k67 M' (nI f) (nI (if brk (A.map g) (B.map g) (A'.map g) (B'.map g) k = true then l else l + 1)) (nI (30 + (k + 1))) ∧ (∀ q, q < 55 ∨ 58 < q → M' q = M q) ∧ (∀ q, 55 ≤ q → q ≤ 58 → ∀ i, i ≠ 30 + l → M' q i = M q i) ∧ lrow M' l ((hk (A.map g) (B.map g)).getD k hz0) := by
  have l7 := hk_len (A.map g) (B.map g)
  have l8 := hk_len (A'.map g) (B'.map g)
  rw [List.length_map] at l7 l8
  have lA := hA.1
  have lA' := hA'.1
  have n3 : M 61 3 = nI (hk (A'.map g) (B'.map g)).length := hR.1
  have in0 : hin A B ((hk (A.map g) (B.map g)).getD k hz0) := by
    have := hsd_at _ _ _ (hk_sd (A.map g) (B.map g)) k _ _ _ _ (H_get hk3)
    simp only [List.length_map] at this
    exact this
  have L := rv_ui (z := (fun _ _ _ _ _ _ => none)) (F := f12_laysDifference_88_s k67) (fun t j b => t M (nI f) (nI l) (nI (30 + k)) b (nI (45 + j))) (hk (A'.map g) (B'.map g)).length (fun j b => b = !ar (fun j => !alk (A.map g) (B.map g) ((hk (A.map g) (B.map g)).getD k hz0) (A'.map g) (B'.map g) ((hk (A'.map g) (B'.map g)).getD j hz0)) 0 j)
    (fun b => k67 (rv_u (rv_u (rv_u (rv_u M 55 (30 + l) (nI ((hk (A.map g) (B.map g)).getD k hz0).1)) 56 (30 + l) (nI ((hk (A.map g) (B.map g)).getD k hz0).2.2.1)) 57 (30 + l) (nI ((hk (A.map g) (B.map g)).getD k hz0).2.1)) 58 (30 + l) (nI ((hk (A.map g) (B.map g)).getD k hz0).2.2.2)) (nI f) (nI (if b = true then l else l + 1)) (nI (30 + (k + 1)))) ?_ ?_ rv_FU 0 false (Nat.zero_le _) (FU_lt (by omega)) rfl
  · obtain ⟨b, x1, x2⟩ := L
    have x1 : b = brk (A.map g) (B.map g) (A'.map g) (B'.map g) k := x1
    rw [← x1]
    refine ⟨_, x2, fun q hq => ?_, fun q q1 q2 i hi => ?_, ?_, ?_, ?_, ?_⟩
    · rw [mu_ne (by omega), mu_ne (by omega), mu_ne (by omega), mu_ne (by omega)]
    · rw [mu_ne2 hi, mu_ne2 hi, mu_ne2 hi, mu_ne2 hi]
    · rw [mu_ne (by omega), mu_ne (by omega), mu_ne (by omega), mu_same]
    · rw [mu_ne (by omega), mu_same]
    · rw [mu_ne (by omega), mu_ne (by omega), mu_same]
    · rw [mu_same]
  · intro t j b hj hI
    have in1 : hin A' B' ((hk (A'.map g) (B'.map g)).getD j hz0) := by
      have := hsd_at _ _ _ (hk_sd (A'.map g) (B'.map g)) j _ _ _ _ (H_get hj)
      simp only [List.length_map] at this
      exact this
    have hr1 : hrow M (45 + j) d1 d2 ((hk (A'.map g) (B'.map g)).getD j hz0) := hR.2 j _ _ _ _ (H_get hj)
    have key := s12_areAlike (M := M) (i := 30 + k) (j := 45 + j) (f := f) hg h1 h2 h3 h4 hf (by omega) (by omega) hA hB hA' hB' hr hr1 in0 in1
    have e45 : 45 + (j + 1) = 45 + j + 1 := by omega
    refine ⟨_, rfl, ?_⟩
    show f12_laysDifference_88_s k67 t M (nI f) (nI l) (nI (30 + k)) b (nI (45 + j)) = _
    unfold f12_laysDifference_88_s f12_laysDifference_119 f12_laysDifference_124
    rw [ar_snoc, Nat.zero_add, Bool.not_and, ← hI, Bool.not_not]
    simp (disch := omega) only [q_3, q_45, q_in, if_pos, q_nc, n3, q_add, q_lt, key, o1_some, q_succ, e45]
    cases b with
    | true => rfl
    | false =>
      rw [if_pos rfl, Bool.false_or]
      cases alk (A.map g) (B.map g) ((hk (A.map g) (B.map g)).getD k hz0) (A'.map g) (B'.map g) ((hk (A'.map g) (B'.map g)).getD j hz0) <;> rfl
  · intro t b hI
    obtain ⟨r1, r2, r3, r4, -, -⟩ := hr
    have e31 : 30 + (k + 1) = 30 + k + 1 := by omega
    show f12_laysDifference_88_s k67 t M (nI f) (nI l) (nI (30 + k)) b (nI (45 + (hk (A'.map g) (B'.map g)).length)) = _
    unfold f12_laysDifference_88_s f12_laysDifference_212
    simp (disch := omega) only [q_3, q_45, q_30, q_in, if_pos, q_nc, n3, q_add, q_lt, Nat.lt_irrefl, if_false, lt_do, mu_ne, r1, r2, r3, r4, q_succ, e31]
    cases b with
    | true => simp only [if_true, rvi_f, q_add, Nat.add_zero]
    | false => simp only [bf_t, if_false, rvi_t, q_add]
theorem s12_leftLoop {M0 : rv_Mem} {c1 c2 d1 d2 f : Nat} {A B A' B' : List Int32} {g : Int32 → Int32} (hg : wd (rv_z (M0 64 0)) = g) (h1 : c1 < 82) (h2 : c2 < 82) (hf : f < 4) (h3 : d1 < 82) (h4 : d2 < 82) (hA : fileR M0 c1 f A) (hB : fileR M0 c2 f B) (hA' : fileR M0 d1 f A') (hB' : fileR M0 d2 f B') (hR2 : hokR M0 2 c1 c2 (hk (A.map g) (B.map g))) (hR3 : hokR M0 3 d1 d2 (hk (A'.map g) (B'.map g))) :
    ∃ M', f12_laysDifference_60 M0 (nI f) = some M' ∧ scr M' M0 ∧ M' 61 2 = nI (LI (brk (A.map g) (B.map g) (A'.map g) (B'.map g)) (hk (A.map g) (B.map g)).length).length ∧ ∀ j i, (LI (brk (A.map g) (B.map g) (A'.map g) (B'.map g)) (hk (A.map g) (B.map g)).length)[j]? = some i → lrow M' j ((hk (A.map g) (B.map g)).getD i hz0) := by
  have l7 := hk_len (A.map g) (B.map g)
  rw [List.length_map] at l7
  have lA := hA.1
  generalize hP : brk (A.map g) (B.map g) (A'.map g) (B'.map g) = P
  refine rv_ux (z := (fun _ _ _ _ => none)) (F := f12_laysDifference_67_s) (fun t k M => t M (nI f) (nI (LI P k).length) (nI (30 + k))) (hk (A.map g) (B.map g)).length (fun k M => (∀ q, q < 55 ∨ 58 < q → M q = M0 q) ∧ (∀ q, 55 ≤ q → q ≤ 58 → ∀ i, i < 30 ∨ 30 + k ≤ i → M q i = M0 q i) ∧ ∀ j i, (LI P k)[j]? = some i → lrow M j ((hk (A.map g) (B.map g)).getD i hz0)) (fun r => ∃ M', r = some M' ∧ scr M' M0 ∧ M' 61 2 = nI (LI P (hk (A.map g) (B.map g)).length).length ∧ ∀ j i, (LI P (hk (A.map g) (B.map g)).length)[j]? = some i → lrow M' j ((hk (A.map g) (B.map g)).getD i hz0)) ?_ ?_ rv_FU 0 M0 (Nat.zero_le _) (FU_lt (by omega)) ⟨fun _ _ => rfl, fun _ _ _ _ _ => rfl, fun j i h => by simp [LI] at h⟩
  · intro t k M hk' ⟨i1, i2, i3⟩
    right
    have ll := LI_len P k
    have e3 : M 3 = M0 3 := i1 3 (by omega)
    have e4 : M 4 = M0 4 := i1 4 (by omega)
    have e59 : M 59 = M0 59 := i1 59 (by omega)
    have e60 : M 60 = M0 60 := i1 60 (by omega)
    have e61 : M 61 = M0 61 := i1 61 (by omega)
    have row2 : hrow M (30 + k) c1 c2 ((hk (A.map g) (B.map g)).getD k hz0) := by
      obtain ⟨a1, a2, a3, a4, a5, a6⟩ := hR2.2 k _ _ _ _ (H_get hk')
      exact ⟨(i2 55 (by omega) (by omega) _ (by omega)).trans a1, (i2 57 (by omega) (by omega) _ (by omega)).trans a2, (i2 56 (by omega) (by omega) _ (by omega)).trans a3, (i2 58 (by omega) (by omega) _ (by omega)).trans a4, by rw [e59]; exact a5, by rw [e60]; exact a6⟩
    have row3 : hokR M 3 d1 d2 (hk (A'.map g) (B'.map g)) := by
      refine ⟨by rw [e61]; exact hR3.1, fun i p d q e hi => ?_⟩
      obtain ⟨a1, a2, a3, a4, a5, a6⟩ := hR3.2 i p d q e hi
      exact ⟨(i2 55 (by omega) (by omega) _ (by omega)).trans a1, (i2 57 (by omega) (by omega) _ (by omega)).trans a2, (i2 56 (by omega) (by omega) _ (by omega)).trans a3, (i2 58 (by omega) (by omega) _ (by omega)).trans a4, by rw [e59]; exact a5, by rw [e60]; exact a6⟩
    obtain ⟨M', m1, m2, m3, m4⟩ := s12_brought (M := M) (k67 := t) (k := k) (l := (LI P k).length) (by rw [i1 64 (by omega)]; exact hg) h1 h2 hf (fileR_of e3 e4 hA) (fileR_of e3 e4 hB) (fileR_of e3 e4 hA') (fileR_of e3 e4 hB') h3 h4 hk' row2 row3 ll
    rw [hP] at m1
    refine ⟨M', ⟨fun q hq => by rw [m2 q hq, i1 q hq], fun q q1 q2 i hi => by rw [m3 q q1 q2 i (by omega), i2 q q1 q2 i (by omega)], fun j i hji => ?_⟩, ?_⟩
    · rw [LI_s] at hji
      by_cases hp : P k = true
      · rw [if_pos hp] at hji
        have hj := (List.getElem?_eq_some_iff.mp hji).1
        obtain ⟨a1, a2, a3, a4⟩ := i3 j i hji
        exact ⟨(m3 55 (by omega) (by omega) _ (by omega)).trans a1, (m3 57 (by omega) (by omega) _ (by omega)).trans a2, (m3 56 (by omega) (by omega) _ (by omega)).trans a3, (m3 58 (by omega) (by omega) _ (by omega)).trans a4⟩
      · rw [if_neg hp] at hji
        rcases app_at hji with ⟨x1, x2⟩ | ⟨x1, x2⟩
        · obtain ⟨a1, a2, a3, a4⟩ := i3 j i x2
          exact ⟨(m3 55 (by omega) (by omega) _ (by omega)).trans a1, (m3 57 (by omega) (by omega) _ (by omega)).trans a2, (m3 56 (by omega) (by omega) _ (by omega)).trans a3, (m3 58 (by omega) (by omega) _ (by omega)).trans a4⟩
        · rw [x1, x2]; exact m4
    · show f12_laysDifference_67_s t M (nI f) (nI (LI P k).length) (nI (30 + k)) = _
      unfold f12_laysDifference_67_s
      have n2 : M 61 2 = nI (hk (A.map g) (B.map g)).length := by rw [e61]; exact hR2.1
      have el : (LI P (k + 1)).length = if P k = true then (LI P k).length else (LI P k).length + 1 := by rw [LI_s]; split <;> simp
      rw [el, ← m1]
      simp (disch := omega) only [q_2, q_30, q_45, q_in, if_pos, q_nc, n2, q_add, q_lt]
  · intro t M ⟨i1, i2, i3⟩
    have n2 : M 61 2 = nI (hk (A.map g) (B.map g)).length := by rw [i1 61 (by omega)]; exact hR2.1
    refine ⟨rv_u M 61 2 (nI (LI P (hk (A.map g) (B.map g)).length).length), ?_, fun q hq => by rw [mu_ne (by omega), i1 q (by omega)], mu_same _ _ _ _, fun j i hji => ?_⟩
    · show f12_laysDifference_67_s t M (nI f) (nI (LI P _).length) (nI (30 + (hk (A.map g) (B.map g)).length)) = _
      unfold f12_laysDifference_67_s
      simp (disch := omega) only [q_2, q_30, q_in, if_pos, q_nc, n2, q_add, q_lt, Nat.lt_irrefl, if_false, lt_do]
    · obtain ⟨a1, a2, a3, a4⟩ := i3 j i hji
      exact ⟨by rw [mu_ne (by omega)]; exact a1, by rw [mu_ne (by omega)]; exact a2, by rw [mu_ne (by omega)]; exact a3, by rw [mu_ne (by omega)]; exact a4⟩
theorem s12_laysDifference {M0 : rv_Mem} {c1 c2 b1 b2 f : Nat} {A B A' B' : List Int32} {g : Int32 → Int32} (hg : wd (rv_z (M0 64 0)) = g) (h1 : c1 < 82) (h2 : c2 < 82) (h3 : b1 < 82) (h4 : b2 < 82) (hf : f < 4) (e1 : M0 2 c1 = nI b1) (e2 : M0 2 c2 = nI b2) (hA : fileR M0 c1 f A) (hB : fileR M0 c2 f B) (hA' : fileR M0 b1 f A') (hB' : fileR M0 b2 f B') (hs : b1 = b2 → A' = B') :
    ∃ M', f12_laysDifference M0 (nI c1) (nI c2) (nI f) = some M' ∧ scr M' M0 ∧ M' 61 2 = nI (LI (brk (A.map g) (B.map g) (A'.map g) (B'.map g)) (hk (A.map g) (B.map g)).length).length ∧ ∀ j i, (LI (brk (A.map g) (B.map g) (A'.map g) (B'.map g)) (hk (A.map g) (B.map g)).length)[j]? = some i → lrow M' j ((hk (A.map g) (B.map g)).getD i hz0) := by
  obtain ⟨M1, p1, p2, p3, p4, p5⟩ := s12_laysHunks (M0 := M0) (w := 2) (by omega) h1 h2 hf hA hB
  rw [hg] at p5
  have y2 : M1 2 = M0 2 := p2 2 (by omega)
  have y3 : (rv_u M1 61 3 (nI 0)) 3 = M0 3 := by rw [mu_ne (by omega)]; exact p2 3 (by omega)
  have y4 : (rv_u M1 61 3 (nI 0)) 4 = M0 4 := by rw [mu_ne (by omega)]; exact p2 4 (by omega)
  have y64 : (rv_u M1 61 3 (nI 0)) 64 = M0 64 := by rw [mu_ne (by omega)]; exact p2 64 (by omega)
  have f2 : hokR (rv_u M1 61 3 (nI 0)) 2 c1 c2 (hk (A.map g) (B.map g)) := by
    refine ⟨by rw [mu_ne2 (by omega)]; exact p5.1, fun i p d q e hi => ?_⟩
    have := p5.2 i p d q e hi
    rw [mu_ne (by omega), mu_ne (by omega), mu_ne (by omega), mu_ne (by omega), mu_ne (by omega), mu_ne (by omega)]
    exact this
  have start : f12_laysDifference M0 (nI c1) (nI c2) (nI f) = if b1 = b2 then f12_laysDifference_60 (rv_u M1 61 3 (nI 0)) (nI f) else rv_o1 (f12_laysHunks (rv_u M1 61 3 (nI 0)) (nI 3) (nI b1) (nI b2) (nI f)) (fun M3 => f12_laysDifference_60 M3 (nI f)) := by
    unfold f12_laysDifference
    show rv_o1 (f12_laysHunks M0 (nI 2) _ _ _) _ = _
    rw [p1, o1_some]
    unfold f12_laysDifference_28
    have z2 : (rv_u M1 61 3 (nI 0)) 2 = M0 2 := by rw [mu_ne (by omega)]; exact y2
    simp (disch := omega) only [q_0, q_3, q_in, if_pos, q_nc, y2, z2, e1, e2, q_eq, lt_do, if_true, bf_t, if_false]
    by_cases e : b1 = b2
    · rw [if_neg (fun z => z e), if_pos e]
    · rw [if_pos e, if_neg e]
  rw [start]
  by_cases e : b1 = b2
  · rw [if_pos e]
    have hn : hk (A'.map g) (B'.map g) = [] := by rw [hs e]; exact hk_self _
    obtain ⟨M', m1, m2, m3, m4⟩ := s12_leftLoop (M0 := rv_u M1 61 3 (nI 0)) (g := g) (by rw [y64]; exact hg) h1 h2 hf h3 h4 (fileR_of y3 y4 hA) (fileR_of y3 y4 hB) (fileR_of y3 y4 hA') (fileR_of y3 y4 hB') f2 ⟨by rw [mu_same, hn]; rfl, fun i p d q e hi => by rw [hn] at hi; simp at hi⟩
    exact ⟨M', m1, fun q hq => by rw [m2 q hq, mu_ne (by omega), p2 q hq], m3, m4⟩
  · rw [if_neg e]
    obtain ⟨M2, q1, q2, q3, q4, q5⟩ := s12_laysHunks (M0 := rv_u M1 61 3 (nI 0)) (w := 3) (by omega) h3 h4 hf (fileR_of y3 y4 hA') (fileR_of y3 y4 hB')
    rw [y64, hg] at q5
    rw [q1, o1_some]
    have z3 : M2 3 = M0 3 := (q2 3 (by omega)).trans y3
    have z4 : M2 4 = M0 4 := (q2 4 (by omega)).trans y4
    have z64 : M2 64 = M0 64 := (q2 64 (by omega)).trans y64
    have f3 : hokR M2 2 c1 c2 (hk (A.map g) (B.map g)) := by
      have ll := hk_len (A.map g) (B.map g)
      rw [List.length_map] at ll
      have lA := hA.1
      refine ⟨by rw [q4 2 (by omega)]; exact f2.1, fun i p d q e hi => ?_⟩
      have hi2 := (List.getElem?_eq_some_iff.mp hi).1
      have := f2.2 i p d q e hi
      rw [q3 55 (by omega) (by omega) _ (by omega), q3 56 (by omega) (by omega) _ (by omega), q3 57 (by omega) (by omega) _ (by omega), q3 58 (by omega) (by omega) _ (by omega), q3 59 (by omega) (by omega) _ (by omega), q3 60 (by omega) (by omega) _ (by omega)]
      exact this
    obtain ⟨M', m1, m2, m3, m4⟩ := s12_leftLoop (M0 := M2) (g := g) (by rw [z64]; exact hg) h1 h2 hf h3 h4 (fileR_of z3 z4 hA) (fileR_of z3 z4 hB) (fileR_of z3 z4 hA') (fileR_of z3 z4 hB') f3 q5
    exact ⟨M', m1, fun q hq => by rw [m2 q hq, q2 q hq, mu_ne (by omega), p2 q hq], m3, m4⟩
