/-! THE FIXED FILE -/
def gcs1 (md : Nat → Option (Nat × List Int32)) (k : Nat) (s : Nat × List Int32) : Nat × List Int32 := match md k with
  | some x => (k + x.1, s.2 ++ x.2)
  | none => s
def gcs (md : Nat → Option (Nat × List Int32)) (O : List Int32) (k : Nat) (s : Nat × List Int32) : Nat × List Int32 := ((gcs1 md k s).1, (gcs1 md k s).2 ++ (if k < O.length ∧ (gcs1 md k s).1 ≤ k then [O.getD k 0] else []))
def ggd (md : Nat → Option (Nat × List Int32)) (O : List Int32) : List Int32 := (up (gcs md O) (O.length + 1) 0 (0, [])).2
theorem gcs1_len {md : Nat → Option (Nat × List Int32)} {k : Nat} {s : Nat × List Int32} : s.2.length ≤ (gcs1 md k s).2.length := by
  unfold gcs1
  cases md k with
  | some x => simp
  | none => exact Nat.le_refl _
theorem gcs_len {md : Nat → Option (Nat × List Int32)} {O : List Int32} {k : Nat} {s : Nat × List Int32} : (gcs1 md k s).2.length ≤ (gcs md O k s).2.length := by
  unfold gcs
  simp
theorem gup_len {md : Nat → Option (Nat × List Int32)} {O : List Int32} : ∀ d k s, s.2.length ≤ (up (gcs md O) d k s).2.length
  | 0, _, s => Nat.le_refl _
  | d + 1, k, s => Nat.le_trans (Nat.le_trans gcs1_len gcs_len) (gup_len d (k + 1) (gcs md O k s))
theorem ggd_len {md : Nat → Option (Nat × List Int32)} {O : List Int32} {k : Nat} (h : k ≤ O.length + 1) : (up (gcs md O) k 0 (0, [])).2.length ≤ (ggd md O).length := by
  unfold ggd
  rw [show O.length + 1 = k + (O.length + 1 - k) by omega, up_add]
  exact gup_len _ _ _
def fxB (R : rv_Mem) (h : Nat) (x : Int32) (f p u : Nat) : Bool := chs R h x u && (decide (ff R u = f) && decide (fa R u = p))
def fmd (R : rv_Mem) (h F : Nat) (x : Int32) (f : Nat) (p : Nat) : Option (Nat × List Int32) := match (List.range F).find? (fxB R h x f p) with
  | some u => some (fk R u, if R 40 u = NO then [] else [R 40 u])
  | none => none
theorem fxB_iff {R : rv_Mem} {h : Nat} {x : Int32} {f p u : Nat} : fxB R h x f p u = true ↔ isFx R h x f p u := by
  unfold fxB isFx
  rw [Bool.and_eq_true, Bool.and_eq_true, decide_eq_true_iff, decide_eq_true_iff]
theorem fmd_some {R : rv_Mem} {h F : Nat} {x : Int32} {f p u : Nat} (hn : ¬ someT R h F x) (hu : u < F) (hx : isFx R h x f p u) : fmd R h F x f p = some (fk R u, if R 40 u = NO then [] else [R 40 u]) := by
  unfold fmd
  cases hh : (List.range F).find? (fxB R h x f p) with
  | none =>
    have := List.find?_eq_none.mp hh u (List.mem_range.mpr hu)
    exact absurd (fxB_iff.mpr hx) this
  | some v =>
    have h1 := fxB_iff.mp (List.find?_some hh)
    have h2 := List.mem_range.mp (List.mem_of_find?_eq_some hh)
    have e : v = u := by
      apply Classical.byContradiction
      intro z
      apply hn
      have t : ∀ a b, isFx R h x f p a → isFx R h x f p b → tch R a b = true := fun a b ha hb => by
        unfold tch
        rw [ha.2.1, hb.2.1, ha.2.2, hb.2.2]
        simp
      rcases Nat.lt_or_gt_of_ne z with c | c
      · exact ⟨u, v, c, hu, hx.1, h1.1, t u v hx h1⟩
      · exact ⟨v, u, c, h2, h1.1, hx.1, t v u h1 hx⟩
    rw [e]
theorem fmd_none {R : rv_Mem} {h F : Nat} {x : Int32} {f p : Nat} (hn : ∀ u, u < F → ¬ isFx R h x f p u) : fmd R h F x f p = none := by
  unfold fmd
  rw [List.find?_eq_none.mpr (fun u hu => fun z => hn u (List.mem_range.mp hu) (fxB_iff.mp z))]
theorem s11_fixedFile {n : Nat} {gh : rC_gh} {C R M0 : rv_Mem} (hR : Rn n gh C R) {h f c : Nat} {x : Int32} {L : Int64} {O : List Int32} (hM : ∀ k, 400 ≤ k → M0 k = C k) (hf : f < 4) (hc : c < 81) (hO : fileC M0 c f O) (hL : ∀ u, u < 40 → (bl L u = true ↔ u < gh.1 2 ∧ chs R h x u = true)) (hn : ¬ someT R h (gh.1 2) x) : ∃ ok M', f11_makeFixedFile gh M0 (nI c) (nI f) L = some (ok, M') ∧ mfr f M' M0 ∧ (ok = true ↔ (ggd (fmd R h (gh.1 2) x f) O).length ≤ 10) ∧ (ok = true → fileC M' 81 f (ggd (fmd R h (gh.1 2) x f) O)) := by
  have hF := hR.cnt.2.2.2.2.2.2.2.1
  have lO := hO.1
  have badE : ∀ (M : rv_Mem), mfr f M M0 → 10 < (ggd (fmd R h (gh.1 2) x f) O).length → ∃ ok M', some (false, M) = some (ok, M') ∧ mfr f M' M0 ∧ (ok = true ↔ (ggd (fmd R h (gh.1 2) x f) O).length ≤ 10) ∧ (ok = true → fileC M' 81 f (ggd (fmd R h (gh.1 2) x f) O)) := fun M hM hl => ⟨false, M, rfl, hM, ⟨fun z => (by cases z), fun z => absurd z (by omega)⟩, fun z => (by cases z)⟩
  have fO : ∀ M, mfr f M M0 → fileC M c f O := fun M hM => ⟨lO, by rw [hM.2.1 _ (by omega)]; exact hO.2.1, fun p hp => by rw [hM.2.2 _ (by omega)]; exact hO.2.2 p hp⟩
  have own : ∀ (t : rv_Mem → Int32 → Int32 → Int64 → Int32 → Int32 → Int32 → Option (Bool × rv_Mem)) M k x2 out, mfr f M M0 → fileC M 81 f out → k ≤ O.length → x2 ≤ 30 → (f11_makeFixedFile_102 gh t M (nI c) (nI f) L (nI O.length) (nI x2) (nI k) = t M (nI c) (nI f) L (nI O.length) (nI x2) (nI (k + 1)) ∧ ¬ (k < O.length ∧ x2 ≤ k)) ∨ ((k < O.length ∧ x2 ≤ k) ∧ ((out.length < 10 ∧ ∃ M', f11_makeFixedFile_102 gh t M (nI c) (nI f) L (nI O.length) (nI x2) (nI k) = t M' (nI c) (nI f) L (nI O.length) (nI x2) (nI (k + 1)) ∧ mfr f M' M0 ∧ fileC M' 81 f (out ++ [O.getD k 0])) ∨ (out.length = 10 ∧ f11_makeFixedFile_102 gh t M (nI c) (nI f) L (nI O.length) (nI x2) (nI k) = some (false, M)))) := by
    intro t M k x2 out hM hF hk hx
    unfold f11_makeFixedFile_102 f11_makeFixedFile_140
    rw [q_succ]
    by_cases c1 : k < O.length
    · rw [if_pos (show nI k < nI O.length by rw [q_lt (by omega) (by omega)]; exact c1)]
      by_cases c2 : x2 ≤ k
      · right
        refine ⟨⟨c1, c2⟩, ?_⟩
        obtain ⟨o1, o2, o3⟩ := fO M hM
        rw [if_pos (show nI x2 ≤ nI k by rw [q_le (by omega) (by omega)]; exact c2), s9_lineAt (by omega) hf o2 o1 c1, o3 k c1, o1_some]
        rcases s9_addLine (gh := gh) (v := O.getD k 0) hf hF with ⟨l1, M', m1, m2, m3⟩ | ⟨l1, m1⟩
        · left
          refine ⟨l1, M', by rw [m1, o2_some, if_neg (by simp)], mfr_tr m3 hM, m2⟩
        · right
          exact ⟨l1, by rw [m1, o2_some, if_pos rfl]⟩
      · left
        exact ⟨by rw [if_neg (show ¬ nI x2 ≤ nI k by rw [q_le (by omega) (by omega)]; exact c2)], fun z => c2 z.2⟩
    · left
      exact ⟨by rw [if_neg (show ¬ nI k < nI O.length by rw [q_lt (by omega) (by omega)]; exact c1)], fun z => c1 z.1⟩
  have place : ∀ (t : rv_Mem → Int32 → Int32 → Int64 → Int32 → Int32 → Int32 → Option (Bool × rv_Mem)) M k x2 out, mfr f M M0 → fileC M 81 f out → k ≤ O.length → x2 ≤ 20 → (∃ M', f11_makeFixedFile_25_s gh t M (nI c) (nI f) L (nI O.length) (nI x2) (nI k) = f11_makeFixedFile_102 gh t M' (nI c) (nI f) L (nI O.length) (nI (gcs1 (fmd R h (gh.1 2) x f) k (x2, out)).1) (nI k) ∧ mfr f M' M0 ∧ fileC M' 81 f (gcs1 (fmd R h (gh.1 2) x f) k (x2, out)).2 ∧ (gcs1 (fmd R h (gh.1 2) x f) k (x2, out)).1 ≤ 20) ∨ (10 < (gcs1 (fmd R h (gh.1 2) x f) k (x2, out)).2.length ∧ ∃ M', f11_makeFixedFile_25_s gh t M (nI c) (nI f) L (nI O.length) (nI x2) (nI k) = some (false, M') ∧ mfr f M' M0) := by
    intro t M k x2 out hM2 hFi hk2 hx
    have hM' : ∀ q, 400 ≤ q → M q = C q := fun q hq => by rw [hM2.1 q (by omega) (by omega), hM q hq]
    unfold f11_makeFixedFile_25_s
    rw [if_pos (show nI k ≤ nI O.length by rw [q_le (by omega) (by omega)]; exact hk2)]
    rcases s11_fixAt (M := M) hR (p := k) hM' hf (by omega) hL with ⟨u, u1, u2, u3⟩ | ⟨u1, u2⟩
    · obtain ⟨a1, a2, a3, a4, a5, a6, a7, a8, a9, a10⟩ := hR.fnd1 u1
      rw [u3, o1_some, q_no, if_pos (show ¬ nI u = NO by rw [q_no_eq (by omega)]; exact fun z => z), if_pos (q_inb u1 (by omega)), q_nc (by omega), if_pos (is5 u1 hF), show 400 + u + 100 = 500 + u by omega, if_pos (is85 u1 hF), hM' (400 + u) (by omega), a7]
      have em : gcs1 (fmd R h (gh.1 2) x f) k (x2, out) = (k + fk R u, out ++ (if R 40 u = NO then [] else [R 40 u])) := by
        unfold gcs1
        rw [fmd_some hn u1 u2]
      rw [em]
      by_cases c1 : R 40 u = NO
      · left
        rw [if_neg (fun z => z c1), if_pos c1, List.append_nil, hM' (500 + u) (by omega), a6, q_add]
        exact ⟨M, rfl, hM2, hFi, by show k + fk R u ≤ 20; omega⟩
      · rw [if_pos c1, if_neg c1]
        rcases s9_addLine (gh := gh) (v := R 40 u) hf hFi with ⟨l1, M', m1, m2, m3⟩ | ⟨l1, m1⟩
        · left
          have m6 : M' (500 + u) 4 = nI (fk R u) := by rw [m3.1 (500 + u) (by omega) (by omega), hM' (500 + u) (by omega), a6]
          refine ⟨M', ?_, mfr_tr m3 hM2, m2, by show k + fk R u ≤ 20; omega⟩
          rw [m1, o2_some, if_neg (by simp)]
          first
            | rw [m6, q_add]
            | rw [hM' (500 + u) (by omega), a6, q_add]
        · right
          exact ⟨by show 10 < (out ++ [R 40 u]).length; rw [List.length_append, l1]; simp, M, by rw [m1, o2_some, if_pos rfl], hM2⟩
    · left
      have em : gcs1 (fmd R h (gh.1 2) x f) k (x2, out) = (x2, out) := by
        unfold gcs1
        rw [fmd_none u1]
      rw [u2, o1_some, q_no, if_neg (fun z => z rfl), em]
      exact ⟨M, rfl, hM2, hFi, hx⟩
  obtain ⟨Ms, s1, s2, s3⟩ : ∃ Ms, f9_startFile gh M0 (nI f) = some Ms ∧ mfr f Ms M0 ∧ fileC Ms 81 f [] := by
    refine ⟨rv_u M0 15 (324 + f) 0, ?_, ⟨fun q q1 q2 => mu_ne q2, fun i hi => mu_ne2 hi, fun i hi => by rw [mu_ne (by omega)]⟩, by simp, ?_, fun p hp => absurd hp (Nat.not_lt_zero _)⟩
    · unfold f9_startFile
      have e324 : (324 : Int32) + nI f = nI (324 + f) := q_add 324 f
      rw [e324, s9_write (L := 328) (by omega) rfl rfl (by omega), o1_some]
    · rw [show 4 * 81 + f = 324 + f by omega, mu_same]; rfl
  unfold f11_makeFixedFile
  rw [s9_sizeOf (show c < 82 by omega) hf, hO.2.1, o1_some, s1, o1_some]
  refine rv_ux (z := (fun _ _ _ _ _ _ _ => none)) (F := f11_makeFixedFile_25_s gh) (fun t k (s : rv_Mem × Nat) => t s.1 (nI c) (nI f) L (nI O.length) (nI s.2) (nI k)) (O.length + 1) (fun k s => mfr f s.1 M0 ∧ s.2 ≤ 20 ∧ s.2 = (up (gcs (fmd R h (gh.1 2) x f) O) k 0 (0, [])).1 ∧ fileC s.1 81 f (up (gcs (fmd R h (gh.1 2) x f) O) k 0 (0, [])).2) (fun r => ∃ ok M', r = some (ok, M') ∧ mfr f M' M0 ∧ (ok = true ↔ (ggd (fmd R h (gh.1 2) x f) O).length ≤ 10) ∧ (ok = true → fileC M' 81 f (ggd (fmd R h (gh.1 2) x f) O))) ?_ ?_ rv_FU 0 (Ms, 0) (Nat.zero_le _) (FU_lt (by omega)) ⟨s2, Nat.zero_le _, rfl, s3⟩
  · rintro t k ⟨M, x2⟩ hk2 ⟨i1, i2, i3, i4⟩
    have i1 : mfr f M M0 := i1
    have i2 : x2 ≤ 20 := i2
    have i3 : x2 = (up (gcs (fmd R h (gh.1 2) x f) O) k 0 (0, [])).1 := i3
    have i4 : fileC M 81 f (up (gcs (fmd R h (gh.1 2) x f) O) k 0 (0, [])).2 := i4
    have hup : up (gcs (fmd R h (gh.1 2) x f) O) (k + 1) 0 (0, []) = gcs (fmd R h (gh.1 2) x f) O k (x2, (up (gcs (fmd R h (gh.1 2) x f) O) k 0 (0, [])).2) := by
      rw [up_snoc, Nat.zero_add, i3]
    have hml := ggd_len (md := fmd R h (gh.1 2) x f) (O := O) (k := k + 1) (by omega)
    rw [hup] at hml
    generalize (up (gcs (fmd R h (gh.1 2) x f) O) k 0 (0, [])).2 = out at i4 hup hml
    show (∃ ok M', f11_makeFixedFile_25_s gh t M (nI c) (nI f) L (nI O.length) (nI x2) (nI k) = some (ok, M') ∧ _) ∨ ∃ a' : rv_Mem × Nat, _ ∧ f11_makeFixedFile_25_s gh t M (nI c) (nI f) L (nI O.length) (nI x2) (nI k) = _
    have lm := @gcs_len (fmd R h (gh.1 2) x f) O k (x2, out)
    rcases place t M k x2 out i1 i4 (by omega) i2 with ⟨M', m1, m2, m3, m4⟩ | ⟨l1, M', m1, m2⟩
    · rw [m1]
      rcases own t M' k (gcs1 (fmd R h (gh.1 2) x f) k (x2, out)).1 _ m2 m3 (by omega) (by omega) with ⟨e1, e2⟩ | ⟨e2, ⟨l2, M2, e1, e3, e4⟩ | ⟨l2, e1⟩⟩
      · right
        have em : gcs (fmd R h (gh.1 2) x f) O k (x2, out) = ((gcs1 (fmd R h (gh.1 2) x f) k (x2, out)).1, (gcs1 (fmd R h (gh.1 2) x f) k (x2, out)).2) := by
          unfold gcs
          rw [if_neg e2, List.append_nil]
        refine ⟨(M', (gcs1 (fmd R h (gh.1 2) x f) k (x2, out)).1), ⟨m2, m4, by rw [hup, em], by rw [hup, em]; exact m3⟩, e1⟩
      · right
        have em : gcs (fmd R h (gh.1 2) x f) O k (x2, out) = ((gcs1 (fmd R h (gh.1 2) x f) k (x2, out)).1, (gcs1 (fmd R h (gh.1 2) x f) k (x2, out)).2 ++ [O.getD k 0]) := by
          unfold gcs
          rw [if_pos e2]
        refine ⟨(M2, (gcs1 (fmd R h (gh.1 2) x f) k (x2, out)).1), ⟨e3, m4, by rw [hup, em], by rw [hup, em]; exact e4⟩, e1⟩
      · left
        rw [e1]
        have em : (gcs (fmd R h (gh.1 2) x f) O k (x2, out)).2 = (gcs1 (fmd R h (gh.1 2) x f) k (x2, out)).2 ++ [O.getD k 0] := by
          unfold gcs
          rw [if_pos e2]
        rw [em, List.length_append, List.length_singleton] at hml
        exact badE M' m2 (by omega)
    · left
      rw [m1]
      exact badE M' m2 (by omega)
  · rintro t ⟨M, x2⟩ ⟨i1, i2, i3, i4⟩
    have i1 : mfr f M M0 := i1
    have i4 : fileC M 81 f (ggd (fmd R h (gh.1 2) x f) O) := i4
    refine ⟨true, M, ?_, i1, ⟨fun _ => i4.1, fun _ => rfl⟩, fun _ => i4⟩
    show f11_makeFixedFile_25_s gh t M (nI c) (nI f) L (nI O.length) (nI x2) (nI (O.length + 1)) = _
    unfold f11_makeFixedFile_25_s
    rw [if_neg (show ¬ nI (O.length + 1) ≤ nI O.length by rw [q_le (by omega) (by omega)]; omega)]
