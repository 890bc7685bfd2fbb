/-! THE MERGED FILE, the class -/
theorem sl_len {B : List Int32} {q t : Nat} (h : q + t ≤ B.length) : (sl B q t).length = t := by
  unfold sl; simp; omega
theorem sl_succ {B : List Int32} {q t : Nat} (h : q + t < B.length) : sl B q (t + 1) = sl B q t ++ [B.getD (q + t) 0] := by
  unfold sl
  rw [List.take_add_one, List.getElem?_drop, List.getElem?_eq_getElem h, List.getD_eq_getElem?_getD, List.getElem?_eq_getElem h]
  rfl
theorem cmpd_mfr {f o : Nat} {M M0 : rv_Mem} {O A : List Int32} (ho : o = 7 ∨ o = 8) (h : mfr f M M0) (hc : cmpd M0 o O A) : cmpd M o O A := by
  have e := fun q (hq : q ≠ 14 ∧ q ≠ 15) => h.1 q hq.1 hq.2
  unfold cmpd hokC at hc ⊢
  rw [e o (by omega), e (o + 18) (by omega), e (o + 20) (by omega), e (o + 24) (by omega), e (o + 26) (by omega), e (o + 28) (by omega), e (o + 30) (by omega), e (o + 32) (by omega)]
  exact hc
theorem s2_mergedFile {gh : rC_gh} {M0 : rv_Mem} {f : Nat} {O A B : List Int32} (hf : f < 4) (hO : O.length ≤ 10) (hA : A.length ≤ 10) (hB : B.length ≤ 10) (hc : cmpd M0 7 O A) (hc' : cmpd M0 8 O B) : ∃ ok M', f2_makeMergedFile gh M0 (nI f) = some (ok, M') ∧ mfr f M' M0 ∧ (ok = true ↔ (mgd O A B).length ≤ 10) ∧ (ok = true → fileC M' 81 f (mgd O A B)) := by
  have o7 : rC_is gh 4 7 = true := rfl
  have o8 : rC_is gh 4 8 = true := rfl
  -- the bad end
  have badE : ∀ (M : rv_Mem), mfr f M M0 → 10 < (mgd O A B).length → ∃ ok M', some (false, M) = some (ok, M') ∧ mfr f M' M0 ∧ (ok = true ↔ (mgd O A B).length ≤ 10) ∧ (ok = true → fileC M' 81 f (mgd O A B)) := fun M hM hl => ⟨false, M, rfl, hM, ⟨fun z => (by cases z), fun z => absurd z (by omega)⟩, fun z => (by cases z)⟩
  -- a place's own line
  have own : ∀ (t : rv_Mem → Int32 → Int32 → Int32 → Option (Bool × rv_Mem)) M k x2 out, mfr f M M0 → fileC M 81 f out → k ≤ O.length → x2 ≤ 11 → (f2_makeMergedFile_125 gh t M (nI f) (nI x2) (nI k) = t M (nI f) (nI x2) (nI (k + 1)) ∧ ¬ (k < O.length ∧ x2 ≤ k)) ∨ ((k < O.length ∧ x2 ≤ k) ∧ ((out.length < 10 ∧ ∃ M', f2_makeMergedFile_125 gh t M (nI f) (nI x2) (nI k) = t M' (nI f) (nI x2) (nI (k + 1)) ∧ mfr f M' M0 ∧ fileC M' 81 f (out ++ [O.getD k 0])) ∨ (out.length = 10 ∧ f2_makeMergedFile_125 gh t M (nI f) (nI x2) (nI k) = some (false, M)))) := by
    intro t M k x2 out hM hF hk hx
    have hcM := cmpd_mfr (Or.inl rfl) hM hc
    have n8 : M 7 8 = nI O.length := hcM.1
    unfold f2_makeMergedFile_125 f2_makeMergedFile_163
    rw [n8, q_succ]
    by_cases c1 : k < O.length
    · rw [if_pos (by rw [q_lt (by omega) (by omega)]; exact c1)]
      by_cases c2 : x2 ≤ k
      · right
        refine ⟨⟨c1, c2⟩, ?_⟩
        rw [if_pos (by rw [q_le (by omega) (by omega)]; exact c2), if_pos (q_inb (by omega) (by omega)), q_nc (by omega)]
        have hl : M 25 k = O.getD k 0 := hcM.2.2.1 k c1
        rw [hl]
        rcases s9_addLine (gh := gh) (v := O.getD k 0) hf hF with ⟨l1, M', m1, m2, m3⟩ | ⟨l1, m1⟩
        · left
          refine ⟨l1, M', by rw [m1, o2_some, if_neg (by simp)], mfr_tr m3 hM, m2⟩
        · right
          exact ⟨l1, by rw [m1, o2_some, if_pos rfl]⟩
      · left
        exact ⟨by rw [if_neg (by rw [q_le (by omega) (by omega)]; exact c2)], fun z => c2 z.2⟩
    · left
      exact ⟨by rw [if_neg (by rw [q_lt (by omega) (by omega)]; exact c1)], fun z => c1 z.1⟩
  -- a hunk's lines
  have lines : ∀ (t : rv_Mem → Int32 → Int32 → Int32 → Option (Bool × rv_Mem)) M k x2 out o X i, (o = 7 ∨ o = 8) → cmpd M0 o O X → X.length ≤ 10 → i < (hk O X).length → mfr f M M0 → fileC M 81 f out → (∃ M', f2_makeMergedFile_76 gh t rv_FU M (nI f) (nI x2) (nI k) o (nI i) 0 = f2_makeMergedFile_125 gh t M' (nI f) (nI x2) (nI k) ∧ mfr f M' M0 ∧ fileC M' 81 f (out ++ sl X (gH (hk O X) i).2.2.1 (gH (hk O X) i).2.2.2)) ∨ (10 < (out ++ sl X (gH (hk O X) i).2.2.1 (gH (hk O X) i).2.2.2).length ∧ ∃ M', f2_makeMergedFile_76 gh t rv_FU M (nI f) (nI x2) (nI k) o (nI i) 0 = some (false, M') ∧ mfr f M' M0) := by
    intro t M k x2 out o X i ho hcX hX hi hM hF
    have hoo : rC_is gh 4 o = true := by rcases ho with rfl | rfl <;> rfl
    have l7 := hk_len O X
    obtain ⟨r1, r2, r3, r4⟩ := (cmpd_row hcX (H_get hi)).1
    obtain ⟨b1, b2, b3⟩ := (cmpd_row hcX (H_get hi)).2.1
    have r3 : M0 (o + 30) i = nI (gH (hk O X) i).2.2.1 := r3
    have r4 : M0 (o + 32) i = nI (gH (hk O X) i).2.2.2 := r4
    have b2 : (gH (hk O X) i).2.2.1 + (gH (hk O X) i).2.2.2 ≤ X.length := b2
    generalize (gH (hk O X) i).2.2.1 = q at r3 b2 ⊢
    generalize (gH (hk O X) i).2.2.2 = e at r4 b2 ⊢
    refine rv_ux (z := (fun _ _ _ _ _ _ _ => none)) (F := f2_makeMergedFile_76_s gh t) (fun T j M => T M (nI f) (nI x2) (nI k) o (nI i) (nI j)) e (fun j M => mfr f M M0 ∧ fileC M 81 f (out ++ sl X q j)) (fun r => (∃ M', r = f2_makeMergedFile_125 gh t M' (nI f) (nI x2) (nI k) ∧ mfr f M' M0 ∧ fileC M' 81 f (out ++ sl X q e)) ∨ (10 < (out ++ sl X q e).length ∧ ∃ M', r = some (false, M') ∧ mfr f M' M0)) ?_ ?_ rv_FU 0 M (Nat.zero_le _) (FU_lt (by omega)) ⟨hM, by unfold sl; simpa using hF⟩
    · rintro T j M hj ⟨i1, i2⟩
      have a : ∀ q, q ≠ 14 ∧ q ≠ 15 → M q = M0 q := fun q hq => i1.1 q hq.1 hq.2
      have hl : M (o + 20) (q + j) = X.getD (q + j) 0 := by rw [a _ (by omega)]; exact hcX.2.2.2.1 (q + j) (by omega)
      have sh : f2_makeMergedFile_76_s gh t T M (nI f) (nI x2) (nI k) o (nI i) (nI j) = rv_o2 (f9_addLine gh M (nI f) (X.getD (q + j) 0)) (fun r3 M4 => (if r3 = false then (some (false, M4)) else T M4 (nI f) (nI x2) (nI k) o (nI i) (nI (j + 1)))) := by
        unfold f2_makeMergedFile_76_s
        rw [if_pos hoo, if_pos (q_inb (show i < 11 by omega) (by omega)), q_nc (show i < 2147483648 by omega), a (o + 32) (by omega), r4, if_pos (by rw [q_lt (by omega) (by omega)]; exact hj), if_pos (q_inb (show i < 11 by omega) (by omega)), a (o + 30) (by omega), r3, q_add, if_pos (q_inb (show q + j < 10 by omega) (by omega)), q_nc (by omega), hl, q_succ]
      have e1 : out ++ sl X q (j + 1) = (out ++ sl X q j) ++ [X.getD (q + j) 0] := by rw [sl_succ (by omega), List.append_assoc]
      rcases s9_addLine (gh := gh) (v := X.getD (q + j) 0) hf i2 with ⟨l1, M', m1, m2, m3⟩ | ⟨l1, m1⟩
      · right
        refine ⟨M', ⟨mfr_tr m3 i1, by rw [e1]; exact m2⟩, ?_⟩
        show f2_makeMergedFile_76_s gh t T M (nI f) (nI x2) (nI k) o (nI i) (nI j) = _
        rw [sh, m1, o2_some, if_neg (by simp)]
      · left; right
        refine ⟨?_, M, ?_, i1⟩
        · rw [List.length_append, sl_len (by omega)] at l1 ⊢
          omega
        · show f2_makeMergedFile_76_s gh t T M (nI f) (nI x2) (nI k) o (nI i) (nI j) = _
          rw [sh, m1, o2_some, if_pos rfl]
    · rintro T M ⟨i1, i2⟩
      left
      refine ⟨M, ?_, i1, i2⟩
      have a : ∀ q, q ≠ 14 ∧ q ≠ 15 → M q = M0 q := fun q hq => i1.1 q hq.1 hq.2
      show f2_makeMergedFile_76_s gh t T M (nI f) (nI x2) (nI k) o (nI i) (nI e) = _
      unfold f2_makeMergedFile_76_s
      rw [if_pos hoo, if_pos (q_inb (show i < 11 by omega) (by omega)), q_nc (show i < 2147483648 by omega), a (o + 32) (by omega), r4, if_neg (by rw [q_lt (by omega) (by omega)]; omega)]
  -- a place
  have place : ∀ (t : rv_Mem → Int32 → Int32 → Int32 → Option (Bool × rv_Mem)) M k x2 out, mfr f M M0 → fileC M 81 f out → k ≤ O.length → x2 ≤ 10 → (∃ M', f2_makeMergedFile_12_s gh t M (nI f) (nI x2) (nI k) = f2_makeMergedFile_125 gh t M' (nI f) (nI (mcs1 O A B k (x2, out)).1) (nI k) ∧ mfr f M' M0 ∧ fileC M' 81 f (mcs1 O A B k (x2, out)).2 ∧ (mcs1 O A B k (x2, out)).1 ≤ 10) ∨ (10 < (mcs1 O A B k (x2, out)).2.length ∧ ∃ M', f2_makeMergedFile_12_s gh t M (nI f) (nI x2) (nI k) = some (false, M') ∧ mfr f M' M0) := by
    intro t M k x2 out hM hF hk2 hx
    have n8 : M 7 8 = nI O.length := (cmpd_mfr (Or.inl rfl) hM hc).1
    have hunk : ∀ o X i, (o = 7 ∨ o = 8) → cmpd M0 o O X → X.length ≤ 10 → i < (hk O X).length → f3_hunkFrom gh M o (nI k) = some (nI i) → (gH (hk O X) i).1 = k → f2_makeMergedFile_46 gh t M (nI f) (nI x2) (nI k) o = f2_makeMergedFile_76 gh t rv_FU M (nI f) (nI (k + (gH (hk O X) i).2.1)) (nI k) o (nI i) 0 ∧ k + (gH (hk O X) i).2.1 ≤ O.length := by
      intro o X i ho hcX hX hi hh hik
      have hoo : rC_is gh 4 o = true := by rcases ho with rfl | rfl <;> rfl
      have l7 := hk_len O X
      obtain ⟨r1, r2, r3, r4⟩ := (cmpd_row (cmpd_mfr ho hM hcX) (H_get hi)).1
      obtain ⟨b1, b2, b3⟩ := (cmpd_row hcX (H_get hi)).2.1
      have b1 : (gH (hk O X) i).1 + (gH (hk O X) i).2.1 ≤ O.length := b1
      have r2 : M (o + 28) i = nI (gH (hk O X) i).2.1 := r2
      refine ⟨?_, by omega⟩
      unfold f2_makeMergedFile_46
      rw [if_pos hoo, hh, o1_some, q_no, if_pos (by rw [q_no_eq (by omega)]; exact fun z => z), if_pos (q_inb (show i < 11 by omega) (by omega)), q_nc (by omega), r2, q_add]
    have e0 : f2_makeMergedFile_12_s gh t M (nI f) (nI x2) (nI k) = rv_o1 (f3_hunkFrom gh M 7 (nI k)) (fun r2 => (if ¬ r2 = (-1) then f2_makeMergedFile_46 gh t M (nI f) (nI x2) (nI k) 7 else f2_makeMergedFile_46 gh t M (nI f) (nI x2) (nI k) 8)) := by
      unfold f2_makeMergedFile_12_s
      rw [n8, if_pos (by rw [q_le (by omega) (by omega)]; exact hk2)]
    rw [e0]
    have hcM := cmpd_mfr (Or.inl rfl) hM hc
    have hcM' := cmpd_mfr (Or.inr rfl) hM hc'
    have hkat : ∀ X h, hat (hk O X) k = some h → h.1 = k := fun X h hh => by
      have := List.find?_some hh
      simpa using this
    rcases s3_hunkFrom (gh := gh) (k := k) o7 hO (by omega) hcM with ⟨i, hi, h1, h2⟩ | ⟨h1, h2⟩
    · have l7 := hk_len O A
      obtain ⟨u1, u2⟩ := hunk 7 A i (Or.inl rfl) hc hA hi h1 (hkat A _ h2)
      rw [h1, o1_some, q_no, if_pos (by rw [q_no_eq (by omega)]; exact fun z => z), u1]
      have em : mcs1 O A B k (x2, out) = (k + (gH (hk O A) i).2.1, out ++ sl A (gH (hk O A) i).2.2.1 (gH (hk O A) i).2.2.2) := by
        unfold mcs1 mad
        rw [h2]
      rw [em]
      rcases lines t M k (k + (gH (hk O A) i).2.1) out 7 A i (Or.inl rfl) hc hA hi hM hF with ⟨M', m1, m2, m3⟩ | ⟨l1, M', m1, m2⟩
      · exact Or.inl ⟨M', m1, m2, m3, by show k + _ ≤ 10; omega⟩
      · exact Or.inr ⟨l1, M', m1, m2⟩
    · rw [h1, o1_some, q_no, if_neg (fun z => z rfl)]
      rcases s3_hunkFrom (gh := gh) (k := k) o8 hO (by omega) hcM' with ⟨i, hi, g1, g2⟩ | ⟨g1, g2⟩
      · obtain ⟨u1, u2⟩ := hunk 8 B i (Or.inr rfl) hc' hB hi g1 (hkat B _ g2)
        rw [u1]
        have em : mcs1 O A B k (x2, out) = (k + (gH (hk O B) i).2.1, out ++ sl B (gH (hk O B) i).2.2.1 (gH (hk O B) i).2.2.2) := by
          unfold mcs1 mad
          rw [h2, g2]
        rw [em]
        rcases lines t M k (k + (gH (hk O B) i).2.1) out 8 B i (Or.inr rfl) hc' hB hi hM hF with ⟨M', m1, m2, m3⟩ | ⟨l1, M', m1, m2⟩
        · exact Or.inl ⟨M', m1, m2, m3, by show k + _ ≤ 10; omega⟩
        · exact Or.inr ⟨l1, M', m1, m2⟩
      · have em : mcs1 O A B k (x2, out) = (x2, out) := by
          unfold mcs1 mad
          rw [h2, g2]
        left
        refine ⟨M, ?_, hM, by rw [em]; exact hF, by rw [em]; exact hx⟩
        unfold f2_makeMergedFile_46
        rw [if_pos o8, g1, o1_some, q_no, if_neg (fun z => z rfl), em]
  -- the start
  obtain ⟨Ms, s1, s2, s3⟩ : ∃ Ms, f9_startFile gh M0 (nI f) = some Ms ∧ mfr f Ms M0 ∧ fileC Ms 81 f [] := by
    refine ⟨rv_u M0 15 (324 + f) 0, ?_, ⟨fun q q1 q2 => mu_ne q2, fun i hi => mu_ne2 hi, fun i hi => by rw [mu_ne (by omega)]⟩, by simp, ?_, fun p hp => absurd hp (Nat.not_lt_zero _)⟩
    · unfold f9_startFile
      have e324 : (324 : Int32) + nI f = nI (324 + f) := q_add 324 f
      rw [e324, s9_write (L := 328) (by omega) rfl rfl (by omega), o1_some]
    · rw [show 4 * 81 + f = 324 + f by omega, mu_same]; rfl
  unfold f2_makeMergedFile
  rw [s1, o1_some]
  refine rv_ux (z := (fun _ _ _ _ => none)) (F := f2_makeMergedFile_12_s gh) (fun t k (s : rv_Mem × Nat) => t s.1 (nI f) (nI s.2) (nI k)) (O.length + 1) (fun k s => mfr f s.1 M0 ∧ s.2 ≤ 10 ∧ s.2 = (up (mcs O A B) k 0 (0, [])).1 ∧ fileC s.1 81 f (up (mcs O A B) k 0 (0, [])).2) (fun r => ∃ ok M', r = some (ok, M') ∧ mfr f M' M0 ∧ (ok = true ↔ (mgd O A B).length ≤ 10) ∧ (ok = true → fileC M' 81 f (mgd O A B))) ?_ ?_ rv_FU 0 (Ms, 0) (Nat.zero_le _) (FU_lt (by omega)) ⟨s2, Nat.zero_le _, rfl, s3⟩
  · rintro t k ⟨M, x2⟩ hk2 ⟨i1, i2, i3, i4⟩
    have i1 : mfr f M M0 := i1
    have i2 : x2 ≤ 10 := i2
    have i3 : x2 = (up (mcs O A B) k 0 (0, [])).1 := i3
    have i4 : fileC M 81 f (up (mcs O A B) k 0 (0, [])).2 := i4
    have hup : up (mcs O A B) (k + 1) 0 (0, []) = mcs O A B k (x2, (up (mcs O A B) k 0 (0, [])).2) := by
      rw [up_snoc, Nat.zero_add, i3]
    have hml := mgd_len (O := O) (A := A) (B := B) (k := k + 1) (by omega)
    rw [hup] at hml
    generalize (up (mcs O A B) k 0 (0, [])).2 = out at i4 hup hml
    show (∃ ok M', f2_makeMergedFile_12_s gh t M (nI f) (nI x2) (nI k) = some (ok, M') ∧ _) ∨ ∃ a' : rv_Mem × Nat, _ ∧ f2_makeMergedFile_12_s gh t M (nI f) (nI x2) (nI k) = _
    have lm := @mcs_len O A B k (x2, out)
    rcases place t M k x2 out i1 i4 (by omega) i2 with ⟨M', m1, m2, m3, m4⟩ | ⟨l1, M', m1, m2⟩
    · rw [m1]
      rcases own t M' k (mcs1 O A B k (x2, out)).1 _ m2 m3 (by omega) (by omega) with ⟨e1, e2⟩ | ⟨e2, ⟨l2, M2, e1, e3, e4⟩ | ⟨l2, e1⟩⟩
      · right
        have em : mcs O A B k (x2, out) = ((mcs1 O A B k (x2, out)).1, (mcs1 O A B k (x2, out)).2) := by
          unfold mcs
          rw [if_neg e2, List.append_nil]
        refine ⟨(M', (mcs1 O A B k (x2, out)).1), ⟨m2, m4, by rw [hup, em], by rw [hup, em]; exact m3⟩, e1⟩
      · right
        have em : mcs O A B k (x2, out) = ((mcs1 O A B k (x2, out)).1, (mcs1 O A B k (x2, out)).2 ++ [O.getD k 0]) := by
          unfold mcs
          rw [if_pos e2]
        refine ⟨(M2, (mcs1 O A B k (x2, out)).1), ⟨e3, m4, by rw [hup, em], by rw [hup, em]; exact e4⟩, e1⟩
      · left
        rw [e1]
        have em : (mcs O A B k (x2, out)).2 = (mcs1 O A B k (x2, out)).2 ++ [O.getD k 0] := by
          unfold mcs
          rw [if_pos e2]
        rw [em, List.length_append, List.length_singleton] at hml
        exact badE M' m2 (by omega)
    · left
      rw [m1]
      exact badE M' m2 (by omega)
  · rintro t ⟨M, x2⟩ ⟨i1, i2, i3, i4⟩
    have i1 : mfr f M M0 := i1
    have i4 : fileC M 81 f (mgd O A B) := i4
    refine ⟨true, M, ?_, i1, ⟨fun _ => i4.1, fun _ => rfl⟩, fun _ => i4⟩
    show f2_makeMergedFile_12_s gh t M (nI f) (nI x2) (nI (O.length + 1)) = _
    have n8 : M 7 8 = nI O.length := (cmpd_mfr (Or.inl rfl) i1 hc).1
    unfold f2_makeMergedFile_12_s
    rw [n8, if_neg (by rw [q_le (by omega) (by omega)]; omega)]
