/-! shown -/
theorem mok_get : ∀ (F : List (Option Nat)) (w n k m : Nat), mok F w n → F.getD k none = some m → m < n := by
  intro F
  induction F with
  | nil => intro w n k m _ h; simp at h
  | cons x F ih =>
    intro w n k m h hk
    cases x with
    | none =>
      cases k with
      | zero => simp at hk
      | succ k => exact ih w n k m h (by simpa using hk)
    | some q =>
      cases k with
      | zero =>
        have : q = m := by simpa using hk
        rw [← this]; exact h.2.1
      | succ k => exact ih (q + 1) n k m h.2.2 (by simpa using hk)
theorem mts_get {A B : List Int32} {k m : Nat} (h : (mts A B 0).getD k none = some m) : m < B.length := by
  have := (mok_mts _ A B 0 (Nat.le_refl _)).1
  rw [Nat.zero_add] at this
  exact mok_get _ _ _ _ _ this h
theorem s12_pairsF {M0 : rv_Mem} {c1 c2 f : Nat} {A B : List Int32} (h64 : rv_z (M0 64 0) = false) (h1 : c1 < 82) (h2 : c2 < 82) (hf : f < 4) (hA : fileR M0 c1 f A) (hB : fileR M0 c2 f B) : ∃ M', f12_pairs M0 (nI c1) (nI c2) (nI f) = some M' ∧ (∀ q, q ≠ 53 → q ≠ 54 → M' q = M0 q) ∧ ∀ p, p < A.length → M' 54 p = oI ((mts A B 0).getD p none) := by
  obtain ⟨a1, a2, a3⟩ := hA
  obtain ⟨b1, b2, b3⟩ := hB
  have wf : ∀ x, wd false x = x := fun x => by unfold wd; rw [if_neg (by simp)]
  have eA : (List.range A.length).map (fun i => wd (rv_z (M0 64 0)) (M0 4 (10 * (4 * c1 + f) + i))) = A := range_map_ext rfl (fun p hp => by rw [h64, wf, a3 p hp])
  have eB : (List.range B.length).map (fun i => wd (rv_z (M0 64 0)) (M0 4 (10 * (4 * c2 + f) + i))) = B := range_map_ext rfl (fun p hp => by rw [h64, wf, b3 p hp])
  obtain ⟨M1, g1, g2, g3⟩ := s12_pairs (M0 := M0) (A := fun i => wd (rv_z (M0 64 0)) (M0 4 (10 * (4 * c1 + f) + i))) (B := fun i => wd (rv_z (M0 64 0)) (M0 4 (10 * (4 * c2 + f) + i))) a1 b1 h1 h2 hf a2 b2 (fun _ => rfl) (fun _ => rfl)
  rw [eA, eB] at g3
  exact ⟨M1, g1, g2, g3⟩
theorem s2_follow {gh : rC_gh} {C : rv_Mem} {c1 c2 f : Nat} {A B : List Int32} (h1 : c1 < 82) (h2 : c2 < 82) (hf : f < 4) (hA : fileC C c1 f A) (hB : fileC C c2 f B) (x : Int32) : ∃ C', f2_follow gh C x (nI c1) (nI c2) (nI f) = some (fwS (mts A B 0) A.length x, C') ∧ ∀ k, k ≠ 7 → k ≠ 8 → (k < 24 ∨ 40 < k) → C' k = C k := by
  obtain ⟨M1, p1, p2, p3⟩ := s3_compare (gh := gh) (o := 7) false (Or.inl rfl) h1 h2 hf hA hB
  rw [wd_false, wd_false] at p3
  have lA := hA.1
  have lB := hB.1
  refine ⟨M1, ?_, fun k k1 k2 k3 => p2 k k1 (fun j hj => by omega)⟩
  unfold f2_follow
  rw [p1, o1_some]
  have R := rv_up0 (z := (fun _ _ _ _ => none)) (F := f2_follow_22_s gh) (fun t k (y : Int32) => t M1 x y (nI k)) A.length (fun k acc => if bt x k = true then (match (mts A B 0).getD k none with | some m => acc ||| ((1 : Int32) <<< (nI m &&& 31)) | none => acc) else acc) (fun y => some (y, M1)) (fun t k y hk => ?_) (fun t y => ?_) rv_FU 0 0 (Nat.zero_le _) (FU_lt (by omega))
  · exact R
  · show f2_follow_22_s gh t M1 x y (nI k) = t M1 x (if bt x k = true then (match (mts A B 0).getD k none with | some m => y ||| ((1 : Int32) <<< (nI m &&& 31)) | none => y) else y) (nI (k + 1))
    have hm : M1 31 k = oI ((mts A B 0).getD k none) := p3.2.2.2.2.1 k hk
    unfold f2_follow_22_s f2_follow_74
    rw [if_pos (by rw [p3.1, q_lt (by omega) (by omega)]; exact hk), s11_isIn (by omega), o1_some, if_pos (q_inb (show k < 10 by omega) (by omega)), q_nc (by omega), hm, q_succ]
    cases bt x k with
    | false => rfl
    | true =>
      rw [if_pos rfl, if_pos rfl]
      cases hx : (mts A B 0).getD k none with
      | none => rw [if_neg (show ¬ ¬ oI none = -1 from fun z => z rfl)]
      | some m =>
        have := mts_get hx
        have eo : oI (some m) = nI m := rfl
        rw [eo, if_pos (by rw [q_no, q_no_eq (by omega)]; exact fun z => z), if_pos (q_inb (show k < 10 by omega) (by omega))]
  · show f2_follow_22_s gh t M1 x y (nI A.length) = _
    unfold f2_follow_22_s
    rw [if_neg (by rw [p3.1, q_lt (by omega) (by omega)]; omega)]
/-- one patch set further -/
def stp (n : Nat) (R : rv_Mem) (h s0 f a k : Nat) (j : Nat) (x : Int32) : Int32 := if fwS (mts (fl R (cAt n R h j) f) (fl R (cAt n R h (j + 1)) f) 0) (fl R (cAt n R h j) f).length x = 0 then fdS (fl R (cAt n R h s0) f) (fl R (cAt n R h (j + 1)) f) a k else fwS (mts (fl R (cAt n R h j) f) (fl R (cAt n R h (j + 1)) f) 0) (fl R (cAt n R h j) f).length x
theorem h_shown : ∀ gh MC MR, Rel gh MC MR → ∀ p1 p2, rS_shown Rel gh MC MR p1 p2 := fun gh C R h p1 p2 => by
  obtain ⟨n, hR⟩ := h
  have hn := hR.n80
  have hc := hR.ch20
  have hcm := hR.cnt.2.2.2.2.2.1
  unfold rS_shown
  rcases hR.dcomment p1 with ⟨j, hj, rfl, b1, b2⟩ | ⟨b1, b2⟩
  · obtain ⟨-, -, -, -, o7, h, s0, f, a, k, q1, q2, q3, q4, q5, q6, q7, q8, q9, q10, q11, q12, q13, q14, q15⟩ := hR.cmt j hj
    obtain ⟨K, k1, k2, k3, k4, -⟩ := hR.sets q1
    rw [k4, q_nc (by omega)] at q2
    have i2 := is2 hj hcm
    have h60 : rv_in (nI j) 60 = true := q_inb (by omega) (by omega)
    have eC : f11_shown gh C (nI j) p2 = rv_x2 (f11_needSet gh C (100 + h) p2) C (fun r12 => (if p2 < nI s0 then (some (.inl (0, C))) else rv_o1 (f0_commitAt gh C (100 + h) (nI s0)) (fun r17 => f11_shown_70 gh rv_FU C p2 (gh.2 (200 + j)) (100 + h) r17 (msk k a) (nI s0 + 1)))) := by
      unfold f11_shown
      rw [b1]; simp only [x2_inl]
      rw [if_pos i2, if_pos o7, q5, needChange_in C hc q1]
      simp only [x2_inl, is1 q1 hc, if_true, q7, q11, q13]
      rfl
    have eR : f12_shown R (nI j) p2 = rv_o1 (f12_isSet R (nI h) p2) (fun r4 => (if r4 = true then f12_shown_28 R (nI j) p2 false else f12_shown_27 R (nI j) p2)) := by
      unfold f12_shown
      rw [b2, o1_some, if_pos rfl, if_pos h60, q_nc (by omega), q6]
    rcases hR.dset q1 p2 with ⟨S, c, rfl, d1, d2, d3, d4, d5, d6, d7, d8, d9, d10, d11⟩ | ⟨d1, d2⟩
    · left
      have hS : S < K := by rw [k4, q_nc (by omega)] at d2; exact d2
      rw [d9] at eC
      simp only [x2_inl] at eC
      rw [d10, o1_some, if_pos rfl] at eR
      -- the commits of the sets
      have cs : ∀ i, i < K → ∃ ci, 2 ≤ ci ∧ ci < n ∧ C (120 + h) i = nI ci ∧ mAt n (R 5) (R 6) (nI h) (nI i) = nI ci ∧ cAt n R h i = ci := fun i hi => by
        obtain ⟨ci, x1, x2, x3, x4, x5, x6⟩ := hR.at q1 k2 k4 hi
        exact ⟨ci, x1, x2, x3, x6, by unfold cAt; rw [x6, q_nc (by omega)]⟩
      obtain ⟨ch, ch1, ch2, ch3, ch4, ch5⟩ := cs s0 q2
      have F := fun {x : Nat} (hx : x < n) => fil_files hR.fil (c := x) (f := f) (Or.inl hx) q3
      have hak : a + k ≤ (fl R ch f).length := by
        rw [fl_len]
        rw [ch4, q_nc (by omega)] at q15
        exact q15
      have lh := (F ch2).1.1
      have cA : ∀ (C1 : rv_Mem) i, (∀ q, q ≠ 7 → q ≠ 8 → (q < 24 ∨ 40 < q) → C1 q = C q) → i < K → f0_commitAt gh C1 (100 + h) (nI i) = some (nI (cAt n R h i)) := fun C1 i hC1 hi => by
        obtain ⟨ci, x1, x2, x3, x4, x5⟩ := cs i hi
        unfold f0_commitAt
        have hA := isA1 q1 hc
        rw [show 100 + h + 20 = 120 + h by omega] at hA
        have hL : rC_ln (120 + h) = 80 := by unfold rC_ln; rw [if_neg (by omega)]
        rw [if_pos (is1 q1 hc), hC1 (100 + h) (by omega) (by omega) (by omega), k3, if_pos (by rw [q_lt (by omega) (by omega)]; exact hi), show 100 + h + 20 = 120 + h by omega, s9_read (L := 80) (by omega) hL hA (by omega), o1_some, hC1 (120 + h) (by omega) (by omega) (by omega), x3, x5]
      have R1 : ∀ q, q ≠ 66 → (rv_u R 66 0 0) q = R q := fun q hq => mu_ne hq
      by_cases hlt : S < s0
      · refine ⟨0, C, rv_u R 66 0 0, by rw [eC, if_pos (by rw [q_lt (by omega) (by omega)]; exact hlt)], ?_, mu_same _ _ _ _, ⟨n, Rn_66 hR⟩⟩
        rw [eR]
        unfold f12_shown_28
        rw [goes_t]
        simp only [o2_some, if_true]
        have e : f12_shownIn (rv_u R 66 0 0) (nI j) (nI S) = some (0, rv_u R 66 0 0) := by
          unfold f12_shownIn
          simp only [h60, if_true, q_nc (show j < 2147483648 by omega), R1 27 (by omega), q8]
          show rv_fx _ (f12_shownIn_26_s) rv_FU (rv_u R 66 0 0) (nI j) (nI S) _ (nI s0) = _
          rw [fx_FU]
          generalize rv_fx _ f12_shownIn_26_s 99999 = t
          unfold f12_shownIn_26_s
          rw [if_neg (by rw [q_lt (by omega) (by omega)]; omega), if_pos h60, q_nc (by omega), R1 27 (by omega), q8, if_pos (by rw [q_lt (by omega) (by omega)]; exact hlt)]
        rw [e, o2_some]
      · rw [if_neg (by rw [q_lt (by omega) (by omega)]; exact hlt), cA C s0 (fun _ _ _ _ => rfl) q2, o1_some, ch5, q_succ] at eC
        -- the class, set by set
        have LC := rv_ui (z := (fun _ _ _ _ _ _ _ => none)) (F := f11_shown_70_s gh) (fun t i (s : rv_Mem × Int32) => t s.1 (nI S) (gh.2 (200 + j)) (100 + h) (nI ch) s.2 (nI (i + 1))) S (fun i s => s0 ≤ i ∧ (∀ q, q ≠ 7 → q ≠ 8 → (q < 24 ∨ 40 < q) → s.1 q = C q) ∧ s.2 = up (stp n R h s0 f a k) (i - s0) s0 (msk k a)) (fun s => some (.inl (s.2, s.1))) ?_ ?_ rv_FU s0 (C, msk k a) (by omega) (FU_lt (by omega)) ⟨Nat.le_refl _, fun _ _ _ _ => rfl, by rw [Nat.sub_self]; rfl⟩
        · -- the reference, set by set
          have LR := rv_ui (z := (fun _ _ _ _ _ => none)) (F := f12_shownIn_26_s) (fun t i (s : rv_Mem × Int32) => t s.1 (nI j) (nI S) s.2 (nI i)) S (fun i s => s0 ≤ i ∧ (∀ q, q ≠ 53 → q ≠ 54 → s.1 q = (rv_u R 66 0 0) q) ∧ s.2 = up (stp n R h s0 f a k) (i - s0) s0 (msk k a) ∧ ∀ b, b < 32 → (fl R (cAt n R h i) f).length ≤ b → bt s.2 b = false) (fun s => some (s.2, s.1)) ?_ ?_ rv_FU s0 (rv_u R 66 0 0, msk k a) (by omega) (FU_lt (by omega)) ⟨Nat.le_refl _, fun _ _ _ => rfl, by rw [Nat.sub_self]; rfl, fun b hb hle => ?_⟩
          · obtain ⟨⟨C', y⟩, ⟨-, x2, x3⟩, x4⟩ := LC
            obtain ⟨⟨R', y'⟩, ⟨-, z2, z3, -⟩, z4⟩ := LR
            have x3 : y = up (stp n R h s0 f a k) (S - s0) s0 (msk k a) := x3
            have z3 : y' = up (stp n R h s0 f a k) (S - s0) s0 (msk k a) := z3
            have z2 : ∀ q, q ≠ 53 → q ≠ 54 → R' q = (rv_u R 66 0 0) q := z2
            have eyy : y' = y := z3.trans x3.symm
            subst eyy
            refine ⟨y', C', R', by rw [eC]; exact x4, ?_, by rw [z2 66 (by omega) (by omega), mu_same], ⟨n, Rn_scr (R := R) (fun q hq => by rw [z2 q (by omega) (by omega), R1 q (by omega)]) (by rw [z2 64 (by omega) (by omega), R1 64 (by omega)]; exact hR.h64) (Rn_cmp hR x2)⟩⟩
            rw [eR]
            unfold f12_shown_28
            rw [goes_t]
            simp only [o2_some, if_true]
            have e : f12_shownIn (rv_u R 66 0 0) (nI j) (nI S) = some (y', R') := by
              unfold f12_shownIn
              simp only [h60, if_true, q_nc (show j < 2147483648 by omega), R1 27 (by omega), R1 29 (by omega), R1 30 (by omega), q8, q12, q14]
              exact z4
            rw [e, o2_some]
          · rintro t i ⟨M, x⟩ hi ⟨i1, i2, i3, i4⟩
            have i2 : ∀ q, q ≠ 53 → q ≠ 54 → M q = (rv_u R 66 0 0) q := i2
            have i3 : x = up (stp n R h s0 f a k) (i - s0) s0 (msk k a) := i3
            have i4 : ∀ b, b < 32 → (fl R (cAt n R h i) f).length ≤ b → bt x b = false := i4
            have mR : ∀ q, q ≠ 53 → q ≠ 54 → q ≠ 66 → M q = R q := fun q h1 h2 h3 => by rw [i2 q h1 h2, R1 q h3]
            obtain ⟨ci, x1, x2, x3, x4, x5⟩ := cs i (by omega)
            obtain ⟨cj, y1, y2, y3, y4, y5⟩ := cs (i + 1) (by omega)
            have m0 : M 0 0 = nI n := by rw [mR 0 (by omega) (by omega) (by omega)]; exact hR.cnt.2.2.1
            have m64 : rv_z (M 64 0) = false := by rw [mR 64 (by omega) (by omega) (by omega)]; exact hR.h64
            have fR : ∀ c, c < n → fileR M c f (fl R c f) := fun c hc => fileR_of (mR 3 (by omega) (by omega) (by omega)) (mR 4 (by omega) (by omega) (by omega)) (F hc).2.1
            obtain ⟨M1, p1, p2, p3⟩ := s12_pairsF (M0 := M) m64 (show ci < 82 by omega) (show cj < 82 by omega) q3 (fR ci x2) (fR cj y2)
            have lci := (F x2).1.1
            have lcj := (F y2).1.1
            have hfd : f12_found M1 (nI j) (nI cj) = some (fdS (fl R ch f) (fl R cj f) a k) := by
              have n26 : M1 26 = R 26 := by rw [p2 26 (by omega) (by omega), mR 26 (by omega) (by omega) (by omega)]
              have n27 : M1 27 = R 27 := by rw [p2 27 (by omega) (by omega), mR 27 (by omega) (by omega) (by omega)]
              refine s12_found (by omega) (by rw [p2 64 (by omega) (by omega)]; exact m64) ?_ (by rw [p2 28 (by omega) (by omega), mR 28 (by omega) (by omega) (by omega)]; exact q10) (by rw [p2 29 (by omega) (by omega), mR 29 (by omega) (by omega) (by omega)]; exact q12) (by rw [p2 30 (by omega) (by omega), mR 30 (by omega) (by omega) (by omega)]; exact q14) (show ch < 82 by omega) (by omega) q3 (fileR_of (p2 3 (by omega) (by omega)) (p2 4 (by omega) (by omega)) (fR ch ch2)) (fileR_of (p2 3 (by omega) (by omega)) (p2 4 (by omega) (by omega)) (fR cj y2)) hak
              rw [n26, n27, q6, q8, s12_commitAt (n := n) (by rw [p2 0 (by omega) (by omega)]; exact m0) hn, p2 5 (by omega) (by omega), p2 6 (by omega) (by omega), mR 5 (by omega) (by omega) (by omega), mR 6 (by omega) (by omega) (by omega), ch4]
            have est : stp n R h s0 f a k i x = if fwS (mts (fl R ci f) (fl R cj f) 0) (fl R ci f).length x = 0 then fdS (fl R ch f) (fl R cj f) a k else fwS (mts (fl R ci f) (fl R cj f) 0) (fl R ci f).length x := by
              unfold stp
              rw [x5, y5, ch5]
            have ini : f12_shownIn_78 t rv_FU M1 (nI j) (nI S) x (nI i) (nI cj) 0 0 = t M1 (nI j) (nI S) (stp n R h s0 f a k i x) (nI (i + 1)) := by
              have Q := rv_up0 (z := (fun _ _ _ _ _ _ _ _ => none)) (F := f12_shownIn_78_s t) (fun T b (y : Int32) => T M1 (nI j) (nI S) x (nI i) (nI cj) y (nI b)) 10 (fun k acc => if bt x k = true then (match (mts (fl R ci f) (fl R cj f) 0).getD k none with | some m => acc ||| ((1 : Int32) <<< (nI m &&& 31)) | none => acc) else acc) (fun y => t M1 (nI j) (nI S) (if y = 0 then fdS (fl R ch f) (fl R cj f) a k else y) (nI (i + 1))) (fun T b y hb => ?_) (fun T y => ?_) rv_FU 0 0 (Nat.zero_le _) (FU_lt (by omega))
              · have e10 : up (fun k acc => if bt x k = true then (match (mts (fl R ci f) (fl R cj f) 0).getD k none with | some m => acc ||| ((1 : Int32) <<< (nI m &&& 31)) | none => acc) else acc) (10 - 0) 0 0 = fwS (mts (fl R ci f) (fl R cj f) 0) (fl R ci f).length x := by
                  rw [show 10 - 0 = (fl R ci f).length + (10 - (fl R ci f).length) by omega, up_add]
                  refine up_id _ _ _ (fun b hb1 hb2 => ?_)
                  have := i4 b (by omega) (by rw [x5]; omega)
                  show (if bt x b = true then _ else _) = _
                  rw [this, if_neg (by simp)]
                rw [est]
                rw [e10] at Q
                exact Q
              · show f12_shownIn_78_s t T M1 (nI j) (nI S) x (nI i) (nI cj) y (nI b) = T M1 (nI j) (nI S) x (nI i) (nI cj) (if bt x b = true then (match (mts (fl R ci f) (fl R cj f) 0).getD b none with | some m => y ||| ((1 : Int32) <<< (nI m &&& 31)) | none => y) else y) (nI (b + 1))
                unfold f12_shownIn_78_s f12_shownIn_119 f12_shownIn_120 f12_isOf
                rw [if_pos (by rw [q_10, q_lt (by omega) (by omega)]; exact hb)]
                simp only [b_test (show b < 32 by omega), q_inb hb (show b < 2147483648 by omega), if_true, q_nc (show b < 2147483648 by omega), q_succ, Int32.or_zero]
                cases hbt : bt x b with
                | false => simp only [bf_t, if_false, o1_some]
                | true =>
                  have hlt2 : b < (fl R ci f).length := by
                    apply Classical.byContradiction
                    intro z
                    have := i4 b (by omega) (by rw [x5]; omega)
                    rw [this] at hbt; cases hbt
                  simp only [if_true, o1_some, p3 b hlt2]
                  cases hx : (mts (fl R ci f) (fl R cj f) 0).getD b none with
                  | none => rw [if_neg (show ¬ ¬ oI none = -1 from fun z => z rfl)]
                  | some m =>
                    have := mts_get hx
                    have eo : oI (some m) = nI m := rfl
                    rw [eo, if_pos (by rw [q_no, q_no_eq (by omega)]; exact fun z => z)]
              · show f12_shownIn_78_s t T M1 (nI j) (nI S) x (nI i) (nI cj) y (nI 10) = _
                unfold f12_shownIn_78_s f12_shownIn_146
                rw [if_neg (by rw [q_10, q_lt (by omega) (by omega)]; omega), hfd, o1_some, q_succ]
                by_cases c0 : y = 0
                · rw [if_pos c0, if_pos c0]
                · rw [if_neg c0, if_neg c0]
            refine ⟨(M1, stp n R h s0 f a k i x), ⟨by omega, fun q h1 h2 => by show M1 q = _; rw [p2 q h1 h2, i2 q h1 h2], ?_, ?_⟩, ?_⟩
            · show stp n R h s0 f a k i x = _
              rw [show i + 1 - s0 = (i - s0) + 1 by omega, up_snoc, ← i3, show s0 + (i - s0) = i by omega]
            · show ∀ b, b < 32 → (fl R (cAt n R h (i + 1)) f).length ≤ b → bt (stp n R h s0 f a k i x) b = false
              rw [y5, est]
              intro b hb hle
              split
              · exact fdS_bits lcj q4 b hb hle
              · exact fwS_bits (fun k m hm => mts_get hm) lcj b hb hle
            · show f12_shownIn_26_s t M (nI j) (nI S) x (nI i) = _
              unfold f12_shownIn_26_s
              rw [if_pos (by rw [q_lt (by omega) (by omega)]; exact hi)]
              simp only [h60, if_true, q_nc (show j < 2147483648 by omega)]
              rw [mR 26 (by omega) (by omega) (by omega), q6, q_succ, s12_commitAt m0 hn, mR 5 (by omega) (by omega) (by omega), mR 6 (by omega) (by omega) (by omega), y4, o1_some, s12_commitAt m0 hn, mR 5 (by omega) (by omega) (by omega), mR 6 (by omega) (by omega) (by omega), x4, o1_some, mR 28 (by omega) (by omega) (by omega), q10, p1, o1_some]
              exact ini
          · rintro t ⟨M, x⟩ ⟨-, i2, -⟩
            have i2 : ∀ q, q ≠ 53 → q ≠ 54 → M q = (rv_u R 66 0 0) q := i2
            show f12_shownIn_26_s t M (nI j) (nI S) x (nI S) = _
            unfold f12_shownIn_26_s
            rw [if_neg (by rw [q_lt (by omega) (by omega)]; omega), if_pos h60, q_nc (by omega), i2 27 (by omega) (by omega), R1 27 (by omega), q8, if_neg (by rw [q_lt (by omega) (by omega)]; exact hlt)]
          · show bt (msk k a) b = false
            rw [ch5] at hle
            exact (msk_ok k (by omega) q4 a (by omega) (by omega)).2 b hb (by omega)
        · rintro t i ⟨M, x⟩ hi ⟨i1, i2, i3⟩
          have i2 : ∀ q, q ≠ 7 → q ≠ 8 → (q < 24 ∨ 40 < q) → M q = C q := i2
          have i3 : x = up (stp n R h s0 f a k) (i - s0) s0 (msk k a) := i3
          obtain ⟨ci, x1, x2, x3, x4, x5⟩ := cs i (by omega)
          obtain ⟨cj, y1, y2, y3, y4, y5⟩ := cs (i + 1) (by omega)
          have ge := ok_pl2 o7
          have mC : ∀ q, q ≠ 7 → q ≠ 8 → (q < 24 ∨ 40 < q) → M q = C q := i2
          have fC : ∀ c, c < n → fileC M c f (fl R c f) := fun c hc => fileC_of (mC 15 (by omega) (by omega) (by omega)) (mC 14 (by omega) (by omega) (by omega)) (F hc).1
          have epl : M (gh.2 (200 + j)) = C (gh.2 (200 + j)) := mC _ (by omega) (by omega) (by omega)
          obtain ⟨C1, p1, p2⟩ := s2_follow (gh := gh) (show ci < 82 by omega) (show cj < 82 by omega) q3 (fC ci x2) (fC cj y2) x
          have est : stp n R h s0 f a k i x = if fwS (mts (fl R ci f) (fl R cj f) 0) (fl R ci f).length x = 0 then fdS (fl R ch f) (fl R cj f) a k else fwS (mts (fl R ci f) (fl R cj f) 0) (fl R ci f).length x := by
            unfold stp
            rw [x5, y5, ch5]
          have fr : ∀ q, q ≠ 7 → q ≠ 8 → (q < 24 ∨ 40 < q) → C1 q = C q := fun q h1 h2 h3 => by rw [p2 q h1 h2 h3, mC q h1 h2 h3]
          have fC1 : ∀ c, c < n → fileC C1 c f (fl R c f) := fun c hc => fileC_of (fr 15 (by omega) (by omega) (by omega)) (fr 14 (by omega) (by omega) (by omega)) (F hc).1
          have epl1 : C1 (gh.2 (200 + j)) = C (gh.2 (200 + j)) := fr _ (by omega) (by omega) (by omega)
          have hlf : f9_lookFor gh C1 (gh.2 (200 + j)) (nI ch) (nI cj) = some (fdS (fl R ch f) (fl R cj f) a k) := s9_lookFor o7 (by rw [epl1]; exact q9) (by rw [epl1]; exact q11) (by rw [epl1]; exact q13) (by omega) (by omega) q3 (fC1 ch ch2) (fC1 cj y2) hak q4
          refine ⟨(C1, stp n R h s0 f a k i x), ⟨by omega, fr, ?_⟩, ?_⟩
          · show stp n R h s0 f a k i x = _
            rw [show i + 1 - s0 = (i - s0) + 1 by omega, up_snoc, ← i3, show s0 + (i - s0) = i by omega]
          · show f11_shown_70_s gh t M (nI S) (gh.2 (200 + j)) (100 + h) (nI ch) x (nI (i + 1)) = _
            unfold f11_shown_70_s f11_shown_130
            rw [if_pos (by rw [q_le (by omega) (by omega)]; omega), if_pos (is1 q1 hc), cA M (i + 1) mC (by omega), o1_some, show nI (i + 1) - 1 = nI i from by rw [q_1, q_sub (by omega)]; rfl, cA M i mC (by omega), o1_some, if_pos o7, epl, q9, x5, y5, p1, o2_some, hlf, o1_some, q_succ]
            show _ = t C1 (nI S) (gh.2 (200 + j)) (100 + h) (nI ch) (stp n R h s0 f a k i x) (nI (i + 1 + 1))
            rw [est]
            by_cases c0 : fwS (mts (fl R ci f) (fl R cj f) 0) (fl R ci f).length x = 0
            · rw [if_pos c0, if_pos c0]
            · rw [if_neg c0, if_neg c0]
        · rintro t ⟨M, x⟩ _
          show f11_shown_70_s gh t M (nI S) (gh.2 (200 + j)) (100 + h) (nI ch) x (nI (S + 1)) = _
          unfold f11_shown_70_s
          rw [if_neg (by rw [q_le (by omega) (by omega)]; omega)]
    · right
      refine ⟨C, rv_u R 66 0 1, 0, by rw [eC, d1]; rfl, by rw [eR, d2, o1_some, if_neg (by simp)]; rfl, mu_same _ _ _ _, ⟨n, Rn_66 hR⟩⟩
  · right
    refine ⟨C, rv_u R 66 0 1, 0, ?_, ?_, mu_same _ _ _ _, ⟨n, Rn_66 hR⟩⟩
    · unfold f11_shown
      rw [b1]; rfl
    · unfold f12_shown
      rw [b2, o1_some, if_neg (by simp)]
      rfl
