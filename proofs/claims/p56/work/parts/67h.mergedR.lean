/-! THE MERGED FILE, the reference -/
theorem fold_to {O A B : List Int32} {p k s : Nat} {out : List Int32} (h : up (mcs O A B) k 0 (0, []) = (p, out ++ sl O p (k - p))) (hks : k ≤ s) (hn : ∀ j, k ≤ j → j < s → mad O A B j = none) : up (mcs O A B) s 0 (0, []) = (p, out ++ sl O p (s - p)) := by
  rw [show s = k + (s - k) by omega, up_add, h, Nat.zero_add, mcs_run (s - k) k (fun j h1 h2 => hn j h1 (by omega))]
theorem fold_hunk {O A B : List Int32} {p s d : Nat} {out X : List Int32} (h : up (mcs O A B) s 0 (0, []) = (p, out ++ sl O p (s - p))) (hm : mad O A B s = some (d, X)) : up (mcs O A B) (s + 1) 0 (0, []) = (s + d, ((out ++ sl O p (s - p)) ++ X) ++ sl O (s + d) (s + 1 - (s + d))) := by
  rw [up_snoc, h, Nat.zero_add, mcs_hunk hm]
theorem s12_hunk {M : rv_Mem} {k44 : rv_Mem → Int32 → Int32 → Int32 → Int32 → Int32 → Option (Bool × rv_Mem)} {c0 cX f p s i j : Nat} {O X out : List Int32} {h : Nat × Nat × Nat × Nat} {x8 x9 : Bool} (h64 : rv_z (M 64 0) = false) (h0 : c0 < 82) (hcX : cX < 82) (hf : f < 4) (hO : fileR M c0 f O) (hX : fileR M cX f X) (hs : s < 60) (hr : hrow M s c0 cX h) (hi : hin O X h) (hp : p ≤ h.1) (hst : rowst M out) (hl : out.length + (h.1 - p) + h.2.2.2 ≤ 24) :
    ∃ M', f12_mergesFile_173 k44 M (nI c0) (nI f) (nI p) (nI i) (nI j) x8 x9 (nI s) = k44 M' (nI c0) (nI f) (nI (h.1 + h.2.1)) (nI (if x8 = true then i + 1 else i)) (nI (if x8 = true then (if x9 = true then j + 1 else j) else j + 1)) ∧ rowst M' ((out ++ sl O p (h.1 - p)) ++ sl X h.2.2.1 h.2.2.2) ∧ f63 M' M := by
  obtain ⟨r1, r2, r3, r4, r5, r6⟩ := hr
  obtain ⟨b1, b2, b3⟩ := hi
  have lO := hO.1
  have lX := hX.1
  obtain ⟨M1, m1, m2, m3⟩ := s12_fills (a := p) (n := h.1 - p) h64 h0 hf hO hst (by omega) (by omega)
  have hX1 : fileR M1 cX f X := fileR_of (m3 3 (by omega) (by omega)) (m3 4 (by omega) (by omega)) hX
  obtain ⟨M2, w1, w2, w3⟩ := s12_fills (M := M1) (a := h.2.2.1) (n := h.2.2.2) (by rw [m3 64 (by omega) (by omega)]; exact h64) hcX hf hX1 m2 b2 (by rw [List.length_append, sl_len (by omega)]; omega)
  refine ⟨M2, ?_, w2, fun q q1 q2 => by rw [w3 q q1 q2, m3 q q1 q2]⟩
  have s60 : rv_in (nI s) 60 = true := q_inb hs (by omega)
  have e1 : nI h.1 - nI p = nI (h.1 - p) := q_sub hp
  unfold f12_mergesFile_173 f12_mergesFile_250 f12_mergesFile_265 f12_mergesFile_270
  simp only [s60, if_true, q_nc (show s < 2147483648 by omega), r1, e1, m1, o1_some]
  rw [m3 60 (by omega) (by omega), m3 56 (by omega) (by omega), m3 58 (by omega) (by omega), r6, r3, r4, w1, o1_some, w3 55 (by omega) (by omega), w3 57 (by omega) (by omega), m3 55 (by omega) (by omega), m3 57 (by omega) (by omega), r1, r2, q_add]
  cases x8 with
  | true =>
    cases x9 with
    | true => simp only [if_true, rvi_t, q_add]
    | false => simp only [if_true, bf_t, if_false, rvi_t, rvi_f, q_add, Nat.add_zero]
  | false => simp only [bf_t, if_false, rvi_t, rvi_f, q_add, Nat.add_zero]
def mInv (O A B : List Int32) (m : Nat) (M0 M : rv_Mem) (p i j : Nat) : Prop := ∃ (k : Nat) (out : List Int32) (qa sb : Nat), m ≤ k ∧ k ≤ O.length + 1 ∧ rowst M out ∧ f63 M M0 ∧ i ≤ (hk O A).length ∧ j ≤ (hk O B).length ∧ up (mcs O A B) k 0 (0, []) = (p, out ++ sl O p (k - p)) ∧ (∀ i', i' < i → (gH (hk O A) i').1 < k) ∧ (i < (hk O A).length → k ≤ (gH (hk O A) i).1 ∧ p ≤ (gH (hk O A) i).1 ∧ (gH (hk O A) i).1 + qa = (gH (hk O A) i).2.2.1 + p) ∧ (i = (hk O A).length → O.length + qa = A.length + p) ∧ (∀ j', j' < j → (gH (hk O B) j').1 < k) ∧ (j < (hk O B).length → k ≤ (gH (hk O B) j).1 ∧ p ≤ (gH (hk O B) j).1 ∧ sb ≤ (gH (hk O B) j).2.2.1) ∧ sb ≤ B.length ∧ p ≤ O.length ∧ out.length ≤ qa + sb
set_option maxHeartbeats 1000000 in
theorem s12_mergedFile {M0 : rv_Mem} {c0 c1 c2 f : Nat} {O A B : List Int32} (h64 : rv_z (M0 64 0) = false) (h0 : c0 < 82) (h1 : c1 < 82) (h2 : c2 < 82) (hf : f < 4) (hO : fileR M0 c0 f O) (hA : fileR M0 c1 f A) (hB : fileR M0 c2 f B) (hc : hokR M0 0 c0 c1 (hk O A)) (hc' : hokR M0 1 c0 c2 (hk O B)) (nc : ¬ conf O A B) (hst : rowst M0 []) :
    ∃ M', f12_mergesFile_44 rv_FU M0 (nI c0) (nI f) 0 0 15 = some (decide ((mgd O A B).length ≤ 10), M') ∧ rowst M' (mgd O A B) ∧ f63 M' M0 ∧ (mgd O A B).length ≤ 20 := by
  have lO := hO.1
  have lA := hA.1
  have lB := hB.1
  have lH := hk_len O A
  have lH' := hk_len O B
  have n0 : M0 61 0 = nI (hk O A).length := hc.1
  have n1 : M0 61 1 = nI (hk O B).length := hc'.1
  obtain ⟨S1, S2⟩ := hsd_idx _ _ _ (hk_sd O A)
  obtain ⟨S1', S2'⟩ := hsd_idx _ _ _ (hk_sd O B)
  obtain ⟨L0, L1, L2, L3⟩ := hls_idx _ _ _ (hk_ls O A)
  have rA : ∀ M, f63 M M0 → ∀ i, i < (hk O A).length → hrow M i c0 c1 (gH (hk O A) i) := fun M hM i hi => by
    have r : hrow M0 (15 * 0 + i) c0 c1 ((hk O A).getD i hz0) := hc.2 i _ _ _ _ (H_get hi)
    rw [show 15 * 0 + i = i by omega] at r
    unfold hrow at r ⊢
    rw [hM 55 (by omega) (by omega), hM 56 (by omega) (by omega), hM 57 (by omega) (by omega), hM 58 (by omega) (by omega), hM 59 (by omega) (by omega), hM 60 (by omega) (by omega)]
    exact r
  have rB : ∀ M, f63 M M0 → ∀ j, j < (hk O B).length → hrow M (15 + j) c0 c2 (gH (hk O B) j) := fun M hM j hj => by
    have r : hrow M0 (15 * 1 + j) c0 c2 ((hk O B).getD j hz0) := hc'.2 j _ _ _ _ (H_get hj)
    rw [show 15 * 1 + j = 15 + j by omega] at r
    unfold hrow at r ⊢
    rw [hM 55 (by omega) (by omega), hM 56 (by omega) (by omega), hM 57 (by omega) (by omega), hM 58 (by omega) (by omega), hM 59 (by omega) (by omega), hM 60 (by omega) (by omega)]
    exact r
  have fR : ∀ M, f63 M M0 → ∀ c X, fileR M0 c f X → fileR M c f X := fun M hM c X hX => fileR_of (hM 3 (by omega) (by omega)) (hM 4 (by omega) (by omega)) hX
  have i04 : rv_in (0 : Int32) 4 = true := rfl
  have i14 : rv_in (1 : Int32) 4 = true := rfl
  have e15 : ∀ x, (15 : Int32) + nI x = nI (15 + x) := fun x => q_add 15 x
  refine rv_ux (z := (fun _ _ _ _ _ _ => none)) (F := f12_mergesFile_44_s) (fun t (_ : Nat) (s : rv_Mem × Nat × Nat × Nat) => t s.1 (nI c0) (nI f) (nI s.2.1) (nI s.2.2.1) (nI (15 + s.2.2.2))) (O.length + 2) (fun m s => mInv O A B m M0 s.1 s.2.1 s.2.2.1 s.2.2.2) (fun r => ∃ M', r = some (decide ((mgd O A B).length ≤ 10), M') ∧ rowst M' (mgd O A B) ∧ f63 M' M0 ∧ (mgd O A B).length ≤ 20) ?_ ?_ rv_FU 0 (M0, 0, 0, 0) (Nat.zero_le _) (FU_lt (by omega)) ?_
  · rintro t m ⟨M, p, i, j⟩ hm hI
    have hI : mInv O A B m M0 M p i j := hI
    obtain ⟨k, out, qa, sb, k1, k2, v1, v2, v3, v4, v5, v6, v7, v8, v9, v10, v11, v12, v13⟩ := hI
    show (∃ M', f12_mergesFile_44_s t M (nI c0) (nI f) (nI p) (nI i) (nI (15 + j)) = some (_, M') ∧ _) ∨ ∃ a' : rv_Mem × Nat × Nat × Nat, mInv O A B (m + 1) M0 a'.1 a'.2.1 a'.2.2.1 a'.2.2.2 ∧ f12_mergesFile_44_s t M (nI c0) (nI f) (nI p) (nI i) (nI (15 + j)) = t a'.1 (nI c0) (nI f) (nI a'.2.1) (nI a'.2.2.1) (nI (15 + a'.2.2.2))
    have N0 : M 61 (0 : Int32).toNatClampNeg = nI (hk O A).length := by rw [v2 61 (by omega) (by omega)]; exact n0
    have N1 : M 61 (1 : Int32).toNatClampNeg = nI (hk O B).length := by rw [v2 61 (by omega) (by omega)]; exact n1
    have H64 : rv_z (M 64 0) = false := by rw [v2 64 (by omega) (by omega)]; exact h64
    have none_at : ∀ s, (i < (hk O A).length → s ≤ (gH (hk O A) i).1) → (j < (hk O B).length → s ≤ (gH (hk O B) j).1) → ∀ y, k ≤ y → y < s → mad O A B y = none := fun s a1 a2 y y1 y2 => by
      unfold mad
      rw [(hat_next (hk_sd O A) v6 y1).2 (fun z => by have := a1 z; omega), (hat_next (hk_sd O B) v9 y1).2 (fun z => by have := a2 z; omega)]
    by_cases cA : i < (hk O A).length ∧ (j = (hk O B).length ∨ (gH (hk O A) i).1 ≤ (gH (hk O B) j).1)
    · -- ours
      right
      obtain ⟨hi, hj⟩ := cA
      obtain ⟨w1, w2, w3⟩ := v7 hi
      obtain ⟨x1, x2, x3, x4, x5⟩ := S1 i hi
      have row := rA M v2 i hi
      have hx9 : ∃ x9 : Bool, (x9 = true ↔ j < (hk O B).length ∧ (gH (hk O A) i).1 = (gH (hk O B) j).1) := by
        by_cases c : j < (hk O B).length ∧ (gH (hk O A) i).1 = (gH (hk O B) j).1
        · exact ⟨true, fun _ => c, fun _ => rfl⟩
        · exact ⟨false, fun z => (by cases z), fun z => absurd z c⟩
      obtain ⟨x9, hx9⟩ := hx9
      have step : f12_mergesFile_44_s t M (nI c0) (nI f) (nI p) (nI i) (nI (15 + j)) = f12_mergesFile_173 t M (nI c0) (nI f) (nI p) (nI i) (nI (15 + j)) true x9 (nI i) := by
        have i60 : rv_in (nI i) 60 = true := q_inb (by omega) (by omega)
        have R1 : M 55 i = nI (gH (hk O A) i).1 := row.1
        unfold f12_mergesFile_44_s f12_mergesFile_69 f12_mergesFile_111 f12_mergesFile_115 f12_mergesFile_116 f12_mergesFile_158 f12_mergesFile_159
        simp only [i04, i14, if_true, N0, N1, e15, i60, q_nc (show i < 2147483648 by omega), R1]
        rw [if_neg (show ¬ nI (hk O A).length ≤ nI i by rw [q_le (by omega) (by omega)]; omega), if_pos (show nI i < nI (hk O A).length by rw [q_lt (by omega) (by omega)]; exact hi)]
        by_cases c : j = (hk O B).length
        · have : x9 = false := by
            cases x9 with
            | false => rfl
            | true => have := (hx9.mp rfl).1; omega
          subst this
          rw [if_neg (show ¬ ¬ nI (15 + j) = nI (15 + (hk O B).length) by rw [c]; exact fun z => z rfl), if_neg (show ¬ nI (15 + j) < nI (15 + (hk O B).length) by rw [q_lt (by omega) (by omega)]; omega)]
        · have hj' : j < (hk O B).length := by omega
          have R2 : M 55 (15 + j) = nI (gH (hk O B) j).1 := (rB M v2 j hj').1
          obtain ⟨y1, y2, y3, y4, y5⟩ := S1' j hj'
          have j60 : rv_in (nI (15 + j)) 60 = true := q_inb (by omega) (by omega)
          have hle : (gH (hk O A) i).1 ≤ (gH (hk O B) j).1 := by omega
          rw [if_pos (show ¬ nI (15 + j) = nI (15 + (hk O B).length) by rw [q_eq (by omega) (by omega)]; omega), if_pos (show nI (15 + j) < nI (15 + (hk O B).length) by rw [q_lt (by omega) (by omega)]; omega)]
          simp only [j60, if_true, q_nc (show 15 + j < 2147483648 by omega), R2]
          rw [if_pos (show nI (gH (hk O A) i).1 ≤ nI (gH (hk O B) j).1 by rw [q_le (by omega) (by omega)]; exact hle)]
          by_cases c2 : (gH (hk O A) i).1 = (gH (hk O B) j).1
          · have : x9 = true := hx9.mpr ⟨hj', c2⟩
            subst this
            rw [if_pos (show nI (gH (hk O A) i).1 = nI (gH (hk O B) j).1 by rw [c2])]
          · have : x9 = false := by
              cases x9 with
              | false => rfl
              | true => exact absurd (hx9.mp rfl).2 c2
            subst this
            rw [if_neg (show ¬ nI (gH (hk O A) i).1 = nI (gH (hk O B) j).1 by rw [q_eq (by omega) (by omega)]; exact c2)]
      have hin0 : hin O A (gH (hk O A) i) := ⟨x3, x4, x5⟩
      obtain ⟨M', m1, m2, m3⟩ := s12_hunk (k44 := t) (i := i) (j := 15 + j) (x8 := true) (x9 := x9) H64 h0 h1 hf (fR M v2 c0 O hO) (fR M v2 c1 A hA) (by omega) row hin0 w2 v1 (by omega)
      have hmad : mad O A B (gH (hk O A) i).1 = some ((gH (hk O A) i).2.1, sl A (gH (hk O A) i).2.2.1 (gH (hk O A) i).2.2.2) := by
        unfold mad
        rw [(hat_next (hk_sd O A) v6 w1).1 hi rfl]
      have f1 := fold_to v5 w1 (none_at _ (fun _ => Nat.le_refl _) (fun z => by omega))
      have f2 := fold_hunk f1 hmad
      refine ⟨(M', (gH (hk O A) i).1 + (gH (hk O A) i).2.1, i + 1, if x9 = true then j + 1 else j), ?_, ?_⟩
      · show mInv O A B (m + 1) M0 M' ((gH (hk O A) i).1 + (gH (hk O A) i).2.1) (i + 1) (if x9 = true then j + 1 else j)
        refine ⟨(gH (hk O A) i).1 + 1, _, (gH (hk O A) i).2.2.1 + (gH (hk O A) i).2.2.2, sb, by omega, by omega, m2, fun q q1 q2 => by rw [m3 q q1 q2, v2 q q1 q2], by show i + 1 ≤ _; omega, ?_, f2, fun i' hi' => ?_, fun hi' => ?_, fun hi' => ?_, fun j' hj' => ?_, fun hj' => ?_, v11, x3, ?_⟩
        · show (if x9 = true then j + 1 else j) ≤ _
          by_cases c : x9 = true
          · rw [if_pos c]; have := (hx9.mp c).1; omega
          · rw [if_neg c]; exact v4
        · have hi' : i' < i + 1 := hi'
          by_cases e : i' = i
          · subst e; omega
          · have := v6 i' (by omega); omega
        · have hi' : i + 1 < (hk O A).length := hi'
          have a1 := S2 i hi'
          have a2 := L2 i hi'
          show (gH (hk O A) i).1 + 1 ≤ (gH (hk O A) (i + 1)).1 ∧ (gH (hk O A) i).1 + (gH (hk O A) i).2.1 ≤ (gH (hk O A) (i + 1)).1 ∧ _
          exact ⟨by omega, by omega, by show (gH (hk O A) (i + 1)).1 + _ = _; omega⟩
        · have hi' : i + 1 = (hk O A).length := hi'
          have a2 := L3 i hi'
          show O.length + _ = A.length + _
          omega
        · have hj' : j' < (if x9 = true then j + 1 else j) := hj'
          by_cases c : x9 = true
          · rw [if_pos c] at hj'
            by_cases e : j' = j
            · subst e; have := (hx9.mp c).2; omega
            · have := v9 j' (by omega); omega
          · rw [if_neg c] at hj'
            have := v9 j' hj'; omega
        · have hj' : (if x9 = true then j + 1 else j) < (hk O B).length := hj'
          show (gH (hk O A) i).1 + 1 ≤ (gH (hk O B) (if x9 = true then j + 1 else j)).1 ∧ (gH (hk O A) i).1 + (gH (hk O A) i).2.1 ≤ (gH (hk O B) (if x9 = true then j + 1 else j)).1 ∧ sb ≤ (gH (hk O B) (if x9 = true then j + 1 else j)).2.2.1
          by_cases c : x9 = true
          · rw [if_pos c] at hj' ⊢
            obtain ⟨g1, g2⟩ := hx9.mp c
            obtain ⟨y1, y2, y3⟩ := v10 g1
            have a1 := S2' j hj'
            have al : alk O A (gH (hk O A) i) O B (gH (hk O B) j) = true := by
              apply Classical.byContradiction
              intro z
              apply nc
              refine ⟨i, j, hi, g1, ?_⟩
              unfold cfl
              rw [decide_eq_true (show (gH (hk O A) i).1 ≤ (gH (hk O B) j).1 + (gH (hk O B) j).2.1 by omega), decide_eq_true (show (gH (hk O B) j).1 ≤ (gH (hk O A) i).1 + (gH (hk O A) i).2.1 by omega)]
              have : alk O A (gH (hk O A) i) O B (gH (hk O B) j) = false := by
                cases hh : alk O A (gH (hk O A) i) O B (gH (hk O B) j) with
                | false => rfl
                | true => exact absurd hh z
              rw [this]; simp
            have hd : (gH (hk O A) i).2.1 = (gH (hk O B) j).2.1 := by
              unfold alk at al
              rw [Bool.and_eq_true, Bool.and_eq_true, Bool.and_eq_true] at al
              exact of_decide_eq_true al.1.1.1
            exact ⟨by omega, by omega, by omega⟩
          · rw [if_neg c] at hj' ⊢
            obtain ⟨y1, y2, y3⟩ := v10 hj'
            have hne : (gH (hk O A) i).1 ≠ (gH (hk O B) j).1 := fun z => c (hx9.mpr ⟨hj', z⟩)
            have far : ¬ (gH (hk O B) j).1 ≤ (gH (hk O A) i).1 + (gH (hk O A) i).2.1 := fun z => by
              apply nc
              refine ⟨i, j, hi, hj', ?_⟩
              unfold cfl
              rw [decide_eq_true (show (gH (hk O A) i).1 ≤ (gH (hk O B) j).1 + (gH (hk O B) j).2.1 by omega), decide_eq_true z, decide_eq_false hne]
              simp
            exact ⟨by omega, by omega, y3⟩
        · rw [List.length_append, List.length_append, sl_len (by omega), sl_len (by omega)]
          omega
      · rw [step, m1]
        show t M' (nI c0) (nI f) (nI ((gH (hk O A) i).1 + (gH (hk O A) i).2.1)) (nI (if true = true then i + 1 else i)) (nI (if true = true then (if x9 = true then 15 + j + 1 else 15 + j) else 15 + j + 1)) = t M' (nI c0) (nI f) (nI ((gH (hk O A) i).1 + (gH (hk O A) i).2.1)) (nI (i + 1)) (nI (15 + (if x9 = true then j + 1 else j)))
        rw [if_pos rfl, if_pos rfl]
        cases x9 <;> rfl
    · by_cases cB : j < (hk O B).length
      · -- theirs
        right
        obtain ⟨w1, w2, w3⟩ := v10 cB
        obtain ⟨x1, x2, x3, x4, x5⟩ := S1' j cB
        have row := rB M v2 j cB
        have hiB : i < (hk O A).length → (gH (hk O B) j).1 < (gH (hk O A) i).1 := fun hi => by
          apply Classical.byContradiction
          intro z
          exact cA ⟨hi, Or.inr (by omega)⟩
        have farB : i < (hk O A).length → (gH (hk O B) j).1 + (gH (hk O B) j).2.1 < (gH (hk O A) i).1 := fun hi => by
          have hlt := hiB hi
          apply Classical.byContradiction
          intro z
          apply nc
          refine ⟨i, j, hi, cB, ?_⟩
          unfold cfl
          rw [decide_eq_true (show (gH (hk O A) i).1 ≤ (gH (hk O B) j).1 + (gH (hk O B) j).2.1 by omega), decide_eq_true (show (gH (hk O B) j).1 ≤ (gH (hk O A) i).1 + (gH (hk O A) i).2.1 by omega), decide_eq_false (show ¬ (gH (hk O A) i).1 = (gH (hk O B) j).1 by omega)]
          simp
        have step : f12_mergesFile_44_s t M (nI c0) (nI f) (nI p) (nI i) (nI (15 + j)) = f12_mergesFile_173 t M (nI c0) (nI f) (nI p) (nI i) (nI (15 + j)) false false (nI (15 + j)) := by
          have j60 : rv_in (nI (15 + j)) 60 = true := q_inb (by omega) (by omega)
          have R2 : M 55 (15 + j) = nI (gH (hk O B) j).1 := row.1
          unfold f12_mergesFile_44_s f12_mergesFile_69 f12_mergesFile_115 f12_mergesFile_116 f12_mergesFile_158 f12_mergesFile_159
          simp only [i04, i14, if_true, N0, N1, e15, bf_t, if_false]
          have l1 : (nI (15 + j) < nI (15 + (hk O B).length)) = True := by rw [q_lt (by omega) (by omega)]; exact eq_true (by omega)
          have l2 : (nI (15 + j) = nI (15 + (hk O B).length)) = False := by rw [q_eq (by omega) (by omega)]; exact eq_false (by omega)
          simp only [l1, l2, if_true, not_false_eq_true, ite_self]
          by_cases c : i < (hk O A).length
          · have R1 : M 55 i = nI (gH (hk O A) i).1 := (rA M v2 i c).1
            have i60 : rv_in (nI i) 60 = true := q_inb (by omega) (by omega)
            obtain ⟨y1, y2, y3, y4, y5⟩ := S1 i c
            have := hiB c
            rw [if_pos (show nI i < nI (hk O A).length by rw [q_lt (by omega) (by omega)]; exact c), if_pos i60, if_pos j60, q_nc (by omega), q_nc (by omega), R1, R2, if_neg (by rw [q_le (by omega) (by omega)]; omega)]
          · rw [if_neg (show ¬ nI i < nI (hk O A).length by rw [q_lt (by omega) (by omega)]; exact c)]
        have hin0 : hin O B (gH (hk O B) j) := ⟨x3, x4, x5⟩
        have bnd : qa ≤ A.length + 0 := by
          by_cases c : i < (hk O A).length
          · have := v7 c; have := S1 i c; omega
          · have := v8 (by omega); omega
        have bnd2 : out.length + ((gH (hk O B) j).1 - p) + (gH (hk O B) j).2.2.2 ≤ 24 := by
          by_cases c : i < (hk O A).length
          · have := v7 c; have := S1 i c; have := hiB c; omega
          · have := v8 (by omega); omega
        obtain ⟨M', m1, m2, m3⟩ := s12_hunk (k44 := t) (i := i) (j := 15 + j) (x8 := false) (x9 := false) H64 h0 h2 hf (fR M v2 c0 O hO) (fR M v2 c2 B hB) (by omega) row hin0 w2 v1 bnd2
        have hmad : mad O A B (gH (hk O B) j).1 = some ((gH (hk O B) j).2.1, sl B (gH (hk O B) j).2.2.1 (gH (hk O B) j).2.2.2) := by
          unfold mad
          rw [(hat_next (hk_sd O A) v6 w1).2 hiB, (hat_next (hk_sd O B) v9 w1).1 cB rfl]
        have f1 := fold_to v5 w1 (none_at _ (fun z => Nat.le_of_lt (hiB z)) (fun _ => Nat.le_refl _))
        have f2 := fold_hunk f1 hmad
        refine ⟨(M', (gH (hk O B) j).1 + (gH (hk O B) j).2.1, i, j + 1), ?_, ?_⟩
        · show mInv O A B (m + 1) M0 M' ((gH (hk O B) j).1 + (gH (hk O B) j).2.1) i (j + 1)
          refine ⟨(gH (hk O B) j).1 + 1, _, qa + ((gH (hk O B) j).1 + (gH (hk O B) j).2.1 - p), (gH (hk O B) j).2.2.1 + (gH (hk O B) j).2.2.2, by omega, by omega, m2, fun q q1 q2 => by rw [m3 q q1 q2, v2 q q1 q2], v3, by show j + 1 ≤ _; omega, f2, fun i' hi' => by have := v6 i' hi'; omega, fun hi' => ?_, fun hi' => ?_, fun j' hj' => ?_, fun hj' => ?_, x4, x3, ?_⟩
          · have hi' : i < (hk O A).length := hi'
            have a1 := v7 hi'
            have a2 := farB hi'
            show (gH (hk O B) j).1 + 1 ≤ (gH (hk O A) i).1 ∧ (gH (hk O B) j).1 + (gH (hk O B) j).2.1 ≤ (gH (hk O A) i).1 ∧ (gH (hk O A) i).1 + (qa + ((gH (hk O B) j).1 + (gH (hk O B) j).2.1 - p)) = (gH (hk O A) i).2.2.1 + ((gH (hk O B) j).1 + (gH (hk O B) j).2.1)
            exact ⟨by omega, by omega, by omega⟩
          · have hi' : i = (hk O A).length := hi'
            have a1 := v8 hi'
            show O.length + (qa + ((gH (hk O B) j).1 + (gH (hk O B) j).2.1 - p)) = A.length + ((gH (hk O B) j).1 + (gH (hk O B) j).2.1)
            omega
          · have hj' : j' < j + 1 := hj'
            by_cases e : j' = j
            · subst e; omega
            · have := v9 j' (by omega); omega
          · have hj' : j + 1 < (hk O B).length := hj'
            have a1 := S2' j hj'
            show (gH (hk O B) j).1 + 1 ≤ (gH (hk O B) (j + 1)).1 ∧ (gH (hk O B) j).1 + (gH (hk O B) j).2.1 ≤ (gH (hk O B) (j + 1)).1 ∧ (gH (hk O B) j).2.2.1 + (gH (hk O B) j).2.2.2 ≤ (gH (hk O B) (j + 1)).2.2.1
            exact ⟨by omega, by omega, by omega⟩
          · rw [List.length_append, List.length_append, sl_len (by omega), sl_len (by omega)]
            omega
        · rw [step, m1]
          show t M' (nI c0) (nI f) (nI ((gH (hk O B) j).1 + (gH (hk O B) j).2.1)) (nI (if false = true then i + 1 else i)) (nI (if false = true then (if false = true then 15 + j + 1 else 15 + j) else 15 + j + 1)) = t M' (nI c0) (nI f) (nI ((gH (hk O B) j).1 + (gH (hk O B) j).2.1)) (nI i) (nI (15 + (j + 1)))
          rfl
      · -- the end
        left
        have hj : j = (hk O B).length := by omega
        have hi : i = (hk O A).length := by
          apply Classical.byContradiction
          intro z
          exact cA ⟨by omega, Or.inl hj⟩
        have b8 := v8 hi
        obtain ⟨M', m1, m2, m3⟩ := s12_fills (M := M) (a := p) (n := O.length - p) H64 h0 hf (fR M v2 c0 O hO) v1 (by omega) (by omega)
        have f1 := fold_to v5 k2 (none_at _ (fun z => by omega) (fun z => by omega))
        have em : mgd O A B = out ++ sl O p (O.length - p) := by
          unfold mgd
          rw [f1]
          show out ++ sl O p (O.length + 1 - p) = _
          rw [sl_step, if_neg (by omega), List.append_nil]
        rw [em]
        have ll : (out ++ sl O p (O.length - p)).length = out.length + (O.length - p) := by rw [List.length_append, sl_len (by omega)]
        refine ⟨M', ?_, m2, fun q q1 q2 => by rw [m3 q q1 q2, v2 q q1 q2], by omega⟩
        unfold f12_mergesFile_44_s
        rw [if_pos i04, N0, hi, if_pos (show nI (hk O A).length ≤ nI (hk O A).length by rw [q_le (by omega) (by omega)]; exact Nat.le_refl _), if_pos i14, N1, e15, hj, if_neg (show ¬ nI (15 + (hk O B).length) < nI (15 + (hk O B).length) by rw [q_lt (by omega) (by omega)]; omega), s12_sizeOf h0 hf, (fR M v2 c0 O hO).2.1, o1_some, q_sub (by omega), m1, o1_some, m2.1, ll]
        by_cases c : out.length + (O.length - p) ≤ 10
        · rw [if_pos (by rw [q_10, q_le (by omega) (by omega)]; exact c), decide_eq_true c]
        · rw [if_neg (by rw [q_10, q_le (by omega) (by omega)]; exact c), decide_eq_false c]
  · rintro t ⟨M, p, i, j⟩ hI
    have hI : mInv O A B (O.length + 2) M0 M p i j := hI
    obtain ⟨k, out, qa, sb, k1, k2, -⟩ := hI
    omega
  · refine ⟨0, [], 0, 0, Nat.le_refl _, by omega, hst, fun _ _ _ => rfl, Nat.zero_le _, Nat.zero_le _, ?_, fun i' hi' => absurd hi' (Nat.not_lt_zero _), fun hi => ?_, fun hi => ?_, fun i' hi' => absurd hi' (Nat.not_lt_zero _), fun hj => ?_, Nat.zero_le _, Nat.zero_le _, by simp⟩
    · show (0, []) = (0, [] ++ sl O 0 (0 - 0))
      rw [Nat.sub_self, sl_0]; rfl
    · have := L1 hi
      exact ⟨Nat.zero_le _, Nat.zero_le _, by simpa using this⟩
    · have := L0 hi.symm
      simpa using this
    · exact ⟨Nat.zero_le _, Nat.zero_le _, Nat.zero_le _⟩
