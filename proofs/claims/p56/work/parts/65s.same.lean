/-! KINDS -/
theorem ar_snoc (x : Nat → Bool) : ∀ d k, ar x k (d + 1) = (ar x k d && x (k + d)) := by
  intro d
  induction d with
  | zero => intro k; show (x k && true) = (true && x k); cases x k <;> rfl
  | succ d ih =>
    intro k
    show (x k && ar x (k + 1) (d + 1)) = (x k && ar x (k + 1) d && x (k + (d + 1)))
    rw [ih (k + 1), show k + 1 + d = k + (d + 1) by omega, Bool.and_assoc]
theorem ar_false {x : Nat → Bool} {k N : Nat} (h : ar x 0 k = false) (hk : k ≤ N) : ar x 0 N = false := by
  cases e : ar x 0 N with
  | false => rfl
  | true =>
    rw [ar_iff] at e
    have : ar x 0 k = true := (ar_iff k 0).mpr (fun j h1 h2 => e j h1 (by omega))
    rw [this] at h
    cases h
theorem wd_false (A : List Int32) : A.map (wd false) = A := by
  have : wd false = id := by funext x; unfold wd; rw [if_neg (by simp)]; rfl
  rw [this, List.map_id]
theorem zip_all {α : Type} (z : α) {H H' : List α} (P : α × α → Bool) (hl : H.length = H'.length) : (H.zip H').all P = ar (fun k => P (H.getD k z, H'.getD k z)) 0 H.length := by
  rw [Bool.eq_iff_iff, List.all_eq_true, ar_iff]
  have gd : ∀ (L : List α) k, k < L.length → L[k]? = some (L.getD k z) := fun L k h => by
    rw [List.getD_eq_getElem?_getD, List.getElem?_eq_getElem h]; rfl
  constructor
  · intro h j _ hj
    refine h _ (List.mem_iff_getElem?.mpr ⟨j, ?_⟩)
    rw [List.getElem?_zip_eq_some]
    exact ⟨gd H j (by omega), gd H' j (by omega)⟩
  · intro h x hx
    obtain ⟨j, hj⟩ := List.mem_iff_getElem?.mp hx
    rw [List.getElem?_zip_eq_some] at hj
    have hj1 := (List.getElem?_eq_some_iff.mp hj.1).1
    have e1 := gd H j hj1
    have e2 := gd H' j (by omega)
    rw [hj.1] at e1
    rw [hj.2] at e2
    have := h j (Nat.zero_le _) (by omega)
    rw [← Option.some.inj e1, ← Option.some.inj e2] at this
    exact this
def hz0 : Nat × Nat × Nat × Nat := (0, 0, 0, 0)
theorem H_get {H : List (Nat × Nat × Nat × Nat)} {k : Nat} (h : k < H.length) : H[k]? = some (H.getD k hz0) := by
  rw [List.getD_eq_getElem?_getD, List.getElem?_eq_getElem h]; rfl
theorem allalk_ar {A B A' B' : List Int32} (hl : (hk A B).length = (hk A' B').length) : allalk A B A' B' = ar (fun k => alk A B ((hk A B).getD k hz0) A' B' ((hk A' B').getD k hz0)) 0 (hk A B).length := by
  unfold allalk
  rw [decide_eq_true hl, Bool.true_and, zip_all hz0 _ hl]
theorem allalk_ne {A B A' B' : List Int32} (hl : ¬ (hk A B).length = (hk A' B').length) : allalk A B A' B' = false := by
  unfold allalk
  rw [decide_eq_false hl, Bool.false_and]
theorem allalk_symm (A B A' B' : List Int32) : allalk A B A' B' = allalk A' B' A B := by
  by_cases hl : (hk A B).length = (hk A' B').length
  · rw [allalk_ar hl, allalk_ar hl.symm, ← hl]
    exact ar_congr (fun j _ _ => alk_symm _ _ _ _ _ _)
  · rw [allalk_ne hl, allalk_ne (fun z => hl z.symm)]
theorem s3_oneByOne {gh : rC_gh} {M : rv_Mem} {A B A' B' : List Int32} (hA : A.length ≤ 10) (hB : B.length ≤ 10) (hA' : A'.length ≤ 10) (hB' : B'.length ≤ 10) (hc : cmpd M 7 A B) (hc' : cmpd M 8 A' B') : f3_isAlikeOneByOne gh M 7 8 = some (allalk A B A' B') := by
  have o7 : rC_is gh 4 7 = true := rfl
  have o8 : rC_is gh 4 8 = true := rfl
  have n7 : M 7 10 = nI (hk A B).length := hc.2.2.2.2.2.1
  have n8 : M 8 10 = nI (hk A' B').length := hc'.2.2.2.2.2.1
  have l7 := hk_len A B
  have l8 := hk_len A' B'
  unfold f3_isAlikeOneByOne
  rw [if_pos o7, if_pos o8, n7, n8]
  simp (disch := omega) only [q_eq]
  by_cases hl : (hk A B).length = (hk A' B').length
  · rw [if_pos hl, allalk_ar hl]
    have L := rv_all (z := (fun _ _ _ _ => none)) (F := f3_isAlikeOneByOne_19_s gh M) (fun t k b => t 7 8 b (nI k)) (hk A B).length (fun k => alk A B ((hk A B).getD k hz0) A' B' ((hk A' B').getD k hz0)) some ?_ ?_ ?_ rv_FU 0 true (Nat.zero_le _) (FU_lt (by omega))
    · rw [Bool.true_and] at L
      exact L
    · intro t k hk'
      unfold f3_isAlikeOneByOne_19_s
      rw [if_pos o7, n7, if_pos (by rw [q_lt (by omega) (by omega)]; exact hk'), if_pos rfl, s3_isAlike o7 o8 hA hB hA' hB' hc hc' (H_get hk') (H_get (by omega)), o1_some, q_succ]
    · intro t k hk'
      unfold f3_isAlikeOneByOne_19_s
      rw [if_pos o7, n7, if_pos (by rw [q_lt (by omega) (by omega)]; exact hk')]
      rfl
    · intro t b
      unfold f3_isAlikeOneByOne_19_s
      rw [if_pos o7, n7, if_neg (by rw [q_lt (by omega) (by omega)]; omega)]
  · rw [if_neg hl, allalk_ne hl]
    show rv_fx _ (f3_isAlikeOneByOne_19_s gh M) rv_FU 7 8 false 0 = _
    rw [fx_FU]
    generalize rv_fx _ (f3_isAlikeOneByOne_19_s gh M) 99999 = t
    unfold f3_isAlikeOneByOne_19_s
    rw [if_pos o7]
    simp only [bf_t, if_false, ite_self]
theorem list_eq_ar {A B : List Int32} (hl : A.length = B.length) : decide (A = B) = ar (fun k => decide (A.getD k 0 = B.getD k 0)) 0 A.length := by
  rw [Bool.eq_iff_iff, decide_eq_true_iff, ar_iff]
  constructor
  · intro h j _ _; rw [h]; exact decide_eq_true rfl
  · intro h
    apply List.ext_getElem?
    intro j
    by_cases hj : j < A.length
    · rw [get_D hj, get_D (by omega), of_decide_eq_true (h j (Nat.zero_le _) (by omega))]
    · rw [List.getElem?_eq_none (by omega), List.getElem?_eq_none (by omega)]
theorem s9_isSameFile {gh : rC_gh} {C : rv_Mem} {c1 c2 f : Nat} {A B : List Int32} (h1 : c1 < 82) (h2 : c2 < 82) (hf : f < 4) (hA : fileC C c1 f A) (hB : fileC C c2 f B) : f9_isSameFile gh C (nI c1) (nI c2) (nI f) = some (decide (A = B)) := by
  have lA := hA.1
  have lB := hB.1
  unfold f9_isSameFile
  rw [s9_sizeOf h1 hf, hA.2.1, o1_some, s9_sizeOf h2 hf, hB.2.1, o1_some]
  simp (disch := omega) only [q_eq]
  by_cases hl : A.length = B.length
  · rw [if_pos hl, list_eq_ar hl]
    have L := rv_all (z := (fun _ _ _ _ _ _ => none)) (F := f9_isSameFile_29_s gh C) (fun t k b => t (nI c1) (nI c2) (nI f) (nI A.length) b (nI k)) A.length (fun k => decide (A.getD k 0 = B.getD k 0)) some ?_ ?_ ?_ rv_FU 0 true (Nat.zero_le _) (FU_lt (by omega))
    · rw [Bool.true_and] at L
      exact L
    · intro t k hk'
      unfold f9_isSameFile_29_s f9_isSameFile_65
      rw [if_pos (by rw [q_lt (by omega) (by omega)]; exact hk'), if_pos rfl, s9_lineAt h1 hf hA.2.1 lA hk', o1_some, s9_lineAt h2 hf hB.2.1 lB (by omega), o1_some, hA.2.2 k hk', hB.2.2 k (by omega), q_succ]
      by_cases c : A.getD k 0 = B.getD k 0
      · rw [if_pos c, decide_eq_true c]
      · rw [if_neg c, decide_eq_false c]
    · intro t k hk'
      unfold f9_isSameFile_29_s
      rw [if_pos (by rw [q_lt (by omega) (by omega)]; exact hk')]
      rfl
    · intro t b
      unfold f9_isSameFile_29_s
      rw [if_neg (by rw [q_lt (by omega) (by omega)]; omega)]
  · rw [if_neg hl, decide_eq_false (fun z => hl (by rw [z]))]
    show rv_fx _ (f9_isSameFile_29_s gh C) rv_FU (nI c1) (nI c2) (nI f) (nI A.length) false 0 = _
    rw [fx_FU]
    generalize rv_fx _ (f9_isSameFile_29_s gh C) 99999 = t
    unfold f9_isSameFile_29_s
    simp only [bf_t, if_false, ite_self]
theorem s12_isSameFile {M : rv_Mem} {c1 c2 f : Nat} {A B : List Int32} (h1 : c1 < 82) (h2 : c2 < 82) (hf : f < 4) (hA : fileR M c1 f A) (hB : fileR M c2 f B) : f12_isSameFile M (nI c1) (nI c2) (nI f) = some (decide (A = B)) := by
  have lA := hA.1
  have lB := hB.1
  unfold f12_isSameFile
  rw [s12_sizeOf h1 hf, hA.2.1, o1_some, s12_sizeOf h2 hf, hB.2.1, o1_some]
  simp (disch := omega) only [q_eq]
  by_cases hl : A.length = B.length
  · rw [if_pos hl, list_eq_ar hl]
    have L := rv_all (z := (fun _ _ _ _ _ => none)) (F := f12_isSameFile_25_s M) (fun t k b => t (nI c1) (nI c2) (nI f) b (nI k)) A.length (fun k => decide (A.getD k 0 = B.getD k 0)) some ?_ ?_ ?_ rv_FU 0 true (Nat.zero_le _) (FU_lt (by omega))
    · rw [Bool.true_and] at L
      exact L
    · intro t k hk'
      unfold f12_isSameFile_25_s f12_isSameFile_81
      have v1 := hA.2.2 k hk'
      have v2 := hB.2.2 k (by omega)
      simp (disch := omega) only [s12_sizeOf h1 hf, hA.2.1, o1_some, q_lt, if_pos hk', if_true, q_10, q_4, q_mul, q_add, q_in, if_pos, q_nc, v1, v2, q_succ]
      by_cases c : A.getD k 0 = B.getD k 0
      · rw [if_pos c, decide_eq_true c]
      · rw [if_neg c, decide_eq_false c]
    · intro t k hk'
      unfold f12_isSameFile_25_s
      rw [s12_sizeOf h1 hf, hA.2.1, o1_some, if_pos (by rw [q_lt (by omega) (by omega)]; exact hk')]
      rfl
    · intro t b
      unfold f12_isSameFile_25_s
      rw [s12_sizeOf h1 hf, hA.2.1, o1_some, if_neg (by rw [q_lt (by omega) (by omega)]; omega)]
  · rw [if_neg hl, decide_eq_false (fun z => hl (by rw [z]))]
    show rv_fx _ (f12_isSameFile_25_s M) rv_FU (nI c1) (nI c2) (nI f) false 0 = _
    rw [fx_FU]
    generalize rv_fx _ (f12_isSameFile_25_s M) 99999 = t
    unfold f12_isSameFile_25_s
    rw [s12_sizeOf h1 hf, hA.2.1, o1_some]
    simp only [bf_t, if_false, ite_self]
theorem range4_all (x : Nat → Bool) : (List.range 4).all x = (x 0 && (x 1 && (x 2 && x 3))) := by
  rw [← ar_range]
  show (x 0 && (x 1 && (x 2 && (x 3 && true)))) = _
  rw [Bool.and_true]
theorem s12_areSameFiles {M : rv_Mem} {c1 c2 : Nat} {A B : Nat → List Int32} (h1 : c1 < 82) (h2 : c2 < 82) (hA : ∀ f, f < 4 → fileR M c1 f (A f)) (hB : ∀ f, f < 4 → fileR M c2 f (B f)) : f12_areSameFiles M (nI c1) (nI c2) = some ((List.range 4).all (fun f => decide (A f = B f))) := by
  have q := fun f (hf : f < 4) => s12_isSameFile (M := M) h1 h2 hf (hA f hf) (hB f hf)
  unfold f12_areSameFiles
  rw [range4_all]
  have q0 := q 0 (by omega)
  have q1 := q 1 (by omega)
  have q2 := q 2 (by omega)
  have q3 := q 3 (by omega)
  show rv_o1 (f12_isSameFile M (nI c1) (nI c2) (nI 0)) _ = _
  rw [q0, o1_some]
  cases decide (A 0 = B 0)
  · rfl
  show rv_o1 (f12_isSameFile M (nI c1) (nI c2) (nI 1)) _ = _
  rw [q1, o1_some]
  cases decide (A 1 = B 1)
  · rfl
  show rv_o1 (f12_isSameFile M (nI c1) (nI c2) (nI 2)) _ = _
  rw [q2, o1_some]
  cases decide (A 2 = B 2)
  · rfl
  show rv_o1 (f12_isSameFile M (nI c1) (nI c2) (nI 3)) _ = _
  rw [q3, o1_some]
  cases decide (A 3 = B 3) <;> rfl
