/-! WHERE A COMMENT IS SHOWN: the steps -/
def msk (k s : Nat) : Int32 := (((1 : Int32) <<< (nI k &&& 31)) - 1) <<< (nI s &&& 31)
def mskC (k s : Nat) : Bool := !(decide (1 ≤ k) && decide (s + k ≤ 10)) || (decide (msk k s ≠ 0) && (List.range 32).all (fun i => !decide (s + k ≤ i) || !bt (msk k s) i))
theorem mskC_ok : ∀ k, k < 11 → ∀ s, s < 10 → mskC k s = true := by decide +kernel
theorem msk_ok (k : Nat) (hk : k < 11) (h1 : 1 ≤ k) (s : Nat) (hs : s < 10) (h2 : s + k ≤ 10) : msk k s ≠ 0 ∧ ∀ i, i < 32 → s + k ≤ i → bt (msk k s) i = false := by
  have h := mskC_ok k hk s hs
  unfold mskC at h
  rw [decide_eq_true h1, decide_eq_true h2] at h
  have h : (decide (msk k s ≠ 0) && (List.range 32).all (fun i => !decide (s + k ≤ i) || !bt (msk k s) i)) = true := h
  rw [Bool.and_eq_true] at h
  refine ⟨of_decide_eq_true h.1, fun i hi hle => ?_⟩
  have := List.all_eq_true.mp h.2 i (by simpa using hi)
  rw [decide_eq_true hle] at this
  simpa using this
/-- the mates of a set of lines -/
def fwS (F : List (Option Nat)) (a : Nat) (x : Int32) : Int32 := up (fun k acc => if bt x k = true then (match F.getD k none with | some m => acc ||| ((1 : Int32) <<< (nI m &&& 31)) | none => acc) else acc) a 0 0
theorem fwS_bits {F : List (Option Nat)} {a b : Nat} {x : Int32} (hF : ∀ k m, F.getD k none = some m → m < b) (hb : b ≤ 10) : ∀ i, i < 32 → b ≤ i → bt (fwS F a x) i = false := by
  have h := up_inv (g := fun k acc => if bt x k = true then (match F.getD k none with | some m => acc ||| ((1 : Int32) <<< (nI m &&& 31)) | none => acc) else acc) (fun _ y => ∀ i, i < 32 → b ≤ i → bt y i = false) a 0 0 (fun i _ _ => b_0 i) (fun j y _ _ hy => ?_)
  · exact h
  · intro i hi hbi
    show bt (if bt x j = true then (match F.getD j none with | some m => y ||| ((1 : Int32) <<< (nI m &&& 31)) | none => y) else y) i = false
    split
    · split
      · rename_i m hm
        have := hF j m hm
        rw [b_or, hy i hi hbi, b_shl1 m (by omega) i hi, decide_eq_false (show ¬ i = m by omega)]
        rfl
      · exact hy i hi hbi
    · exact hy i hi hbi
/-- whether the lines stand at a place -/
def sg (A B : List Int32) (a k s : Nat) : Bool := decide (s + k ≤ B.length) && ar (fun j => decide (A.getD (a + j) 0 = B.getD (s + j) 0)) 0 k
def sgs (A B : List Int32) (a k : Nat) (s : Nat) (q : Nat × Int32) : Nat × Int32 := if sg A B a k s = true then (q.1 + 1, msk k s) else q
def fdS (A B : List Int32) (a k : Nat) : Int32 := if (up (sgs A B a k) 10 0 (0, 0)).1 = 1 then (up (sgs A B a k) 10 0 (0, 0)).2 else 0
theorem sgs_mono {A B : List Int32} {a k : Nat} : ∀ d s q, q.1 ≤ (up (sgs A B a k) d s q).1 := by
  intro d
  induction d with
  | zero => intro s q; exact Nat.le_refl _
  | succ d ih =>
    intro s q
    have h1 := ih (s + 1) (sgs A B a k s q)
    have h2 : q.1 ≤ (sgs A B a k s q).1 := by
      unfold sgs
      split
      · exact Nat.le_succ _
      · exact Nat.le_refl _
    show q.1 ≤ (up (sgs A B a k) d (s + 1) (sgs A B a k s q)).1
    omega
theorem fdS_bits {A B : List Int32} {a k : Nat} (hB : B.length ≤ 10) (h1 : 1 ≤ k) : ∀ i, i < 32 → B.length ≤ i → bt (fdS A B a k) i = false := by
  have h := up_inv (g := sgs A B a k) (fun _ q => ∀ i, i < 32 → B.length ≤ i → bt q.2 i = false) 10 0 (0, 0) (fun i _ _ => b_0 i) (fun j q _ hj hq => ?_)
  · intro i hi hbi
    unfold fdS
    split
    · exact h i hi hbi
    · exact b_0 i
  · intro i hi hbi
    unfold sgs
    by_cases c : sg A B a k j = true
    · rw [if_pos c]
      unfold sg at c
      rw [Bool.and_eq_true] at c
      have hl := of_decide_eq_true c.1
      exact (msk_ok k (by omega) h1 j (by omega) (by omega)).2 i hi (by omega)
    · rw [if_neg c]
      exact hq i hi hbi
theorem s9_isAgainAt {gh : rC_gh} {C : rv_Mem} {pl c1 c2 f a k s : Nat} {A B : List Int32} (h8 : rC_is gh 8 pl = true) (e2 : C pl 2 = nI f) (e3 : C pl 3 = nI a) (e4 : C pl 4 = nI k) (h1 : c1 < 82) (h2 : c2 < 82) (hf : f < 4) (hA : fileC C c1 f A) (hB : fileC C c2 f B) (hak : a + k ≤ A.length) (hs : s + k ≤ B.length) :
    f9_isAgainAt gh C pl (nI c1) (nI c2) (nI s) = some (ar (fun j => decide (A.getD (a + j) 0 = B.getD (s + j) 0)) 0 k) := by
  have lA := hA.1
  have lB := hB.1
  refine rv_ux (z := (fun _ _ _ _ _ => none)) (F := f9_isAgainAt_3_s gh C) (fun t j (_ : Unit) => t pl (nI c1) (nI c2) (nI s) (nI j)) k (fun j _ => ar (fun j => decide (A.getD (a + j) 0 = B.getD (s + j) 0)) 0 j = true) (fun r => r = some (ar (fun j => decide (A.getD (a + j) 0 = B.getD (s + j) 0)) 0 k)) ?_ ?_ rv_FU 0 () (Nat.zero_le _) (FU_lt (by omega)) rfl
  · intro t j _ hj hI
    have step : f9_isAgainAt_3_s gh C t pl (nI c1) (nI c2) (nI s) (nI j) = if A.getD (a + j) 0 = B.getD (s + j) 0 then t pl (nI c1) (nI c2) (nI s) (nI (j + 1)) else some false := by
      unfold f9_isAgainAt_3_s
      rw [if_pos h8, e4, if_pos (by rw [q_lt (by omega) (by omega)]; exact hj), e2, e3, q_add, s9_lineAt h1 hf hA.2.1 lA (by omega), o1_some, q_add, s9_lineAt h2 hf hB.2.1 lB (by omega), o1_some, hA.2.2 _ (by omega), hB.2.2 _ (by omega), q_succ]
      by_cases c : A.getD (a + j) 0 = B.getD (s + j) 0
      · rw [if_neg (fun z => z c), if_pos c]
      · rw [if_pos c, if_neg c]
    show f9_isAgainAt_3_s gh C t pl (nI c1) (nI c2) (nI s) (nI j) = _ ∨ ∃ _ : Unit, _ ∧ f9_isAgainAt_3_s gh C t pl (nI c1) (nI c2) (nI s) (nI j) = _
    rw [step]
    by_cases c : A.getD (a + j) 0 = B.getD (s + j) 0
    · right
      exact ⟨(), by rw [ar_snoc, Nat.zero_add, hI, decide_eq_true c]; rfl, by rw [if_pos c]⟩
    · left
      rw [if_neg c]
      have := ar_false (x := fun j => decide (A.getD (a + j) 0 = B.getD (s + j) 0)) (k := j + 1) (N := k) (by rw [ar_snoc, Nat.zero_add, decide_eq_false c, Bool.and_false]) (by omega)
      rw [this]
  · intro t _ hI
    show f9_isAgainAt_3_s gh C t pl (nI c1) (nI c2) (nI s) (nI k) = _
    unfold f9_isAgainAt_3_s
    rw [if_pos h8, e4, if_neg (by rw [q_lt (by omega) (by omega)]; omega), hI]
theorem s9_lookFor {gh : rC_gh} {C : rv_Mem} {pl c1 c2 f a k : Nat} {A B : List Int32} (h8 : rC_is gh 8 pl = true) (e2 : C pl 2 = nI f) (e3 : C pl 3 = nI a) (e4 : C pl 4 = nI k) (h1 : c1 < 82) (h2 : c2 < 82) (hf : f < 4) (hA : fileC C c1 f A) (hB : fileC C c2 f B) (hak : a + k ≤ A.length) (hk : 1 ≤ k) :
    f9_lookFor gh C pl (nI c1) (nI c2) = some (fdS A B a k) := by
  have lA := hA.1
  have lB := hB.1
  have start : f9_lookFor gh C pl (nI c1) (nI c2) = f9_lookFor_22 gh C rv_FU pl (nI c1) (nI c2) 0 (nI B.length - nI k) 0 := by
    unfold f9_lookFor
    rw [if_pos h8, e2, s9_sizeOf h2 hf, hB.2.1, o1_some, e4]
  rw [start]
  -- beyond the last place nothing stands
  have beyond : ∀ d s q, B.length < s + k → up (sgs A B a k) d s q = q := by
    intro d
    induction d with
    | zero => intro s q _; rfl
    | succ d ih =>
      intro s q hs
      show up (sgs A B a k) d (s + 1) (sgs A B a k s q) = q
      rw [ih (s + 1) _ (by omega)]
      unfold sgs sg
      rw [decide_eq_false (show ¬ s + k ≤ B.length by omega)]
      rfl
  by_cases hlast : k ≤ B.length
  · have e : nI B.length - nI k = nI (B.length - k) := q_sub hlast
    rw [e]
    refine rv_ux (z := (fun _ _ _ _ _ _ => none)) (F := f9_lookFor_22_s gh C) (fun t s (x : Int32) => t pl (nI c1) (nI c2) x (nI (B.length - k)) (nI s)) (B.length - k + 1) (fun s x => ((up (sgs A B a k) s 0 (0, 0)).1 = 0 ∧ x = 0) ∨ ((up (sgs A B a k) s 0 (0, 0)).1 = 1 ∧ x = (up (sgs A B a k) s 0 (0, 0)).2 ∧ x ≠ 0)) (fun r => r = some (fdS A B a k)) ?_ ?_ rv_FU 0 0 (Nat.zero_le _) (FU_lt (by omega)) (Or.inl ⟨rfl, rfl⟩)
    · intro t s x hs hI
      have hsg : sg A B a k s = ar (fun j => decide (A.getD (a + j) 0 = B.getD (s + j) 0)) 0 k := by
        unfold sg
        rw [decide_eq_true (show s + k ≤ B.length by omega), Bool.true_and]
      have step : f9_lookFor_22_s gh C t pl (nI c1) (nI c2) x (nI (B.length - k)) (nI s) = if sg A B a k s = true then (if ¬ x = 0 then some 0 else t pl (nI c1) (nI c2) (msk k s) (nI (B.length - k)) (nI (s + 1))) else t pl (nI c1) (nI c2) x (nI (B.length - k)) (nI (s + 1)) := by
        unfold f9_lookFor_22_s f9_lookFor_61
        rw [if_pos (by rw [q_le (by omega) (by omega)]; omega), s9_isAgainAt h8 e2 e3 e4 h1 h2 hf hA hB hak (by omega), o1_some, if_pos h8, e4, q_succ, hsg]
        rfl
      have es : up (sgs A B a k) (s + 1) 0 (0, 0) = sgs A B a k s (up (sgs A B a k) s 0 (0, 0)) := by rw [up_snoc, Nat.zero_add]
      have efin : ∀ d, up (sgs A B a k) (s + d) 0 (0, 0) = up (sgs A B a k) d s (up (sgs A B a k) s 0 (0, 0)) := fun d => by rw [up_add, Nat.zero_add]
      show f9_lookFor_22_s gh C t pl (nI c1) (nI c2) x (nI (B.length - k)) (nI s) = _ ∨ ∃ x', _ ∧ f9_lookFor_22_s gh C t pl (nI c1) (nI c2) x (nI (B.length - k)) (nI s) = _
      rw [step, es]
      by_cases c : sg A B a k s = true
      · rw [if_pos c]
        have eg : sgs A B a k s (up (sgs A B a k) s 0 (0, 0)) = ((up (sgs A B a k) s 0 (0, 0)).1 + 1, msk k s) := by
          unfold sgs
          rw [if_pos c]
        rcases hI with ⟨i1, i2⟩ | ⟨i1, i2, i3⟩
        · right
          rw [i2, if_neg (fun z => z rfl), eg, i1]
          exact ⟨msk k s, Or.inr ⟨rfl, rfl, (msk_ok k (by omega) hk s (by omega) (by omega)).1⟩, rfl⟩
        · left
          rw [if_pos i3]
          have h2 : 2 ≤ (up (sgs A B a k) 10 0 (0, 0)).1 := by
            have e10 : up (sgs A B a k) 10 0 (0, 0) = up (sgs A B a k) (10 - s - 1) (s + 1) (up (sgs A B a k) (s + 1) 0 (0, 0)) := by
              rw [show 10 = (s + 1) + (10 - s - 1) by omega, up_add, Nat.zero_add, show s + 1 + (10 - s - 1) - s - 1 = 10 - s - 1 by omega]
            have := sgs_mono (A := A) (B := B) (a := a) (k := k) (10 - s - 1) (s + 1) (up (sgs A B a k) (s + 1) 0 (0, 0))
            rw [← e10, es, eg] at this
            have this : (up (sgs A B a k) s 0 (0, 0)).1 + 1 ≤ (up (sgs A B a k) 10 0 (0, 0)).1 := this
            omega
          unfold fdS
          rw [if_neg (by omega)]
      · right
        rw [if_neg c]
        have eg : sgs A B a k s (up (sgs A B a k) s 0 (0, 0)) = up (sgs A B a k) s 0 (0, 0) := by
          unfold sgs
          rw [if_neg c]
        rw [eg]
        exact ⟨x, hI, rfl⟩
    · intro t x hI
      show f9_lookFor_22_s gh C t pl (nI c1) (nI c2) x (nI (B.length - k)) (nI (B.length - k + 1)) = _
      unfold f9_lookFor_22_s
      rw [if_neg (by rw [q_le (by omega) (by omega)]; omega)]
      have e10 : up (sgs A B a k) 10 0 (0, 0) = up (sgs A B a k) (B.length - k + 1) 0 (0, 0) := by
        have := beyond (10 - (B.length - k + 1)) (B.length - k + 1) (up (sgs A B a k) (B.length - k + 1) 0 (0, 0)) (by omega)
        rw [← this]
        have e2 := up_add (g := sgs A B a k) (B.length - k + 1) (10 - (B.length - k + 1)) 0 ((0, 0) : Nat × Int32)
        rw [Nat.zero_add, show B.length - k + 1 + (10 - (B.length - k + 1)) = 10 by omega] at e2
        exact e2
      unfold fdS
      rw [e10]
      rcases hI with ⟨i1, i2⟩ | ⟨i1, i2, i3⟩
      · rw [if_neg (by omega), i2]
      · rw [if_pos i1, i2]
  · -- the file is too short
    have hneg : ¬ (0 : Int32) ≤ nI B.length - nI k := by
      rw [Int32.le_iff_toInt_le]
      have e : nI B.length - nI k = NO - nI (k - 1 - B.length) := by
        rw [Int32.sub_eq_iff_eq_add]
        have h1 : nI k = nI (k - 1 - B.length) + nI (B.length + 1) := by rw [q_add]; congr 1; omega
        rw [h1, ← Int32.add_assoc, Int32.sub_add_cancel, ← q_add, Int32.add_comm (nI B.length), ← Int32.add_assoc, q_noadd]
        show _ = 0 + nI B.length
        rw [Int32.zero_add]
      rw [e]
      have hk10 : k - 1 - B.length < 10 := by omega
      have : ∀ m, m < 10 → ¬ (0 : Int32).toInt ≤ (NO - nI m).toInt := by decide
      exact this _ hk10
    show rv_fx _ (f9_lookFor_22_s gh C) rv_FU pl (nI c1) (nI c2) 0 (nI B.length - nI k) 0 = _
    rw [fx_FU]
    generalize rv_fx _ (f9_lookFor_22_s gh C) 99999 = t
    unfold f9_lookFor_22_s
    rw [if_neg hneg]
    have e10 := beyond 10 0 ((0, 0) : Nat × Int32) (by omega)
    unfold fdS
    rw [e10]
    rfl
theorem s12_stands {M : rv_Mem} {j c1 c2 f a k s q : Nat} {x : Int32} {A B : List Int32} (hj : j < 60) (h64 : rv_z (M 64 0) = false) (hc : f12_commitAt M (M 26 j) (M 27 j) = some (nI c1)) (e28 : M 28 j = nI f) (e29 : M 29 j = nI a) (e30 : M 30 j = nI k) (h1 : c1 < 82) (h2 : c2 < 82) (hf : f < 4) (hA : fileR M c1 f A) (hB : fileR M c2 f B) (hak : a + k ≤ A.length) (hs : s < 10) :
    f12_stands M (nI j) (nI c2) (nI s) = some (sg A B a k s) := by
  have lA := hA.1
  have lB := hB.1
  have h60 : rv_in (nI j) 60 = true := q_inb hj (by omega)
  have start : f12_stands M (nI j) (nI c2) (nI s) = if s + k ≤ B.length then f12_stands_45 M (nI j) (nI c2) (nI s) (nI c1) true else f12_stands_45 M (nI j) (nI c2) (nI s) (nI c1) false := by
    unfold f12_stands
    simp only [h60, if_true, q_nc (show j < 2147483648 by omega), hc, o1_some, e28, s12_sizeOf (M := M) h2 hf, hB.2.1, e30, q_add, q_le (show s + k < 2147483648 by omega) (show B.length < 2147483648 by omega)]
  rw [start]
  unfold sg
  by_cases c : s + k ≤ B.length
  · rw [if_pos c, decide_eq_true c, Bool.true_and]
    have L := rv_all (z := (fun _ _ _ _ _ _ => none)) (F := f12_stands_50_s M) (fun t i b => t (nI j) (nI c2) (nI s) (nI c1) b (nI i)) k (fun j => decide (A.getD (a + j) 0 = B.getD (s + j) 0)) some ?_ ?_ ?_ rv_FU 0 true (Nat.zero_le _) (FU_lt (by omega))
    · rw [Bool.true_and] at L
      exact L
    · intro t i hi
      unfold f12_stands_50_s f12_stands_110
      have v1 := s12_lineAt (M := M) (c := c1) (f := f) (p := a + i) h64 h1 hf (by omega)
      have v2 := s12_lineAt (M := M) (c := c2) (f := f) (p := s + i) h64 h2 hf (by omega)
      rw [hA.2.2 _ (by omega)] at v1
      rw [hB.2.2 _ (by omega)] at v2
      simp only [h60, if_true, q_nc (show j < 2147483648 by omega), e28, e29, e30, q_lt (show i < 2147483648 by omega) (show k < 2147483648 by omega), if_pos hi, q_add, v1, v2, o1_some, q_succ]
      by_cases c : A.getD (a + i) 0 = B.getD (s + i) 0
      · rw [if_pos c, decide_eq_true c]
      · rw [if_neg c, decide_eq_false c]
    · intro t i hi
      unfold f12_stands_50_s
      simp only [h60, if_true, q_nc (show j < 2147483648 by omega), e30, q_lt (show i < 2147483648 by omega) (show k < 2147483648 by omega), if_pos hi, bf_t, if_false]
    · intro t b
      unfold f12_stands_50_s
      simp only [h60, if_true, q_nc (show j < 2147483648 by omega), e30, q_lt (show k < 2147483648 by omega) (show k < 2147483648 by omega), Nat.lt_irrefl, if_false]
  · rw [if_neg c, decide_eq_false c, Bool.false_and]
    show rv_fx _ (f12_stands_50_s M) rv_FU (nI j) (nI c2) (nI s) (nI c1) false 0 = _
    rw [fx_FU]
    generalize rv_fx _ (f12_stands_50_s M) 99999 = t
    unfold f12_stands_50_s
    simp only [h60, if_true, bf_t, if_false, ite_self]
theorem s12_found {M : rv_Mem} {j c1 c2 f a k : Nat} {A B : List Int32} (hj : j < 60) (h64 : rv_z (M 64 0) = false) (hc : f12_commitAt M (M 26 j) (M 27 j) = some (nI c1)) (e28 : M 28 j = nI f) (e29 : M 29 j = nI a) (e30 : M 30 j = nI k) (h1 : c1 < 82) (h2 : c2 < 82) (hf : f < 4) (hA : fileR M c1 f A) (hB : fileR M c2 f B) (hak : a + k ≤ A.length) :
    f12_found M (nI j) (nI c2) = some (fdS A B a k) := by
  have h60 : rv_in (nI j) 60 = true := q_inb hj (by omega)
  have L := rv_ui (z := (fun _ _ _ _ _ => none)) (F := f12_found_8_s M) (fun t s (q : Nat × Int32) => t (nI j) (nI c2) (nI q.1) q.2 (nI s)) 10 (fun s q => q = up (sgs A B a k) s 0 (0, 0) ∧ q.1 ≤ s) (fun q => if q.1 = 1 then some q.2 else some 0) ?_ ?_ rv_FU 0 (0, 0) (Nat.zero_le _) (FU_lt (by omega)) ⟨rfl, Nat.le_refl _⟩
  · obtain ⟨q, ⟨rfl, -⟩, x2⟩ := L
    unfold fdS
    refine Eq.trans x2 ?_
    split <;> rfl
  · rintro t s q hs ⟨rfl, hle⟩
    have es : up (sgs A B a k) (s + 1) 0 (0, 0) = sgs A B a k s (up (sgs A B a k) s 0 (0, 0)) := by rw [up_snoc, Nat.zero_add]
    generalize up (sgs A B a k) s 0 (0, 0) = q at *
    refine ⟨sgs A B a k s q, ⟨es.symm, ?_⟩, ?_⟩
    · unfold sgs
      split
      · show q.1 + 1 ≤ s + 1; omega
      · omega
    · show f12_found_8_s M t (nI j) (nI c2) (nI q.1) q.2 (nI s) = t (nI j) (nI c2) (nI (sgs A B a k s q).1) (sgs A B a k s q).2 (nI (s + 1))
      unfold f12_found_8_s f12_found_36 f12_found_61
      rw [if_pos (by rw [q_10, q_lt (by omega) (by omega)]; exact hs), s12_stands (q := 0) (x := 0) hj h64 hc e28 e29 e30 h1 h2 hf hA hB hak hs, o1_some, if_pos h60, q_nc (by omega), e30, q_succ]
      unfold sgs
      cases sg A B a k s with
      | true =>
        rw [if_pos rfl, if_pos rfl, if_pos rfl, rvi_t, q_add]
        rfl
      | false =>
        rw [if_neg (by simp), if_neg (by simp), if_neg (by simp), rvi_f, q_add]
        rfl
  · rintro t q ⟨-, hle⟩
    show f12_found_8_s M t (nI j) (nI c2) (nI q.1) q.2 (nI 10) = _
    unfold f12_found_8_s
    rw [if_neg (by rw [q_10, q_lt (by omega) (by omega)]; omega)]
    have : (nI q.1 = 1) = (q.1 = 1) := q_eq (b := 1) (by omega) (by omega)
    simp only [this]
