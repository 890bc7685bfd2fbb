/-! ALIKE -/
theorem fx_FU {T : Type} {z : T} {F : T → T} : rv_fx z F rv_FU = F (rv_fx z F 99999) := rfl
theorem sl_get {a : List Int32} {p d j : Nat} : (sl a p d)[j]? = if j < d then a[p + j]? else none := by
  unfold sl
  by_cases h : j < d
  · rw [if_pos h, List.getElem?_take_of_lt h, List.getElem?_drop]
  · rw [if_neg h, List.getElem?_take_eq_none (by omega)]
theorem get_D {a : List Int32} {p : Nat} (h : p < a.length) : a[p]? = some (a.getD p 0) := by
  rw [List.getD_eq_getElem?_getD, List.getElem?_eq_getElem h]
  rfl
theorem sl_eq {a a' : List Int32} {p p' d : Nat} (h1 : p + d ≤ a.length) (h2 : p' + d ≤ a'.length) : decide (sl a p d = sl a' p' d) = ar (fun k => decide (a.getD (p + k) 0 = a'.getD (p' + k) 0)) 0 d := by
  rw [Bool.eq_iff_iff, decide_eq_true_iff, ar_iff]
  constructor
  · intro h j _ hj
    have e : (sl a p d)[j]? = (sl a' p' d)[j]? := by rw [h]
    rw [sl_get, sl_get, if_pos (by omega), if_pos (by omega), get_D (by omega), get_D (by omega)] at e
    exact decide_eq_true (Option.some.inj e)
  · intro h
    apply List.ext_getElem?
    intro j
    rw [sl_get, sl_get]
    by_cases hj : j < d
    · rw [if_pos hj, if_pos hj, get_D (by omega), get_D (by omega), of_decide_eq_true (h j (Nat.zero_le _) (by omega))]
    · rw [if_neg hj, if_neg hj]
theorem alk_ne {a b a' b' : List Int32} {h h' : Nat × Nat × Nat × Nat} (c : ¬ (h.2.1 = h'.2.1 ∧ h.2.2.2 = h'.2.2.2)) : alk a b h a' b' h' = false := by
  unfold alk
  by_cases c1 : h.2.1 = h'.2.1
  · have c2 : ¬ h.2.2.2 = h'.2.2.2 := fun z => c ⟨c1, z⟩
    simp [c2]
  · simp [c1]
theorem alk_ar {a b a' b' : List Int32} {p d q e p' q' : Nat} (h1 : p + d ≤ a.length) (h2 : q + e ≤ b.length) (h3 : p' + d ≤ a'.length) (h4 : q' + e ≤ b'.length) : alk a b (p, d, q, e) a' b' (p', d, q', e) = (ar (fun k => decide (a.getD (p + k) 0 = a'.getD (p' + k) 0)) 0 d && ar (fun k => decide (b.getD (q + k) 0 = b'.getD (q' + k) 0)) 0 e) := by
  unfold alk
  rw [← sl_eq h1 h3, ← sl_eq h2 h4]
  simp
theorem alk_symm (a b a' b' : List Int32) (h h' : Nat × Nat × Nat × Nat) : alk a b h a' b' h' = alk a' b' h' a b h := by
  unfold alk
  rw [Bool.eq_iff_iff]
  simp only [Bool.and_eq_true, decide_eq_true_iff]
  constructor
  · rintro ⟨⟨⟨h1, h2⟩, h3⟩, h4⟩; exact ⟨⟨⟨h1.symm, h2.symm⟩, h3.symm⟩, h4.symm⟩
  · rintro ⟨⟨⟨h1, h2⟩, h3⟩, h4⟩; exact ⟨⟨⟨h1.symm, h2.symm⟩, h3.symm⟩, h4.symm⟩
def crow (M : rv_Mem) (o i : Nat) (h : Nat × Nat × Nat × Nat) : Prop := M (o + 26) i = nI h.1 ∧ M (o + 28) i = nI h.2.1 ∧ M (o + 30) i = nI h.2.2.1 ∧ M (o + 32) i = nI h.2.2.2
def hrow (M : rv_Mem) (i c1 c2 : Nat) (h : Nat × Nat × Nat × Nat) : Prop := M 55 i = nI h.1 ∧ M 57 i = nI h.2.1 ∧ M 56 i = nI h.2.2.1 ∧ M 58 i = nI h.2.2.2 ∧ M 59 i = nI c1 ∧ M 60 i = nI c2
def hin (A B : List Int32) (h : Nat × Nat × Nat × Nat) : Prop := h.1 + h.2.1 ≤ A.length ∧ h.2.2.1 + h.2.2.2 ≤ B.length ∧ 0 < h.2.1 + h.2.2.2
theorem cmpd_row {M : rv_Mem} {o : Nat} {A B : List Int32} (hc : cmpd M o A B) {i : Nat} {h : Nat × Nat × Nat × Nat} (hi : (hk A B)[i]? = some h) : crow M o i h ∧ hin A B h ∧ i ≤ A.length := by
  obtain ⟨p, d, q, e⟩ := h
  refine ⟨hc.2.2.2.2.2.2 i p d q e hi, hsd_at _ _ _ (hk_sd A B) i p d q e hi, ?_⟩
  have := hk_len A B
  have := (List.getElem?_eq_some_iff.mp hi).1
  omega
theorem s3_isAlike {gh : rC_gh} {o o' : Nat} {M : rv_Mem} {i j : Nat} {h h' : Nat × Nat × Nat × Nat} {A B A' B' : List Int32} (ho : rC_is gh 4 o = true) (ho' : rC_is gh 4 o' = true) (hA : A.length ≤ 10) (hB : B.length ≤ 10) (hA' : A'.length ≤ 10) (hB' : B'.length ≤ 10) (hc : cmpd M o A B) (hc' : cmpd M o' A' B') (hi : (hk A B)[i]? = some h) (hj : (hk A' B')[j]? = some h') :
    f3_isAlike gh M o (nI i) o' (nI j) = some (alk A B h A' B' h') := by
  obtain ⟨⟨r1, r2, r3, r4⟩, ⟨b1, b2, -⟩, li⟩ := cmpd_row hc hi
  obtain ⟨⟨r1', r2', r3', r4'⟩, ⟨b1', b2', -⟩, lj⟩ := cmpd_row hc' hj
  obtain ⟨p, d, q, e⟩ := h
  obtain ⟨p', d', q', e'⟩ := h'
  simp only at r1 r2 r3 r4 b1 b2 r1' r2' r3' r4' b1' b2'
  by_cases cd : d = d' ∧ e = e'
  · obtain ⟨rfl, rfl⟩ := cd
    rw [alk_ar b1 b2 b1' b2']
    have second : ∀ b, f3_isAlike_100 gh M o (nI i) o' (nI j) b = some (b && ar (fun k => decide (B.getD (q + k) 0 = B'.getD (q' + k) 0)) 0 e) := by
      intro b
      refine rv_all (z := (fun _ _ _ _ _ _ => none)) (F := f3_isAlike_103_s gh M) (fun t k b => t o (nI i) o' (nI j) b (nI k)) e (fun k => decide (B.getD (q + k) 0 = B'.getD (q' + k) 0)) some ?_ ?_ ?_ rv_FU 0 b (Nat.zero_le _) (FU_lt (by omega))
      · intro t k hk
        unfold f3_isAlike_103_s f3_isAlike_155
        have v1 := hc.2.2.2.1 (q + k) (by omega)
        have v2 := hc'.2.2.2.1 (q' + k) (by omega)
        simp (disch := omega) only [ho, ho', if_true, q_in, if_pos, q_nc, r3, r4, r3', q_lt, q_add, v1, v2, q_succ]
        by_cases c : B.getD (q + k) 0 = B'.getD (q' + k) 0
        · rw [if_pos c, decide_eq_true c]
        · rw [if_neg c, decide_eq_false c]
      · intro t k hk
        unfold f3_isAlike_103_s
        simp (disch := omega) only [ho, if_true, q_in, if_pos, q_nc, r4, q_lt, bf_t, if_false]
      · intro t b
        unfold f3_isAlike_103_s
        simp (disch := omega) only [ho, if_true, q_in, if_pos, q_nc, r4, q_lt, Nat.lt_irrefl, if_false]
    have first : f3_isAlike_35 gh M o (nI i) o' (nI j) true = f3_isAlike_100 gh M o (nI i) o' (nI j) (true && ar (fun k => decide (A.getD (p + k) 0 = A'.getD (p' + k) 0)) 0 d) := by
      refine rv_all (z := (fun _ _ _ _ _ _ => none)) (F := f3_isAlike_40_s gh M) (fun t k b => t o (nI i) o' (nI j) b (nI k)) d (fun k => decide (A.getD (p + k) 0 = A'.getD (p' + k) 0)) (fun b => f3_isAlike_100 gh M o (nI i) o' (nI j) b) ?_ ?_ ?_ rv_FU 0 true (Nat.zero_le _) (FU_lt (by omega))
      · intro t k hk
        unfold f3_isAlike_40_s f3_isAlike_92
        have v1 := hc.2.2.1 (p + k) (by omega)
        have v2 := hc'.2.2.1 (p' + k) (by omega)
        simp (disch := omega) only [ho, ho', if_true, q_in, if_pos, q_nc, r1, r2, r1', q_lt, q_add, v1, v2, q_succ]
        by_cases c : A.getD (p + k) 0 = A'.getD (p' + k) 0
        · rw [if_pos c, decide_eq_true c]
        · rw [if_neg c, decide_eq_false c]
      · intro t k hk
        unfold f3_isAlike_40_s
        simp (disch := omega) only [ho, if_true, q_in, if_pos, q_nc, r2, q_lt, bf_t, if_false]
      · intro t b
        unfold f3_isAlike_40_s
        simp (disch := omega) only [ho, if_true, q_in, if_pos, q_nc, r2, q_lt, Nat.lt_irrefl, if_false]
    unfold f3_isAlike
    simp (disch := omega) only [ho, ho', if_true, q_in, if_pos, q_nc, r2, r4, r2', r4']
    rw [first, second, Bool.true_and]
  · rw [alk_ne cd]
    have second : f3_isAlike_100 gh M o (nI i) o' (nI j) false = some false := by
      show rv_fx _ (f3_isAlike_103_s gh M) rv_FU o (nI i) o' (nI j) false (nI 0) = _
      rw [fx_FU]
      generalize rv_fx _ (f3_isAlike_103_s gh M) 99999 = t
      unfold f3_isAlike_103_s
      simp (disch := omega) only [ho, if_true, q_in, if_pos, q_nc, bf_t, if_false, ite_self]
    have first : f3_isAlike_35 gh M o (nI i) o' (nI j) false = some false := by
      show rv_fx _ (f3_isAlike_40_s gh M) rv_FU o (nI i) o' (nI j) false (nI 0) = _
      rw [fx_FU]
      generalize rv_fx _ (f3_isAlike_40_s gh M) 99999 = t
      unfold f3_isAlike_40_s
      simp (disch := omega) only [ho, if_true, q_in, if_pos, q_nc, bf_t, if_false, ite_self, second]
    unfold f3_isAlike f3_isAlike_34
    simp (disch := omega) only [ho, ho', if_true, q_in, if_pos, q_nc, r2, r4, r2', r4', q_eq]
    by_cases c1 : d = d'
    · rw [if_pos c1, if_neg (fun z => cd ⟨c1, z⟩)]
      exact first
    · rw [if_neg c1]
      exact first
theorem s12_areAlike {M : rv_Mem} {i j c1 c2 c1' c2' f : Nat} {h h' : Nat × Nat × Nat × Nat} {A B A' B' : List Int32} {g : Int32 → Int32} (hg : wd (rv_z (M 64 0)) = g) (h1 : c1 < 82) (h2 : c2 < 82) (h1' : c1' < 82) (h2' : c2' < 82) (hf : f < 4) (hi : i < 60) (hj : j < 60) (hA : fileR M c1 f A) (hB : fileR M c2 f B) (hA' : fileR M c1' f A') (hB' : fileR M c2' f B') (hr : hrow M i c1 c2 h) (hr' : hrow M j c1' c2' h') (hb : hin A B h) (hb' : hin A' B' h') :
    f12_areAlike M (nI i) (nI j) (nI f) = some (alk (A.map g) (B.map g) h (A'.map g) (B'.map g) h') := by
  obtain ⟨r1, r2, r3, r4, r5, r6⟩ := hr
  obtain ⟨r1', r2', r3', r4', r5', r6'⟩ := hr'
  obtain ⟨b1, b2, -⟩ := hb
  obtain ⟨b1', b2', -⟩ := hb'
  obtain ⟨p, d, q, e⟩ := h
  obtain ⟨p', d', q', e'⟩ := h'
  simp only at r1 r2 r3 r4 b1 b2 r1' r2' r3' r4' b1' b2'
  have lA := hA.1
  have lB := hB.1
  have lA' := hA'.1
  have lB' := hB'.1
  by_cases cd : d = d' ∧ e = e'
  · obtain ⟨rfl, rfl⟩ := cd
    rw [alk_ar (by simpa using b1) (by simpa using b2) (by simpa using b1') (by simpa using b2')]
    have second : ∀ b, f12_areAlike_112 M (nI i) (nI j) (nI f) b = some (b && ar (fun k => decide ((B.map g).getD (q + k) 0 = (B'.map g).getD (q' + k) 0)) 0 e) := by
      intro b
      refine rv_all (z := (fun _ _ _ _ _ => none)) (F := f12_areAlike_115_s M) (fun t k b => t (nI i) (nI j) (nI f) b (nI k)) e (fun k => decide ((B.map g).getD (q + k) 0 = (B'.map g).getD (q' + k) 0)) some ?_ ?_ ?_ rv_FU 0 b (Nat.zero_le _) (FU_lt (by omega))
      · intro t k hk
        unfold f12_areAlike_115_s f12_areAlike_179
        have v1 := s12_lineAtW (M := M) (c := c2) (f := f) (p := q + k) h2 hf (by omega)
        have v2 := s12_lineAtW (M := M) (c := c2') (f := f) (p := q' + k) h2' hf (by omega)
        rw [hg, hB.2.2 _ (by omega), ← map_getD (g := g) (show q + k < B.length by omega)] at v1
        rw [hg, hB'.2.2 _ (by omega), ← map_getD (g := g) (show q' + k < B'.length by omega)] at v2
        simp (disch := omega) only [if_true, q_in, if_pos, q_nc, r3, r4, r3', r6, r6', q_lt, q_add, v1, v2, o1_some, q_succ]
        by_cases c : (B.map g).getD (q + k) 0 = (B'.map g).getD (q' + k) 0
        · rw [if_pos c, decide_eq_true c]
        · rw [if_neg c, decide_eq_false c]
      · intro t k hk
        unfold f12_areAlike_115_s
        simp (disch := omega) only [if_true, q_in, if_pos, q_nc, r4, q_lt, bf_t, if_false]
      · intro t b
        unfold f12_areAlike_115_s
        simp (disch := omega) only [if_true, q_in, if_pos, q_nc, r4, q_lt, Nat.lt_irrefl, if_false]
    have first : f12_areAlike_35 M (nI i) (nI j) (nI f) true = f12_areAlike_112 M (nI i) (nI j) (nI f) (true && ar (fun k => decide ((A.map g).getD (p + k) 0 = (A'.map g).getD (p' + k) 0)) 0 d) := by
      refine rv_all (z := (fun _ _ _ _ _ => none)) (F := f12_areAlike_40_s M) (fun t k b => t (nI i) (nI j) (nI f) b (nI k)) d (fun k => decide ((A.map g).getD (p + k) 0 = (A'.map g).getD (p' + k) 0)) (fun b => f12_areAlike_112 M (nI i) (nI j) (nI f) b) ?_ ?_ ?_ rv_FU 0 true (Nat.zero_le _) (FU_lt (by omega))
      · intro t k hk
        unfold f12_areAlike_40_s f12_areAlike_104
        have v1 := s12_lineAtW (M := M) (c := c1) (f := f) (p := p + k) h1 hf (by omega)
        have v2 := s12_lineAtW (M := M) (c := c1') (f := f) (p := p' + k) h1' hf (by omega)
        rw [hg, hA.2.2 _ (by omega), ← map_getD (g := g) (show p + k < A.length by omega)] at v1
        rw [hg, hA'.2.2 _ (by omega), ← map_getD (g := g) (show p' + k < A'.length by omega)] at v2
        simp (disch := omega) only [if_true, q_in, if_pos, q_nc, r1, r2, r1', r5, r5', q_lt, q_add, v1, v2, o1_some, q_succ]
        by_cases c : (A.map g).getD (p + k) 0 = (A'.map g).getD (p' + k) 0
        · rw [if_pos c, decide_eq_true c]
        · rw [if_neg c, decide_eq_false c]
      · intro t k hk
        unfold f12_areAlike_40_s
        simp (disch := omega) only [if_true, q_in, if_pos, q_nc, r2, q_lt, bf_t, if_false]
      · intro t b
        unfold f12_areAlike_40_s
        simp (disch := omega) only [if_true, q_in, if_pos, q_nc, r2, q_lt, Nat.lt_irrefl, if_false]
    unfold f12_areAlike
    simp (disch := omega) only [if_true, q_in, if_pos, q_nc, r2, r4, r2', r4']
    rw [first, second, Bool.true_and]
  · rw [alk_ne cd]
    have second : f12_areAlike_112 M (nI i) (nI j) (nI f) false = some false := by
      show rv_fx _ (f12_areAlike_115_s M) rv_FU (nI i) (nI j) (nI f) false (nI 0) = _
      rw [fx_FU]
      generalize rv_fx _ (f12_areAlike_115_s M) 99999 = t
      unfold f12_areAlike_115_s
      simp (disch := omega) only [if_true, q_in, if_pos, q_nc, bf_t, if_false, ite_self]
    have first : f12_areAlike_35 M (nI i) (nI j) (nI f) false = some false := by
      show rv_fx _ (f12_areAlike_40_s M) rv_FU (nI i) (nI j) (nI f) false (nI 0) = _
      rw [fx_FU]
      generalize rv_fx _ (f12_areAlike_40_s M) 99999 = t
      unfold f12_areAlike_40_s
      simp (disch := omega) only [if_true, q_in, if_pos, q_nc, bf_t, if_false, ite_self, second]
    unfold f12_areAlike f12_areAlike_34
    simp (disch := omega) only [if_true, q_in, if_pos, q_nc, r2, r4, r2', r4', q_eq]
    by_cases c1 : d = d'
    · rw [if_pos c1, if_neg (fun z => cd ⟨c1, z⟩)]
      exact first
    · rw [if_neg c1]
      exact first
