/-! HOW MANY BITS; THE LEAST SETS -/
def bs (x : Int32) : Nat → Nat
  | 0 => 0
  | k + 1 => bs x k + (if bt x k = true then 1 else 0)
theorem bs_le (x : Int32) : ∀ k, bs x k ≤ k := by
  intro k
  induction k with
  | zero => exact Nat.le_refl _
  | succ k ih =>
    have e : bs x (k + 1) = bs x k + (if bt x k = true then 1 else 0) := rfl
    rw [e]
    split <;> omega
theorem b_and1 {x : Int32} {k : Nat} (hk : k < 32) : (x >>> (nI k &&& 31)) &&& 1 = nI (if bt x k = true then 1 else 0) := by
  cases c : bt x k with
  | true =>
    have h : ((x >>> (nI k &&& 31)) &&& 1 = 1) = (bt x k = true) := b_test hk
    exact h.mpr c
  | false =>
    have h : ((x >>> (nI k &&& 31)) &&& 1 = 0) = (bt x k = false) := b_test0 hk
    exact h.mpr c
theorem s12_bits (x : Int32) : f12_bits x = some (nI (bs x 20)) := by
  have L := rv_ui (z := (fun _ _ _ => none)) (F := f12_bits_4_s) (fun t j (a : Nat) => t x (nI a) (nI j)) 20 (fun j a => a = bs x j) (fun a => some (nI a)) ?_ ?_ rv_FU 0 0 (Nat.zero_le _) (FU_lt (by omega)) rfl
  · obtain ⟨a, rfl, x2⟩ := L
    exact x2
  · rintro t j a hj rfl
    refine ⟨bs x (j + 1), rfl, ?_⟩
    show f12_bits_4_s t x (nI (bs x j)) (nI j) = t x (nI (bs x j + (if bt x j = true then 1 else 0))) (nI (j + 1))
    unfold f12_bits_4_s
    rw [if_pos (by rw [q_20, q_lt (by omega) (by omega)]; exact hj), b_and1 (by omega), q_add, q_succ]
  · intro t a _
    show f12_bits_4_s t x (nI a) (nI 20) = _
    unfold f12_bits_4_s
    rw [if_neg (by rw [q_20, q_lt (by omega) (by omega)]; omega)]
theorem sJ_bits256 : ∀ m, m < 256 → fJ_bits (nI m) = some (nI (bs (nI m) 20)) := by decide +kernel
theorem bs_63 : ∀ m, m < 64 → 6 ≤ bs (nI m) 20 → m = 63 := by decide +kernel
theorem bs_63' : bs (nI 63) 20 = 6 := by decide +kernel
/-- the least set of those below N that are so: first by its bits, then by its number -/
def isMin (N : Nat) (ok : Nat → Bool) : Option Nat → Prop
  | none => ∀ x, x < N → ok x = false
  | some m => m < N ∧ ok m = true ∧ ∀ x, x < N → ok x = true → bs (nI m) 20 < bs (nI x) 20 ∨ (bs (nI m) 20 = bs (nI x) 20 ∧ m ≤ x)
theorem isMin_uniq {N : Nat} {ok : Nat → Bool} {r r' : Option Nat} (h : isMin N ok r) (h' : isMin N ok r') : r = r' := by
  cases r with
  | none =>
    cases r' with
    | none => rfl
    | some m' =>
      have := h m' h'.1
      rw [h'.2.1] at this
      cases this
  | some m =>
    cases r' with
    | none =>
      have := h' m h.1
      rw [h.2.1] at this
      cases this
    | some m' =>
      have a := h.2.2 m' h'.1 h'.2.1
      have b := h'.2.2 m h.1 h.2.1
      congr 1
      omega
theorem ex_min (N : Nat) (ok : Nat → Bool) : ∃ r, isMin N ok r := by
  induction N with
  | zero => exact ⟨none, fun x hx => absurd hx (Nat.not_lt_zero _)⟩
  | succ N ih =>
    obtain ⟨r, hr⟩ := ih
    cases c : ok N with
    | false =>
      refine ⟨r, ?_⟩
      cases r with
      | none =>
        intro x hx
        by_cases e : x = N
        · rw [e]; exact c
        · exact hr x (by omega)
      | some m =>
        refine ⟨by have := hr.1; omega, hr.2.1, fun x hx hok => ?_⟩
        by_cases e : x = N
        · rw [e, c] at hok; cases hok
        · exact hr.2.2 x (by omega) hok
    | true =>
      cases r with
      | none =>
        refine ⟨some N, by omega, c, fun x hx hok => ?_⟩
        by_cases e : x = N
        · subst e; exact Or.inr ⟨rfl, Nat.le_refl _⟩
        · have := hr x (by omega)
          rw [hok] at this; cases this
      | some m =>
        by_cases c2 : bs (nI N) 20 < bs (nI m) 20
        · refine ⟨some N, by omega, c, fun x hx hok => ?_⟩
          by_cases e : x = N
          · subst e; exact Or.inr ⟨rfl, Nat.le_refl _⟩
          · have := hr.2.2 x (by omega) hok
            left; omega
        · refine ⟨some m, by have := hr.1; omega, hr.2.1, fun x hx hok => ?_⟩
          by_cases e : x = N
          · subst e
            have := hr.1
            omega
          · exact hr.2.2 x (by omega) hok
/-- upward, as the class does -/
def upM (ok : Nat → Bool) : Nat → Option Nat → Option Nat := fun k r => match r with
  | none => if ok k = true then some k else none
  | some m => if bs (nI k) 20 < bs (nI m) 20 ∧ ok k = true then some k else some m
theorem upM_min (ok : Nat → Bool) : ∀ k, isMin k ok (up (upM ok) k 0 none) := by
  intro k
  induction k with
  | zero => intro x hx; exact absurd hx (Nat.not_lt_zero _)
  | succ k ih =>
    rw [up_snoc, Nat.zero_add]
    revert ih
    generalize up (upM ok) k 0 none = r
    intro hr
    cases r with
    | none =>
      show isMin (k + 1) ok (if ok k = true then some k else none)
      by_cases c : ok k = true
      · rw [if_pos c]
        refine ⟨by omega, c, fun x hx hok => ?_⟩
        by_cases e : x = k
        · subst e; exact Or.inr ⟨rfl, Nat.le_refl _⟩
        · have := hr x (by omega)
          rw [hok] at this; cases this
      · rw [if_neg c]
        intro x hx
        by_cases e : x = k
        · rw [e]; simpa using c
        · exact hr x (by omega)
    | some m =>
      show isMin (k + 1) ok (if bs (nI k) 20 < bs (nI m) 20 ∧ ok k = true then some k else some m)
      by_cases c : bs (nI k) 20 < bs (nI m) 20 ∧ ok k = true
      · rw [if_pos c]
        refine ⟨by omega, c.2, fun x hx hok => ?_⟩
        by_cases e : x = k
        · subst e; exact Or.inr ⟨rfl, Nat.le_refl _⟩
        · have := hr.2.2 x (by omega) hok
          left; have := c.1; omega
      · rw [if_neg c]
        have hm := hr.1
        refine ⟨by omega, hr.2.1, fun x hx hok => ?_⟩
        by_cases e : x = k
        · subst e
          have : ¬ bs (nI x) 20 < bs (nI m) 20 := fun z => c ⟨z, hok⟩
          omega
        · exact hr.2.2 x (by omega) hok
/-- downward, as the reference does: all above k are looked at -/
def dnI (N k : Nat) (ok : Nat → Bool) : Option Nat → Prop
  | none => ∀ x, k ≤ x → x < N → ok x = false
  | some m => k ≤ m ∧ m < N ∧ ok m = true ∧ ∀ x, k ≤ x → x < N → ok x = true → bs (nI m) 20 < bs (nI x) 20 ∨ (bs (nI m) 20 = bs (nI x) 20 ∧ m ≤ x)
def dnM (ok : Nat → Bool) (k : Nat) (r : Option Nat) : Option Nat := match r with
  | none => if ok k = true then some k else none
  | some m => if ok k = true ∧ bs (nI k) 20 ≤ bs (nI m) 20 then some k else some m
theorem dnI_step {N k : Nat} {ok : Nat → Bool} {r : Option Nat} (hk : k < N) (h : dnI N (k + 1) ok r) : dnI N k ok (dnM ok k r) := by
  cases r with
  | none =>
    show dnI N k ok (if ok k = true then some k else none)
    by_cases c : ok k = true
    · rw [if_pos c]
      refine ⟨Nat.le_refl _, hk, c, fun x h1 h2 hok => ?_⟩
      by_cases e : x = k
      · subst e; exact Or.inr ⟨rfl, Nat.le_refl _⟩
      · have := h x (by omega) h2
        rw [hok] at this; cases this
    · rw [if_neg c]
      intro x h1 h2
      by_cases e : x = k
      · rw [e]; simpa using c
      · exact h x (by omega) h2
  | some m =>
    show dnI N k ok (if ok k = true ∧ bs (nI k) 20 ≤ bs (nI m) 20 then some k else some m)
    obtain ⟨h1, h2, h3, h4⟩ := h
    by_cases c : ok k = true ∧ bs (nI k) 20 ≤ bs (nI m) 20
    · rw [if_pos c]
      refine ⟨Nat.le_refl _, hk, c.1, fun x g1 g2 hok => ?_⟩
      by_cases e : x = k
      · subst e; exact Or.inr ⟨rfl, Nat.le_refl _⟩
      · have := h4 x (by omega) g2 hok
        have := c.2
        omega
    · rw [if_neg c]
      refine ⟨by omega, h2, h3, fun x g1 g2 hok => ?_⟩
      by_cases e : x = k
      · subst e
        have : ¬ bs (nI x) 20 ≤ bs (nI m) 20 := fun z => c ⟨hok, z⟩
        left; omega
      · exact h4 x (by omega) g2 hok
theorem dnI_min {N : Nat} {ok : Nat → Bool} {r : Option Nat} (h : dnI N 0 ok r) : isMin N ok r := by
  cases r with
  | none => exact fun x hx => h x (Nat.zero_le _) hx
  | some m => exact ⟨h.2.1, h.2.2.1, fun x hx hok => h.2.2.2 x (Nat.zero_le _) hx hok⟩
/-! WHO SUFFICES -/
def okS (n : Nat) (R : rv_Mem) (h : Nat) (x : Int32) : Bool := ar (fun f => decide (fl R (curS n R h).toNatClampNeg f = fl R (R 2 (curS n R h).toNatClampNeg).toNatClampNeg f) || !decide (ownS R (R 1 (curS n R h).toNatClampNeg).toNatClampNeg f &&& x = 0)) 0 4
theorem Rn.curB {n : Nat} {gh : rC_gh} {C R : rv_Mem} (hR : Rn n gh C R) {h : Nat} (hh : h < gh.1 0) : ∃ c b r, 2 ≤ c ∧ c < n ∧ b < n ∧ r < 2 ∧ curS n R h = nI c ∧ C 23 h = nI c ∧ C 17 c = nI b ∧ R 2 c = nI b ∧ R 1 c = nI r ∧ C (100 + h) 2 = nI r ∧ f12_current R (nI h) = some (nI c) ∧ R 5 c = nI h := by
  obtain ⟨k, c, k1, k2, k3, k4, c1, c2, c3, c4, c5, c6, c7, c8⟩ := hR.cur hh
  obtain ⟨b, b1, b2, b3, -⟩ := hR.base c1 c2
  obtain ⟨r, r1, r2, r3, -⟩ := (hR.chg h hh).2.2.1
  exact ⟨c, b, r, c1, c2, by omega, r1, c7, c3, b2, b3, r3 c c2 c4, r2, c8, c4⟩
theorem Rn.chgC {n : Nat} {gh : rC_gh} {C R : rv_Mem} (hR : Rn n gh C R) {h f : Nat} (hh : h < gh.1 0) (hf : f < 4) : f11_isChanged gh C (100 + h) (nI f) = some (!decide (fl R (curS n R h).toNatClampNeg f = fl R (R 2 (curS n R h).toNatClampNeg).toNatClampNeg f)) := by
  have hn := hR.n80
  have hc20 := hR.ch20
  obtain ⟨c, b, r, c1, c2, c3, c4, c5, c6, c7, c8, c9, c10, -⟩ := hR.curB hh
  unfold f11_isChanged f9_currentOf f9_baseOf
  rw [if_pos (is1 hh hc20), (hR.chg h hh).1, s9_read (L := 20) (by omega) (by decide) rfl (by omega), o1_some, o1_some, c6, s9_read (L := 82) (by omega) (by decide) rfl (by omega), o1_some, o1_some, c7, s9_isSameFile (by omega) (by omega) hf (fil_files hR.fil (Or.inl c2) hf).1 (fil_files hR.fil (Or.inl c3) hf).1, o1_some, c5, q_nc (by omega), c8, q_nc (by omega)]
  cases decide (fl R c f = fl R b f) <;> rfl
theorem Rn.ownC {n : Nat} {gh : rC_gh} {C R : rv_Mem} (hR : Rn n gh C R) {h : Nat} (hh : h < gh.1 0) (x : Int32) : f11_isOwnedBy gh C (100 + h) x = some (okS n R h x) := by
  have hn := hR.n80
  have hc20 := hR.ch20
  obtain ⟨c, b, r, c1, c2, c3, c4, c5, c6, c7, c8, c9, c10, -⟩ := hR.curB hh
  have er : (R 1 (curS n R h).toNatClampNeg).toNatClampNeg = r := by rw [c5, q_nc (by omega), c9, q_nc (by omega)]
  unfold okS
  refine rv_ux (z := (fun _ _ _ => none)) (F := f11_isOwnedBy_2_s gh C) (fun t f (_ : Unit) => t (100 + h) x (nI f)) 4 (fun f _ => ar (fun f => decide (fl R (curS n R h).toNatClampNeg f = fl R (R 2 (curS n R h).toNatClampNeg).toNatClampNeg f) || !decide (ownS R (R 1 (curS n R h).toNatClampNeg).toNatClampNeg f &&& x = 0)) 0 f = true) (fun r => r = some (ar (fun f => decide (fl R (curS n R h).toNatClampNeg f = fl R (R 2 (curS n R h).toNatClampNeg).toNatClampNeg f) || !decide (ownS R (R 1 (curS n R h).toNatClampNeg).toNatClampNeg f &&& x = 0)) 0 4)) ?_ ?_ rv_FU 0 () (Nat.zero_le _) (FU_lt (by omega)) rfl
  · intro t f _ hf hI
    have step : f11_isOwnedBy_2_s gh C t (100 + h) x (nI f) = if (decide (fl R (curS n R h).toNatClampNeg f = fl R (R 2 (curS n R h).toNatClampNeg).toNatClampNeg f) || !decide (ownS R (R 1 (curS n R h).toNatClampNeg).toNatClampNeg f &&& x = 0)) = true then t (100 + h) x (nI (f + 1)) else some false := by
      unfold f11_isOwnedBy_2_s f11_isOwnedBy_35
      rw [if_pos (by rw [q_4, q_lt (by omega) (by omega)]; exact hf), if_pos (is1 hh hc20), c10, s6_ownersOf hR c4 hf, o1_some, hR.chgC hh hf, o1_some, er, q_succ]
      by_cases c : ownS R r f &&& x = 0
      · rw [if_pos c, decide_eq_true c]
        cases decide (fl R (curS n R h).toNatClampNeg f = fl R (R 2 (curS n R h).toNatClampNeg).toNatClampNeg f) <;> rfl
      · rw [if_neg c, decide_eq_false c]
        simp
    show f11_isOwnedBy_2_s gh C t (100 + h) x (nI f) = _ ∨ ∃ _ : Unit, _ ∧ f11_isOwnedBy_2_s gh C t (100 + h) x (nI f) = _
    rw [step]
    by_cases c : (decide (fl R (curS n R h).toNatClampNeg f = fl R (R 2 (curS n R h).toNatClampNeg).toNatClampNeg f) || !decide (ownS R (R 1 (curS n R h).toNatClampNeg).toNatClampNeg f &&& x = 0)) = true
    · right
      exact ⟨(), by rw [ar_snoc, Nat.zero_add, hI, c]; rfl, by rw [if_pos c]⟩
    · left
      rw [if_neg c]
      have := ar_false (x := fun f => decide (fl R (curS n R h).toNatClampNeg f = fl R (R 2 (curS n R h).toNatClampNeg).toNatClampNeg f) || !decide (ownS R (R 1 (curS n R h).toNatClampNeg).toNatClampNeg f &&& x = 0)) (k := f + 1) (N := 4) (by rw [ar_snoc, Nat.zero_add, hI]; simpa using c) (by omega)
      rw [this]
  · intro t _ hI
    show f11_isOwnedBy_2_s gh C t (100 + h) x (nI 4) = _
    unfold f11_isOwnedBy_2_s
    rw [if_neg (by rw [q_4, q_lt (by omega) (by omega)]; omega), hI]
theorem Rn.chgR {n : Nat} {gh : rC_gh} {C R M : rv_Mem} (hR : Rn n gh C R) (hk : ∀ k, k ≤ 6 ∨ k = 14 → M k = R k) {h f : Nat} (hh : h < gh.1 0) (hf : f < 4) : f12_isChanged M (nI h) (nI f) = some (!decide (fl R (curS n R h).toNatClampNeg f = fl R (R 2 (curS n R h).toNatClampNeg).toNatClampNeg f)) := by
  have hn := hR.n80
  obtain ⟨c, b, r, c1, c2, c3, c4, c5, c6, c7, c8, c9, c10, c11, -⟩ := hR.curB hh
  unfold f12_isChanged
  rw [hR.curM hk hh, c11, o1_some, o1_some, if_pos (q_inb (show c < 82 by omega) (by omega)), q_nc (by omega), hk 2 (by omega), c8, s12_isSameFile (by omega) (by omega) hf (fileR_of (hk 3 (by omega)) (hk 4 (by omega)) (fil_files hR.fil (Or.inl c2) hf).2.1) (fileR_of (hk 3 (by omega)) (hk 4 (by omega)) (fil_files hR.fil (Or.inl c3) hf).2.1), o1_some, c5, q_nc (by omega), c8, q_nc (by omega)]
  cases decide (fl R c f = fl R b f) <;> rfl
theorem b_63 : ∀ i, i < 32 → bt 63 i = decide (i < 6) := by decide +kernel
theorem b_lt64 : ∀ v, v < 64 → ∀ i, i < 32 → 6 ≤ i → bt (nI v) i = false := by decide +kernel
theorem Rn.own63 {n : Nat} {gh : rC_gh} {C R : rv_Mem} (hR : Rn n gh C R) {r f : Nat} (hr : r < 2) (hf : f < 4) : ¬ ownS R r f &&& 63 = 0 := by
  have hd : f / 2 < 2 := by omega
  have lo : ∀ i, i < 14 → ∀ j, j < 32 → 6 ≤ j → bt (R 41 i) j = false := fun i hi j h1 h2 => by
    obtain ⟨⟨v, v0, -, v2⟩, -⟩ := hR.ols.1 i hi
    rw [v2]; exact b_lt64 v v0 j h1 h2
  have z : ∀ j, bt (nI 0) j = false := fun j => b_0 j
  have hv : ∀ j, j < 32 → 6 ≤ j → bt (ownV R r f) j = false := fun j h1 h2 => by
    unfold ownV
    split
    · rw [b_or, b_or, b_or, lo _ (by omega) j h1 h2, lo _ (by omega) j h1 h2]
      split
      · rw [lo _ (by omega) j h1 h2]
        split
        · rw [z]; rfl
        · rw [lo _ (by omega) j h1 h2]; rfl
      · rw [z]
        split
        · rw [z]; rfl
        · rw [lo _ (by omega) j h1 h2]; rfl
    · exact lo _ (by omega) j h1 h2
  intro e
  rw [b_zero] at e
  unfold ownS at e
  by_cases h0 : ownV R r f = nI 0
  · rw [if_pos h0] at e
    obtain ⟨p, p1, -, p3⟩ := hR.ols.2.2
    have := e p (by omega)
    rw [b_and, p3, b_63 p (by omega), decide_eq_true p1] at this
    have e2 : bt ((1 : Int32) <<< (nI p &&& 31)) p = decide (p = p) := b_shl1 p (by omega) p (by omega)
    have e3 : bt (nI 1 <<< (nI p &&& nI 31)) p = true := by
      have : bt ((1 : Int32) <<< (nI p &&& 31)) p = true := by rw [e2]; simp
      exact this
    rw [e3] at this
    cases this
  · rw [if_neg h0] at e
    apply h0
    show _ = (0 : Int32)
    rw [b_zero]
    intro i hi
    by_cases h6 : 6 ≤ i
    · exact hv i hi h6
    · have := e i hi
      rw [b_and, b_63 i hi, decide_eq_true (show i < 6 by omega), Bool.and_true] at this
      exact this
