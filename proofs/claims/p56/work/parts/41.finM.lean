/-! THE METHODS THAT MAKE THINGS, WALKED -/
def rM_sub (ad ad' : Nat → Nat) (gh gh' : rC_gh) (sz : Nat) : Prop := ∀ q, (rC_K ad' gh' q ∨ ∃ i, i < 3 ∧ (q = ad' (9 + i) ∨ (0 < gh'.1 i ∧ q = ad' (9 + i + 44)))) → rM_A ad gh sz q
def rM_qi (D : va_G) (cI cZ cO : ClassId) (ad : Nat → Nat) (gh : rC_gh) (de sz : Nat) (v : Int32) (gh' : rC_gh) (M' : rv_Mem) : Array Value → State → Outcome → State → Prop := va_Qi (fun r (u : Nat → Nat) => r = v ∧ u 0 = ad 0 ∧ rC_I u gh' ∧ rM_sub ad u gh gh' sz) (fun u t => rC_G D cI cZ cO u gh' de M' t.heap) (rM_A ad gh sz)
theorem rM_E {ad ad' : Nat → Nat} {gh gh' : rC_gh} {p : Program} {l : Launch} {s : State} {m : MethodId} {args : Array Value} {meth : Method} {c : Code} {D : va_G} {cI cZ cO : ClassId} {own : String} {cc : ByteArray} {nL : Nat} {ret : Option FieldType} (E : rC_X D cI cZ cO ad gh own cc nL ret p l s m args meth c) (hI : rC_I ad' gh') (hs : rM_sub ad ad' gh gh' s.heap.size) : rC_E D cI cZ cO ad' gh' (rM_A ad gh s.heap.size) own cc nL ret p s m args meth c := ⟨E.1.1, E.1.2.1, hI, fun q h => hs q (Or.inl h), E.1.2.2.2.2.1, E.1.2.2.2.2.2.1, E.1.2.2.2.2.2.2⟩
/-- the old cells of a list and of the house -/
theorem rM_lo {ad : Nat → Nat} {gh : rC_gh} {D : va_G} {cI cZ cO : ClassId} {de : Nat} {M : rv_Mem} {H : Heap} (hG : rC_G D cI cZ cO ad gh de M H) {i : Nat} (hi : i < 3) : ad (9 + i) < H.size ∧ ad (9 + i + 44) < H.size := by
  obtain ⟨cap1, mc1, f1, k1, k2, -⟩ := hG.2 i hi
  exact ⟨k1.lt, k2.lt⟩
theorem rM_ne {ad : Nat → Nat} {gh : rC_gh} (hI : rC_I ad gh) {i : Nat} (hi : i < 3) : ∀ j, j < gh.1 i → ad (rC_b i + j) ≠ ad (9 + i) := fun j hj q => by
  have h1 := rC_dm_el hi (hI.bd hi) hj
  have h2 := hI.1 _ _ (Or.inl h1) (Or.inr (by omega)) q
  have : rC_b i ≥ 100 := by
    match i, hi with
    | 0, _ => decide
    | 1, _ => decide
    | 2, _ => decide
  omega
/-- what is free behind the making was free ahead of it -/
theorem rM_sub_of {ad ad' : Nat → Nat} {gh : rC_gh} {i pk sz : Nat} (hi : i < 3) (ha : ∀ j, rC_dm gh j = true ∨ j < 53 → ad' j = ad j) (ha2 : ∀ i', i' < 3 → i' ≠ i → ad' (9 + i' + 44) = ad (9 + i' + 44)) (hnew : ∀ k, rC_dm (rC_gi gh i pk) k = true → ¬ rC_dm gh k = true → sz ≤ ad' k) (hA : ad' (9 + i + 44) = ad (9 + i + 44) ∧ 0 < gh.1 i ∨ sz ≤ ad' (9 + i + 44)) : rM_sub ad ad' gh (rC_gi gh i pk) sz := by
  intro q h
  rcases h with ⟨k, hk, rfl⟩ | ⟨i', hi', h⟩
  · by_cases ho : rC_dm gh k = true
    · rw [ha k (Or.inl ho)]
      exact Or.inl (Or.inl ⟨k, ho, rfl⟩)
    · exact Or.inl (Or.inr (hnew k hk ho))
  · rcases h with rfl | ⟨h0, rfl⟩
    · rw [ha _ (Or.inr (by omega))]
      exact Or.inr ⟨i', hi', Or.inl rfl⟩
    · by_cases ei : i' = i
      · subst ei
        rcases hA with ⟨h1, h2⟩ | h1
        · rw [h1]; exact Or.inr ⟨i', hi', Or.inr ⟨h2, rfl⟩⟩
        · exact Or.inl (Or.inr h1)
      · rw [ha2 i' hi' ei]
        have : (rC_gi gh i pk).1 i' = gh.1 i' := by show (if i' = i then _ else _) = _; rw [if_neg ei]
        rw [this] at h0
        exact Or.inr ⟨i', hi', Or.inr ⟨h0, rfl⟩⟩
theorem rM_kd2 {n : Nat} (h : n < 60) : rC_kd (200 + n) = 102 := by unfold rC_kd; rw [if_neg (by omega), if_neg (by omega), if_neg (by omega), if_pos (by omega)]
theorem rM_kd3 {n : Nat} (h : n < 60) : rC_kd (300 + n) = 108 := by unfold rC_kd; rw [if_neg (by omega), if_neg (by omega), if_neg (by omega), if_neg (by omega), if_pos (by omega)]
theorem rM_kd4 {n : Nat} (h : n < 40) : rC_kd (400 + n) = 105 := by unfold rC_kd; rw [if_neg (by omega), if_neg (by omega), if_neg (by omega), if_neg (by omega), if_neg (by omega), if_pos (by omega)]
theorem rM_kd5 {n : Nat} (h : n < 40) : rC_kd (500 + n) = 108 := by unfold rC_kd; rw [if_neg (by omega), if_neg (by omega), if_neg (by omega), if_neg (by omega), if_neg (by omega), if_neg (by omega), if_pos (by omega)]
theorem rM_kd1 {n : Nat} (h : n < 20) : rC_kd (100 + n) = 101 := by unfold rC_kd; rw [if_neg (by omega), if_pos (by omega)]
theorem rM_kd12 {n : Nat} (h : n < 20) : rC_kd (120 + n) = 2 := by unfold rC_kd; rw [if_neg (by omega), if_neg (by omega), if_pos (by omega)]
theorem rM_ent {cI cZ : ClassId} {ad : Nat → Nat} {gh : rC_gh} {M : rv_Mem} {k ci : Nat} (h : rC_kd k = 100 + ci) : rC_ent cI cZ ad gh M k = .inr (ci, rC_fl ad gh M ci k) := by
  unfold rC_ent
  rw [if_pos (by rw [h]; omega), h, Nat.add_sub_cancel_left]
theorem rM_w1 {M : rv_Mem} {k : Nat} {f : Nat → Int32} : rv_w M k f k = f := by funext j; simp [rv_w]
theorem rM_w2 {M : rv_Mem} {k k' : Nat} {f : Nat → Int32} (h : k' ≠ k) : rv_w M k f k' = M k' := by funext j; simp [rv_w, h]
theorem rM_old {gh : rC_gh} {j : Nat} (hj : rC_dm gh j = true) : j < 53 ∨ (100 ≤ j ∧ j < 120 ∧ j < 100 + gh.1 0) ∨ (120 ≤ j ∧ j < 140 ∧ j < 120 + gh.1 0) ∨ (200 ≤ j ∧ j < 260 ∧ j < 200 + gh.1 1) ∨ (300 ≤ j ∧ j < 360 ∧ j < 300 + gh.1 1) ∨ (400 ≤ j ∧ j < 440 ∧ j < 400 + gh.1 2) ∨ (500 ≤ j ∧ j < 540 ∧ j < 500 + gh.1 2) := by
  unfold rC_dm at hj
  by_cases c1 : j < 53
  · exact Or.inl c1
  · rw [if_neg c1] at hj
    by_cases c2 : 100 ≤ j ∧ j < 120
    · rw [if_pos c2] at hj
      have := of_decide_eq_true hj
      omega
    · rw [if_neg c2] at hj
      by_cases c3 : 120 ≤ j ∧ j < 140
      · rw [if_pos c3] at hj
        have := of_decide_eq_true hj
        omega
      · rw [if_neg c3] at hj
        by_cases c4 : 200 ≤ j ∧ j < 260
        · rw [if_pos c4] at hj
          have := of_decide_eq_true hj
          omega
        · rw [if_neg c4] at hj
          by_cases c5 : 300 ≤ j ∧ j < 360
          · rw [if_pos c5, Bool.and_eq_true] at hj
            have := of_decide_eq_true hj.1
            omega
          · rw [if_neg c5] at hj
            by_cases c6 : 400 ≤ j ∧ j < 440
            · rw [if_pos c6] at hj
              have := of_decide_eq_true hj
              omega
            · rw [if_neg c6] at hj
              by_cases c7 : 500 ≤ j ∧ j < 540
              · rw [if_pos c7] at hj
                have := of_decide_eq_true hj
                omega
              · rw [if_neg c7] at hj; cases hj
def rM_k2 (i : Nat) : Nat := if i = 0 then 120 else if i = 1 then 300 else 500
def rM_ad (ad : Nat → Nat) (gh : rC_gh) (i x y e : Nat) : Nat → Nat := fun k => if k = 9 + i + 44 then e else if k = rC_b i + gh.1 i then x else if k = rM_k2 i + gh.1 i then y else ad k
theorem rM_fin {D : va_G} {cI cZ cO : ClassId} {ad : Nat → Nat} {gh : rC_gh} {de : Nat} {M M' : rv_Mem} {H H6 : Heap} {i pk x y e sz : Nat} (hi : i < 3) (hI : rC_I ad gh) (hok : rC_ok gh = true) (hb : gh.1 i < rC_bd i) (hG : rC_G D cI cZ cO ad gh de M H) (hx : H.size ≤ x) (hy : H.size ≤ y) (hxy : x ≠ y) (hsz : sz ≤ H.size) (hpk : i = 1 → pk = 300 + gh.1 1 ∨ rC_dm gh pk = true)
    (hkp : ∀ q : Nat, q < H.size → q ≠ ad (9 + i) → (0 < gh.1 i → q ≠ ad (9 + i + 44)) → H6[q]? = H[q]?)
    (hx6 : va_at D vwCl (x, rC_ent cI cZ (rM_ad ad gh i x y e) (rC_gi gh i pk) M' (rC_b i + gh.1 i)) H6) (hy6 : (i = 1 → pk = 300 + gh.1 1) → va_at D vwCl (y, rC_ent cI cZ (rM_ad ad gh i x y e) (rC_gi gh i pk) M' (rM_k2 i + gh.1 i)) H6) (hM : ∀ k, k ≠ rC_b i + gh.1 i → k ≠ rM_k2 i + gh.1 i → M' k = M k)
    {cap : Nat} {mc : Int32} {f' : Nat → Option Nat} (B1 : va_at D vwCl (ad (9 + i), .inr (0, [.int mc, .ref e, .int (nI (gh.1 i + 1))])) H6) (B2 : va_at D vwCl (e, .inl (cO, cap, .inr (.inr (.inr (.inr f'))))) H6) (w1 : gh.1 i < cap) (w2 : cap ≤ 100) (w3 : 10 ≤ cap) (w4 : ∀ j, j < gh.1 i → f' j = some (ad (rC_b i + j))) (w5 : f' (gh.1 i) = some x) (w6 : ∀ j, gh.1 i < j → f' j = none) (w7 : e = ad (9 + i + 44) ∧ 0 < gh.1 i ∨ H.size ≤ e) (hxe : x ≠ e) (hye : y ≠ e) : (rC_G D cI cZ cO (rM_ad ad gh i x y e) (rC_gi gh i pk) de M' H6 ∧ rC_I (rM_ad ad gh i x y e) (rC_gi gh i pk)) ∧ rM_sub ad (rM_ad ad gh i x y e) gh (rC_gi gh i pk) sz ∧ rM_ad ad gh i x y e 0 = ad 0 := by
  have hbs : rC_b i = 100 ∧ rM_k2 i = 120 ∧ i = 0 ∧ gh.1 i < 20 ∨ rC_b i = 200 ∧ rM_k2 i = 300 ∧ i = 1 ∧ gh.1 i < 60 ∨ rC_b i = 400 ∧ rM_k2 i = 500 ∧ i = 2 ∧ gh.1 i < 40 := by
    match i, hi with
    | 0, _ => exact Or.inl ⟨rfl, rfl, rfl, hb⟩
    | 1, _ => exact Or.inr (Or.inl ⟨rfl, rfl, rfl, hb⟩)
    | 2, _ => exact Or.inr (Or.inr ⟨rfl, rfl, rfl, hb⟩)
  have hn0 : i = 0 → gh.1 i = gh.1 0 := fun h => by rw [h]
  have hn1 : i = 1 → gh.1 i = gh.1 1 := fun h => by rw [h]
  have hn2 : i = 2 → gh.1 i = gh.1 2 := fun h => by rw [h]
  have old : ∀ j, rC_dm gh j = true → j ≠ 9 + i + 44 ∧ j ≠ rC_b i + gh.1 i ∧ j ≠ rM_k2 i + gh.1 i := fun j hj => by
    have h9 := rM_old hj
    omega
  have A0 : rM_ad ad gh i x y e (9 + i + 44) = e := if_pos rfl
  have A1 : rM_ad ad gh i x y e (rC_b i + gh.1 i) = x := by
    unfold rM_ad
    rw [if_neg (by omega), if_pos rfl]
  have A2 : rM_ad ad gh i x y e (rM_k2 i + gh.1 i) = y := by
    unfold rM_ad
    rw [if_neg (by omega), if_neg (by omega), if_pos rfl]
  have A3 : ∀ j, j ≠ 9 + i + 44 → j ≠ rC_b i + gh.1 i → j ≠ rM_k2 i + gh.1 i → rM_ad ad gh i x y e j = ad j := fun j h1 h2 h3 => by
    unfold rM_ad
    rw [if_neg h1, if_neg h2, if_neg h3]
  have hagr : ∀ j, rC_dm gh j = true ∨ j < 53 → rM_ad ad gh i x y e j = ad j := fun j hj => by
    rcases hj with hj | hj
    · obtain ⟨h1, h2, h3⟩ := old j hj
      exact A3 j h1 h2 h3
    · exact A3 j (by omega) (by omega) (by omega)
  have hag2 : ∀ i', i' < 3 → i' ≠ i → rM_ad ad gh i x y e (9 + i' + 44) = ad (9 + i' + 44) := fun i' h1 h2 => A3 _ (by omega) (by omega) (by omega)
  have newk : ∀ k, rC_dm (rC_gi gh i pk) k = true → ¬ rC_dm gh k = true → k = rC_b i + gh.1 i ∨ (k = rM_k2 i + gh.1 i ∧ (i = 1 → pk = 300 + gh.1 1)) := fun k hk ho => by
    have h9 := rC_dm_dn hk
    rcases h9 with h | h | h | h
    · exact absurd h ho
    · rcases h.2 with h2 | h2
      · left; have := hn0 h.1; omega
      · right; have := hn0 h.1; exact ⟨by omega, fun z => by omega⟩
    · rcases h.2 with h2 | h2
      · left; have := hn1 h.1; omega
      · right; have := hn1 h.1; exact ⟨by omega, fun z => h2.2⟩
    · rcases h.2 with h2 | h2
      · left; have := hn2 h.1; omega
      · right; have := hn2 h.1; exact ⟨by omega, fun z => by omega⟩
  have hel : rC_dm (rC_gi gh i pk) (rC_b i + gh.1 i) = true := by
    have e9 : (rC_gi gh i pk).1 i = gh.1 i + 1 := by rw [rC_gi1, if_pos rfl]
    exact rC_dm_el hi (by rw [e9]; exact hb) (by rw [e9]; omega)
  have hA : rM_ad ad gh i x y e (9 + i + 44) = ad (9 + i + 44) ∧ 0 < gh.1 i ∨ H.size ≤ rM_ad ad gh i x y e (9 + i + 44) := by rw [A0]; exact w7
  have hnw : ∀ k, rC_dm (rC_gi gh i pk) k = true → ¬ rC_dm gh k = true → H.size ≤ rM_ad ad gh i x y e k ∧ va_at D vwCl (rM_ad ad gh i x y e k, rC_ent cI cZ (rM_ad ad gh i x y e) (rC_gi gh i pk) M' k) H6 := fun k hk ho => by
    rcases newk k hk ho with rfl | ⟨rfl, h⟩
    · exact ⟨by rw [A1]; exact hx, by rw [A1]; exact hx6⟩
    · exact ⟨by rw [A2]; exact hy, by rw [A2]; exact hy6 h⟩
  refine ⟨rC_grow (f := f') hi hI hok hb hG rfl hkp hagr hag2 (fun k hk => hM k (old k hk).2.1 (old k hk).2.2) hnw (fun k k' hk ho hk' ho' eq => ?_) hel (by rw [A0]; exact B1) (by rw [A0]; exact B2) w1 w2 w3 w4 (by rw [A1]; exact w5) w6 hA (fun k hk ho => ?_), rM_sub_of hi hagr hag2 (fun k hk ho => Nat.le_trans hsz (hnw k hk ho).1) (hA.elim Or.inl (fun h => Or.inr (Nat.le_trans hsz h))), A3 0 (by omega) (by omega) (by omega)⟩
  · rcases newk k hk ho with rfl | ⟨rfl, h⟩ <;> rcases newk k' hk' ho' with rfl | ⟨rfl, h'⟩
    · rfl
    · rw [A1, A2] at eq; exact absurd eq hxy
    · rw [A1, A2] at eq; exact absurd eq.symm hxy
    · rfl
  · rw [A0]
    rcases newk k hk ho with rfl | ⟨rfl, h⟩
    · rw [A1]; exact hxe
    · rw [A2]; exact hye
