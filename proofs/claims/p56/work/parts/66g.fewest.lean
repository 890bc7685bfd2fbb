/-! fewest -/
theorem dn_m1 (k : Nat) : nI k + -1 = dn k := by
  unfold dn
  by_cases h0 : k = 0
  · subst h0; rfl
  · rw [if_neg h0, q_no, q_dec (by omega)]
theorem Rn.fewC {n : Nat} {gh : rC_gh} {C R : rv_Mem} (hR : Rn n gh C R) {h : Nat} (hh : h < gh.1 0) : ∃ m, f11_fewest_12 gh C rv_FU (100 + h) 63 0 = some (.inl (nI m)) ∧ isMin 64 (fun k => okS n R h (nI k)) (some m) := by
  obtain ⟨c, b, r, c1, c2, c3, c4, c5, c6, c7, c8, c9, c10, -⟩ := hR.curB hh
  have hn := hR.n80
  have er : (R 1 (curS n R h).toNatClampNeg).toNatClampNeg = r := by rw [c5, q_nc (by omega), c9, q_nc (by omega)]
  have ok63 : okS n R h (nI 63) = true := by
    unfold okS
    rw [ar_iff]
    intro f _ hf
    rw [er, decide_eq_false (show ¬ ownS R r f &&& nI 63 = 0 from hR.own63 c4 (by omega))]
    simp
  have L := rv_ui (z := (fun _ _ _ => none)) (F := f11_fewest_12_s gh C) (fun t k (m : Nat) => t (100 + h) (nI m) (nI k)) 64 (fun k m => m < 64 ∧ okS n R h (nI m) = true ∧ (m = 63 ∨ m < k) ∧ ∀ x, x < k → okS n R h (nI x) = true → bs (nI m) 20 < bs (nI x) 20 ∨ (bs (nI m) 20 = bs (nI x) 20 ∧ m ≤ x)) (fun m => some (.inl (nI m))) ?_ ?_ rv_FU 0 63 (Nat.zero_le _) (FU_lt (by omega)) ⟨by omega, ok63, Or.inl rfl, fun x hx => absurd hx (Nat.not_lt_zero _)⟩
  · obtain ⟨m, ⟨i1, i2, i3, i4⟩, x2⟩ := L
    exact ⟨m, x2, i1, i2, fun x hx hok => i4 x hx hok⟩
  · rintro t k m hk ⟨i1, i2, i3, i4⟩
    have bk := bs_le (nI k) 20
    have bm := bs_le (nI m) 20
    have step : f11_fewest_12_s gh C t (100 + h) (nI m) (nI k) = if bs (nI k) 20 < bs (nI m) 20 ∧ okS n R h (nI k) = true then t (100 + h) (nI k) (nI (k + 1)) else t (100 + h) (nI m) (nI (k + 1)) := by
      unfold f11_fewest_12_s f11_fewest_44
      rw [if_pos (by rw [show (64 : Int32) = nI 64 from rfl, q_lt (by omega) (by omega)]; exact hk), sJ_bits256 k (by omega), o1_some, sJ_bits256 m (by omega), o1_some, hR.ownC hh, o1_some, q_succ]
      simp (disch := omega) only [q_lt]
      by_cases e1 : bs (nI k) 20 < bs (nI m) 20
      · rw [if_pos e1]
        by_cases e2 : okS n R h (nI k) = true
        · rw [if_pos e2, if_pos ⟨e1, e2⟩]
        · rw [if_neg e2, if_neg (fun z => e2 z.2)]
      · rw [if_neg e1, if_neg (fun z => e1 z.1)]
    by_cases c : bs (nI k) 20 < bs (nI m) 20 ∧ okS n R h (nI k) = true
    · refine ⟨k, ⟨hk, c.2, Or.inr (by omega), fun x hx hok => ?_⟩, by rw [step, if_pos c]⟩
      by_cases e : x = k
      · subst e; exact Or.inr ⟨rfl, Nat.le_refl _⟩
      · have := i4 x (by omega) hok
        left; have := c.1; omega
    · refine ⟨m, ⟨i1, i2, by omega, fun x hx hok => ?_⟩, by rw [step, if_neg c]⟩
      by_cases e : x = k
      · subst e
        have h1 : ¬ bs (nI x) 20 < bs (nI m) 20 := fun z => c ⟨z, hok⟩
        rcases i3 with h3 | h3
        · subst h3
          rw [bs_63'] at h1 ⊢
          by_cases h4 : 6 < bs (nI x) 20
          · exact Or.inl h4
          · have := bs_63 x hk (by omega)
            subst this
            exact Or.inr ⟨bs_63'.symm, Nat.le_refl _⟩
        · omega
      · exact i4 x (by omega) hok
  · rintro t m hI
    show f11_fewest_12_s gh C t (100 + h) (nI m) (nI 64) = _
    unfold f11_fewest_12_s
    rw [if_neg (by decide)]
theorem oI_none (r : Option Nat) (hr : ∀ m, r = some m → m < 2147483648) : (oI r = -1) = (r = none) := by
  cases r with
  | none => exact propext ⟨fun _ => rfl, fun _ => rfl⟩
  | some m =>
    have h1 : oI (some m) = nI m := rfl
    rw [h1, q_no, q_no_eq (hr m rfl)]
    exact propext ⟨False.elim, fun z => by cases z⟩
theorem Rn.fewR {n : Nat} {gh : rC_gh} {C R M : rv_Mem} (hR : Rn n gh C R) (hk : ∀ k, k ≤ 14 ∨ (41 ≤ k ∧ k ≤ 44) → M k = R k) {h : Nat} (hh : h < gh.1 0) : ∃ r, f12_fewestOf M (nI h) = some (oI r) ∧ isMin 64 (fun k => okS n R h (nI k)) r := by
  obtain ⟨c, b, r0, c1, c2, c3, c4, c5, c6, c7, c8, c9, c10, -⟩ := hR.curB hh
  have hn := hR.n80
  have er : (R 1 (curS n R h).toNatClampNeg).toNatClampNeg = r0 := by rw [c5, q_nc (by omega), c9, q_nc (by omega)]
  have L := rv_ud (z := (fun _ _ _ => none)) (F := f12_fewestOf_5_s M) (fun t k (r : Option Nat) => t (nI h) (oI r) (dn k)) 0 (fun k r => k ≤ 64 ∧ dnI 64 k (fun k => okS n R h (nI k)) r) (fun r => some (oI r)) ?_ ?_ rv_FU 64 none (Nat.zero_le _) (FU_lt (by omega)) ⟨by omega, fun x h1 h2 => by omega⟩
  · obtain ⟨r, ⟨-, i1⟩, x2⟩ := L
    exact ⟨r, x2, dnI_min i1⟩
  · rintro t k' r hk' ⟨i0, i1⟩
    obtain ⟨k, rfl⟩ : ∃ k, k' = k + 1 := ⟨k' - 1, by omega⟩
    have i2 := dnI_step (show k < 64 by omega) i1
    refine ⟨_, ⟨by omega, i2⟩, ?_⟩
    show f12_fewestOf_5_s M t (nI h) (oI r) (nI k) = t (nI h) (oI (dnM (fun k => okS n R h (nI k)) k r)) (dn k)
    have rb : ∀ m, r = some m → m < 64 := fun m e => by subst e; exact i1.2.1
    unfold f12_fewestOf_5_s
    rw [if_pos (by rw [q_0, q_le (by omega) (by omega)]; omega)]
    have J := rv_ui (z := (fun _ _ _ _ _ => none)) (F := f12_fewestOf_15_s M t) (fun T f b => T (nI h) (oI r) (nI k) b (nI f)) 4 (fun f b => b = ar (fun f => decide (fl R (curS n R h).toNatClampNeg f = fl R (R 2 (curS n R h).toNatClampNeg).toNatClampNeg f) || !decide (ownS R (R 1 (curS n R h).toNatClampNeg).toNatClampNeg f &&& nI k = 0)) 0 f) (fun b => t (nI h) (if b = true then (match r with | none => nI k | some m => if bs (nI k) 20 ≤ bs (nI m) 20 then nI k else nI m) else oI r) (dn k)) ?_ ?_ rv_FU 0 true (Nat.zero_le _) (FU_lt (by omega)) rfl
    · obtain ⟨b, b1, b2⟩ := J
      have b1 : b = okS n R h (nI k) := b1
      refine b2.trans ?_
      rw [b1]
      cases r with
      | none =>
        show t (nI h) (if okS n R h (nI k) = true then nI k else NO) (dn k) = t (nI h) (oI (if okS n R h (nI k) = true then some k else none)) (dn k)
        split <;> rfl
      | some m =>
        show t (nI h) (if okS n R h (nI k) = true then (if bs (nI k) 20 ≤ bs (nI m) 20 then nI k else nI m) else nI m) (dn k) = t (nI h) (oI (if okS n R h (nI k) = true ∧ bs (nI k) 20 ≤ bs (nI m) 20 then some k else some m)) (dn k)
        by_cases e1 : okS n R h (nI k) = true
        · rw [if_pos e1]
          by_cases e2 : bs (nI k) 20 ≤ bs (nI m) 20
          · rw [if_pos e2, if_pos ⟨e1, e2⟩]; rfl
          · rw [if_neg e2, if_neg (fun z => e2 z.2)]; rfl
        · rw [if_neg e1, if_neg (fun z => e1 z.1)]; rfl
    · rintro T f b hf rfl
      refine ⟨_, rfl, ?_⟩
      show f12_fewestOf_15_s M t T (nI h) (oI r) (nI k) _ (nI f) = T (nI h) (oI r) (nI k) _ (nI (f + 1))
      rw [ar_snoc, Nat.zero_add]
      unfold f12_fewestOf_15_s f12_fewestOf_52 f12_fewestOf_56 f12_fewestOf_57
      rw [if_pos (by rw [q_4, q_lt (by omega) (by omega)]; exact hf), q_succ, hR.chgR (fun k h1 => hk k (by omega)) hh hf, o1_some, hR.repoM (fun k h1 => hk k (by omega)) hh c10 c4, o1_some, s12_ownersOf c4 hf, o1_some, ownS_scr (hk 41 (by omega)) (hk 42 (by omega)) (hk 43 (by omega)) (hk 44 (by omega)), er]
      cases ar (fun f => decide (fl R (curS n R h).toNatClampNeg f = fl R (R 2 (curS n R h).toNatClampNeg).toNatClampNeg f) || !decide (ownS R r0 f &&& nI k = 0)) 0 f with
      | false => rfl
      | true =>
        rw [if_pos rfl]
        cases decide (fl R (curS n R h).toNatClampNeg f = fl R (R 2 (curS n R h).toNatClampNeg).toNatClampNeg f) with
        | true => rfl
        | false =>
          show (if ¬ (ownS R r0 f &&& nI k) = 0 then T (nI h) (oI r) (nI k) true (nI (f + 1)) else T (nI h) (oI r) (nI k) false (nI (f + 1))) = T (nI h) (oI r) (nI k) (!decide (ownS R r0 f &&& nI k = 0)) (nI (f + 1))
          by_cases e : ownS R r0 f &&& nI k = 0
          · rw [if_neg (fun z => z e), decide_eq_true e]; rfl
          · rw [if_pos e, decide_eq_false e]; rfl
    · intro T b hb
      show f12_fewestOf_15_s M t T (nI h) (oI r) (nI k) b (nI 4) = _
      unfold f12_fewestOf_15_s f12_fewestOf_86 f12_fewestOf_90 f12_fewestOf_91
      rw [if_neg (by rw [q_4, q_lt (by omega) (by omega)]; omega), dn_m1]
      cases b with
      | false => rfl
      | true =>
        rw [if_pos rfl, if_pos rfl]
        cases r with
        | none => rw [if_neg (show ¬ ¬ oI none = -1 from fun z => z rfl)]
        | some m =>
          have hm := rb m rfl
          have bk := bs_le (nI k) 20
          have bm := bs_le (nI m) 20
          have eo : oI (some m) = nI m := rfl
          rw [eo, if_pos (by rw [q_no, q_no_eq (by omega)]; exact fun z => z), s12_bits, o1_some, s12_bits, o1_some]
          simp (disch := omega) only [q_le]
          split <;> rfl
  · rintro t r ⟨-, i1⟩
    show f12_fewestOf_5_s M t (nI h) (oI r) NO = _
    unfold f12_fewestOf_5_s
    rw [if_neg q_le0no]
theorem asks_in {n : Nat} {gh : rC_gh} {C R : rv_Mem} (hR : Rn n gh C R) (x : Int32) : (∃ h, h < gh.1 0 ∧ x = nI h ∧ f11_needChange gh C x = some (.inl (100 + h)) ∧ f12_asks R x = some (true, rv_u R 66 0 0)) ∨ (f11_needChange gh C x = some (.inr 1) ∧ f12_asks R x = some (false, rv_u R 66 0 1)) := by
  rcases hR.dchange x with ⟨h, h1, rfl, e1, e2⟩ | ⟨e1, e2⟩
  · refine Or.inl ⟨h, h1, rfl, e1, ?_⟩
    unfold f12_asks
    rw [e2]; rfl
  · refine Or.inr ⟨e1, ?_⟩
    unfold f12_asks
    rw [e2]; rfl
theorem h_fewest : ∀ gh MC MR, Rel gh MC MR → ∀ p1, rS_fewest Rel gh MC MR p1 := fun gh C R h p1 => by
  obtain ⟨n, hR⟩ := h
  unfold rS_fewest f11_fewest f12_fewest
  rcases asks_in hR p1 with ⟨h, hh, rfl, e1, e2⟩ | ⟨e1, e2⟩
  · left
    obtain ⟨m, m1, m2⟩ := hR.fewC hh
    obtain ⟨r, r1, r2⟩ := hR.fewR (M := rv_u R 66 0 0) (fun k hk => mu_ne (by omega)) hh
    have := isMin_uniq r2 m2
    subst this
    rw [e1, e2]
    refine ⟨nI m, rv_u R 66 0 0, ?_, ?_, mu_same _ _ _ _, ⟨n, Rn_66 hR⟩⟩
    · simp only [x1_inl]; exact m1
    · simp only [o2_some, if_true]; rw [r1]; rfl
  · right
    rw [e1, e2]
    exact ⟨rv_u R 66 0 1, 0, rfl, rfl, mu_same _ _ _ _, ⟨n, Rn_66 hR⟩⟩
