/-! THE DESK CHANGES -/
theorem mAt_lt {n : Nat} {r5 r6 : Nat → Int32} {h s : Int32} (hn : n < 2147483648) (h0 : 0 < n) : (mAt n r5 r6 h s).toNatClampNeg < n := by
  have h9 := up_inv (g := mFind r5 r6 h s) (fun k a => a = NO ∨ ∃ c, c < k ∧ a = nI c) n 0 NO (Or.inl rfl) (fun j a _ h2 h3 => ?_)
  · rw [Nat.zero_add] at h9
    show (up (mFind r5 r6 h s) n 0 NO).toNatClampNeg < n
    rcases h9 with e | ⟨c, hc, e⟩
    · rw [e]; exact h0
    · rw [e, q_nc (by omega)]; exact hc
  · unfold mFind
    by_cases e : r5 j = h ∧ r6 j = s
    · rw [if_pos e]; exact Or.inr ⟨j, by omega, rfl⟩
    · rw [if_neg e]
      rcases h3 with h3 | ⟨c, hc, h3⟩
      · exact Or.inl h3
      · exact Or.inr ⟨c, by omega, h3⟩
theorem mAt_cong {n : Nat} {r5 r6 r5' r6' : Nat → Int32} {h s : Int32} (h5 : ∀ c, c < n → r5' c = r5 c) (h6 : ∀ c, c < n → r6' c = r6 c) : mAt n r5' r6' h s = mAt n r5 r6 h s := by
  refine up_congr n 0 NO (fun j a _ hj => ?_)
  unfold mFind
  rw [h5 j (by omega), h6 j (by omega)]
theorem fl_cong {R R' : rv_Mem} {c f : Nat} (h3 : R' 3 (4 * c + f) = R 3 (4 * c + f)) (h4 : ∀ p, p < (R 3 (4 * c + f)).toNatClampNeg → R' 4 (10 * (4 * c + f) + p) = R 4 (10 * (4 * c + f) + p)) : fl R' c f = fl R c f := by
  unfold fl
  rw [h3]
  refine List.map_congr_left (fun p hp => h4 p (List.mem_range.mp hp))
theorem Rn.baselt {n : Nat} {gh : rC_gh} {C R : rv_Mem} (h : Rn n gh C R) {c : Nat} (hc : c < n) : (R 2 c).toNatClampNeg < n := by
  have h2 := h.cnt.1
  by_cases e : c < 2
  · rw [(h.bas.2.1 c e).2]
    show (0 : Nat) < n
    omega
  · obtain ⟨b, b1, -, b2, -⟩ := h.bas.2.2.1 c (by omega) hc
    rw [b2, q_nc (by omega)]
    omega
theorem kindS_cong {n : Nat} {R R' : rv_Mem} (hn : n < 2147483648) (h2 : ∀ c, c < n → R' 2 c = R 2 c) (h5 : ∀ c, c < n → R' 5 c = R 5 c) (h6 : ∀ c, c < n → R' 6 c = R 6 c) (hf : ∀ c f, c < n → f < 4 → fl R' c f = fl R c f) (hb : ∀ c, c < n → (R 2 c).toNatClampNeg < n) {c : Nat} (hc : c < n) : kindS n R' c = kindS n R c := by
  unfold kindS
  rw [h6 c hc, h5 c hc, mAt_cong h5 h6]
  have hl : (mAt n (R 5) (R 6) (R 5 c) (R 6 c - 1)).toNatClampNeg < n := mAt_lt hn (by omega)
  have e1 : (List.range 4).all (fun f => decide (fl R' c f = fl R' (mAt n (R 5) (R 6) (R 5 c) (R 6 c - 1)).toNatClampNeg f)) = (List.range 4).all (fun f => decide (fl R c f = fl R (mAt n (R 5) (R 6) (R 5 c) (R 6 c - 1)).toNatClampNeg f)) := by
    rw [Bool.eq_iff_iff, List.all_eq_true, List.all_eq_true]
    constructor <;> intro h f hm
    · have := h f hm
      rwa [hf c f hc (List.mem_range.mp hm), hf _ f hl (List.mem_range.mp hm)] at this
    · have := h f hm
      rwa [hf c f hc (List.mem_range.mp hm), hf _ f hl (List.mem_range.mp hm)]
  have e2 : (List.range 4).all (fun f => allalk (fl R' (R 2 c).toNatClampNeg f) (fl R' c f) (fl R' (R 2 (mAt n (R 5) (R 6) (R 5 c) (R 6 c - 1)).toNatClampNeg).toNatClampNeg f) (fl R' (mAt n (R 5) (R 6) (R 5 c) (R 6 c - 1)).toNatClampNeg f)) = (List.range 4).all (fun f => allalk (fl R (R 2 c).toNatClampNeg f) (fl R c f) (fl R (R 2 (mAt n (R 5) (R 6) (R 5 c) (R 6 c - 1)).toNatClampNeg).toNatClampNeg f) (fl R (mAt n (R 5) (R 6) (R 5 c) (R 6 c - 1)).toNatClampNeg f)) := by
    rw [Bool.eq_iff_iff, List.all_eq_true, List.all_eq_true]
    constructor <;> intro h f hm
    · have := h f hm
      rwa [hf _ f (hb c hc) (List.mem_range.mp hm), hf c f hc (List.mem_range.mp hm), hf _ f (hb _ hl) (List.mem_range.mp hm), hf _ f hl (List.mem_range.mp hm)] at this
    · have := h f hm
      rwa [hf _ f (hb c hc) (List.mem_range.mp hm), hf c f hc (List.mem_range.mp hm), hf _ f (hb _ hl) (List.mem_range.mp hm), hf _ f hl (List.mem_range.mp hm)]
  simp only [h2 c hc, h2 _ hl, e1, e2]
theorem parS_cong {n : Nat} {R R' : rv_Mem} (hn : n < 2147483648) (h0 : 0 < n) (h2 : ∀ c, c < n → R' 2 c = R 2 c) (h5 : R' 5 = R 5) (h6 : R' 6 = R 6) (h14 : R' 14 = R 14) (h : Nat) : parS n R' h = parS n R h := by
  have e : curS n R' h = curS n R h := by unfold curS; rw [h5, h6, h14]
  unfold parS
  have hl : (curS n R h).toNatClampNeg < n := mAt_lt hn h0
  rw [e, h5, h2 _ hl]
theorem Rn_desk {n : Nat} {gh : rC_gh} {C C' R R' : rv_Mem} (h : Rn n gh C R) (hC : ∀ k, k ≠ 14 → k ≠ 15 → k ≠ 16 → k ≠ 17 → C' k = C k) (h16 : ∀ c, c ≠ 80 → C' 16 c = C 16 c) (h17 : ∀ c, c ≠ 80 → C' 17 c = C 17 c) (hR : ∀ k, k ≤ 52 → k ≠ 2 → k ≠ 3 → k ≠ 4 → R' k = R k) (h2 : ∀ c, c ≠ 80 → R' 2 c = R 2 c) (h3 : ∀ i, i < 320 → R' 3 i = R 3 i) (h4 : ∀ i, i < 3200 → R' 4 i = R 4 i)
    (fil : A_fil n (C' 14) (C' 15) (R' 3) (R' 4)) (h80 : ∃ b, b < n ∧ C' 17 80 = nI b ∧ R' 2 80 = nI b) (h64 : rv_z (R' 64 0) = false) : Rn n gh C' R' := by
  have hn := h.n80
  have e0 := hR 0 (by omega) (by omega) (by omega) (by omega)
  have e1 := hR 1 (by omega) (by omega) (by omega) (by omega)
  have e5 := hR 5 (by omega) (by omega) (by omega) (by omega)
  have e6 := hR 6 (by omega) (by omega) (by omega) (by omega)
  have e14 := hR 14 (by omega) (by omega) (by omega) (by omega)
  have efl : ∀ c f, c < n → f < 4 → fl R' c f = fl R c f := fun c f hc hf => by
    obtain ⟨s, s1, -, s2, -⟩ := h.fil c (Or.inl hc) f hf
    refine fl_cong (h3 _ (by omega)) (fun p hp => h4 _ ?_)
    rw [s2, q_nc (by omega)] at hp
    omega
  have h2' : ∀ c, c < n → R' 2 c = R 2 c := fun c hc => h2 c (by omega)
  have eki : ∀ c, c < n → kindS n R' c = kindS n R c := fun c hc => kindS_cong (by omega) h2' (fun c _ => by rw [e5]) (fun c _ => by rw [e6]) efl (fun c hc => h.baselt hc) hc
  have epa : ∀ h, parS n R' h = parS n R h := fun g => parS_cong (by omega) (by have := h.cnt.1; omega) h2' e5 e6 e14 g
  have hCb : ∀ k, 100 ≤ k → C' k = C k := fun k hk => hC k (by omega) (by omega) (by omega) (by omega)
  have hCx : ∀ k, (k < 14 ∨ 17 < k) → C' k = C k := fun k hk => hC k (by omega) (by omega) (by omega) (by omega)
  have hRx : ∀ k, (k ≤ 1 ∨ 5 ≤ k ∧ k ≤ 52) → R' k = R k := fun k hk => hR k (by omega) (by omega) (by omega) (by omega)
  refine ⟨?_, fil, ?_, ?_, ?_, ?_, ?_, ?_, ?_, ?_, ?_, ?_, ?_, ?_, ?_, ?_, ?_, h.ok⟩
  · obtain ⟨b1, b2, b3, b4, b5, b6, b7, b8, b9, -⟩ := h.cnt
    exact ⟨b1, by rw [hCx 1 (by omega)]; exact b2, by rw [e0]; exact b3, b4, by rw [hRx 11 (by omega)]; exact b5, b6, by rw [hRx 24 (by omega)]; exact b7, b8, by rw [hRx 34 (by omega)]; exact b9, h64⟩
  · obtain ⟨b1, b2, b3, -⟩ := h.bas
    rw [hCx 18 (by omega), hRx 8 (by omega), e1]
    refine ⟨fun c hc => ⟨by rw [h16 c (by omega)]; exact (b1 c hc).1, (b1 c hc).2⟩, fun c hc => by rw [h17 c (by omega), h2 c (by omega)]; exact b2 c hc, fun c hc hc2 => by rw [h17 c (by omega), h2 c (by omega)]; exact b3 c hc hc2, h80⟩
  · rw [hCx 22 (by omega), hCx 51 (by omega), e1, hRx 9 (by omega), hRx 10 (by omega)]
    exact h.tip
  · rw [hCx 19 (by omega), hCx 20 (by omega), e5, e6, hRx 7 (by omega), e14]
    exact own_c hCb h.own
  · rw [e5, e6, e14]
    exact set_c hCb (hCx 23 (by omega)) h.set
  · have a7 := chg_c hCb h.chg
    unfold A_chg at a7 ⊢
    rw [e5, e1, hRx 12 (by omega), hRx 13 (by omega), hRx 15 (by omega), hRx 16 (by omega), hRx 17 (by omega), hRx 18 (by omega), hRx 20 (by omega), hRx 21 (by omega), hRx 52 (by omega)]
    exact a7
  · have a8 := h.nw
    unfold A_new at a8 ⊢
    rw [hRx 15 (by omega), hRx 16 (by omega), hRx 19 (by omega), hRx 20 (by omega)]
    exact a8
  · have a9 := h.par
    unfold A_par at a9 ⊢
    simp only [epa, e5, hRx 9 (by omega), hRx 13 (by omega)]
    exact a9
  · intro c hc hc2
    rw [hCx 21 (by omega), eki c hc]
    exact h.kin c hc (by rw [e5] at hc2; exact hc2)
  · have a11 := rev_c hCb h.rev
    unfold A_rev at a11 ⊢
    rw [e5, hRx 12 (by omega), hRx 19 (by omega), hRx 22 (by omega), hRx 25 (by omega), hRx 26 (by omega), hRx 32 (by omega)]
    exact a11
  · rw [hCx 41 (by omega), hCx 42 (by omega), hRx 22 (by omega), hRx 23 (by omega)]
    exact h.vot
  · have a13 := cmt_c hCb h.cmt
    intro j hj
    obtain ⟨g1, g2, g3, g4, g5, ch', s, f, a, k, k1, k2, k3, k4, k5, k6, k7, k8, k9, k10, k11, k12, k13, k14, k15⟩ := a13 j hj
    rw [hRx 25 (by omega), hRx 31 (by omega), hRx 33 (by omega), hRx 32 (by omega)]
    refine ⟨g1, g2, g3, g4, g5, ch', s, f, a, k, k1, by rw [e14]; exact k2, k3, k4, k5, by rw [hRx 26 (by omega)]; exact k6, k7, by rw [hRx 27 (by omega)]; exact k8, k9, by rw [hRx 28 (by omega)]; exact k10, k11, by rw [hRx 29 (by omega)]; exact k12, k13, by rw [hRx 30 (by omega)]; exact k14, ?_⟩
    rw [e5, e6, h3 _ (by have := mAt_lt (n := n) (r5 := R 5) (r6 := R 6) (h := nI ch') (s := nI s) (by omega) (by have := h.cnt.1; omega); omega)]
    exact k15
  · have a14 := fnd_c hCb h.fnd
    intro j hj
    obtain ⟨ch', s, f, a, k, k1, k2, k3, k4, k5, k6, k7, k8, k9, k10, k11, k12, k13, k14, k15, k16, k17⟩ := a14 j hj
    refine ⟨ch', s, f, a, k, k1, by rw [e14]; exact k2, k3, k4, by rw [hRx 35 (by omega)]; exact k5, k6, by rw [hRx 36 (by omega)]; exact k7, k8, by rw [hRx 37 (by omega)]; exact k9, k10, by rw [hRx 38 (by omega)]; exact k11, k12, by rw [hRx 39 (by omega)]; exact k13, by rw [e5, e6]; exact k14, ?_, by rw [hRx 40 (by omega)]; exact k16, by rw [hRx 40 (by omega)]; exact k17⟩
    rw [e5, e6, h3 _ (by have := mAt_lt (n := n) (r5 := R 5) (r6 := R 6) (h := nI ch') (s := nI s) (by omega) (by have := h.cnt.1; omega); omega)]
    exact k15
  · have a15 := h.ols
    unfold A_ols at a15 ⊢
    rw [hCx 48 (by omega), hCx 49 (by omega), hCx 50 (by omega), hCx 5 (by omega), hRx 41 (by omega), hRx 42 (by omega), hRx 43 (by omega), hRx 44 (by omega)]
    exact a15
  · have a16 := h.rul
    unfold A_rul at a16 ⊢
    rw [hCx 4 (by omega), hCx 43 (by omega), hCx 44 (by omega), hCx 45 (by omega), hCx 46 (by omega), hCx 47 (by omega), hRx 45 (by omega), hRx 46 (by omega), hRx 47 (by omega), hRx 48 (by omega), hRx 49 (by omega)]
    exact a16
  · have a17 := h.mis
    unfold A_mis at a17 ⊢
    rw [hCx 12 (by omega), hCx 13 (by omega), hCx 0 (by omega), hRx 50 (by omega), hRx 51 (by omega), hRx 52 (by omega)]
    exact a17
