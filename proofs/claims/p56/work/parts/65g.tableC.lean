/-! THE CLASS'S TABLE -/
theorem TC_lcs {a b : Nat} {A B : Nat → Int32} (ha : a ≤ 20) {k n : Nat} (hk : k ≤ a) (hn : n ≤ b) : tL a b A B k n ≤ 20 ∧ tL a b A B k n = if k < a ∧ n < b then (if A k = B n then tL a b A B (k + 1) (n + 1) + 1 else max (tL a b A B (k + 1) n) (tL a b A B k (n + 1))) else 0 := by
  refine ⟨(TE_lcs ha k n hk hn).1, ?_⟩
  unfold tL
  by_cases h1 : k < a
  · by_cases h2 : n < b
    · rw [if_pos ⟨h1, h2⟩, dr_cons h1, dr_cons h2, lcs_cons]
    · rw [if_neg (fun z => h2 z.2), dr_nil (A := B) (show b ≤ n by omega), lcs_nil2]
  · rw [if_neg (fun z => h1 z.1), dr_nil (A := A) (show a ≤ k by omega), lcs_nil]
def tcI (o : Nat) (M0 : rv_Mem) (a b : Nat) (T : Nat → Nat → Nat) (k n : Nat) (M : rv_Mem) : Prop := (∀ q, q ≠ o + 22 → M q = M0 q) ∧ ∀ i j, i ≤ a → j ≤ b → (k < i ∨ (i = k ∧ n ≤ j)) → M (o + 22) (11 * i + j) = nI (T i j)
theorem tc_step {gh : rC_gh} {o : Nat} {M0 M : rv_Mem} {a b k n : Nat} (ho : rC_is gh 4 o = true) (ha : a ≤ 10) (hb : b ≤ 10) (h8 : M0 o 8 = nI a) (h9 : M0 o 9 = nI b) (hk : k ≤ a) (hn : n ≤ b) (hI : tcI o M0 a b (tL a b (M0 (o + 18)) (M0 (o + 20))) k (n + 1) M)
    (t : rv_Mem → Nat → Int32 → Option rv_Mem) (T' : rv_Mem → Nat → Int32 → Int32 → Option rv_Mem) :
    ∃ M', tcI o M0 a b (tL a b (M0 (o + 18)) (M0 (o + 20))) k n M' ∧ f3_countPairs_14_s gh t T' M o (nI k) (nI n) = T' M' o (nI k) (dn n) := by
  obtain ⟨i1, i2⟩ := hI
  have g8 : M o 8 = nI a := by rw [i1 o (by omega)]; exact h8
  have g9 : M o 9 = nI b := by rw [i1 o (by omega)]; exact h9
  have g18 : M (o + 18) = M0 (o + 18) := i1 _ (by omega)
  have g20 : M (o + 20) = M0 (o + 20) := i1 _ (by omega)
  obtain ⟨tb, te⟩ := TC_lcs (a := a) (b := b) (A := M0 (o + 18)) (B := M0 (o + 20)) (by omega) hk hn
  have hdn : nI n + -1 = dn n := by
    unfold dn
    by_cases h0 : n = 0
    · subst h0; rfl
    · rw [if_neg h0, q_no, q_dec (by omega)]
  refine ⟨rv_u M (o + 22) (11 * k + n) (nI (tL a b (M0 (o + 18)) (M0 (o + 20)) k n)), ⟨fun q hq => by rw [mu_ne hq]; exact i1 q hq, fun i j hi hj hij => ?_⟩, ?_⟩
  · by_cases e : 11 * i + j = 11 * k + n
    · have e1 : i = k := by omega
      have e2 : j = n := by omega
      subst e1; subst e2
      rw [mu_same]
    · rw [mu_ne2 e]
      exact i2 i j hi hj (by omega)
  have t101 : ∀ v, v = tL a b (M0 (o + 18)) (M0 (o + 20)) k n → f3_countPairs_101 gh t T' M o (nI k) (nI n) (nI v) = T' (rv_u M (o + 22) (11 * k + n) (nI (tL a b (M0 (o + 18)) (M0 (o + 20)) k n))) o (nI k) (dn n) := fun v hv => by
    unfold f3_countPairs_101
    have e : k * 11 + n = 11 * k + n := by omega
    rw [if_pos ho]
    simp (disch := omega) only [q_11, q_mul, q_add, e, q_in, if_pos, q_nc, lt_do]
    rw [hdn, hv]
  unfold f3_countPairs_14_s f3_countPairs_100
  have h0n : (0 : Int32) ≤ nI n := by rw [q_0, q_le (by omega) (by omega)]; omega
  rw [if_pos h0n, if_pos ho, g8, g9, g18, g20]
  by_cases e1 : k < a
  · by_cases e2 : n < b
    · have v1 : M (o + 22) (11 * k + n + 12) = nI (tL a b (M0 (o + 18)) (M0 (o + 20)) (k + 1) (n + 1)) := by
        have := i2 (k + 1) (n + 1) (by omega) (by omega) (by omega)
        rw [← this]; congr 1; omega
      have v2 : M (o + 22) (11 * k + n + 11) = nI (tL a b (M0 (o + 18)) (M0 (o + 20)) (k + 1) n) := by
        have := i2 (k + 1) n (by omega) (by omega) (by omega)
        rw [← this]; congr 1; omega
      have v3 : M (o + 22) (11 * k + n + 1) = nI (tL a b (M0 (o + 18)) (M0 (o + 20)) k (n + 1)) := by
        have := i2 k (n + 1) (by omega) (by omega) (by omega)
        rw [← this]; congr 1
      have b2 := (TC_lcs (a := a) (b := b) (A := M0 (o + 18)) (B := M0 (o + 20)) (by omega) (show k + 1 ≤ a by omega) hn).1
      have b3 := (TC_lcs (a := a) (b := b) (A := M0 (o + 18)) (B := M0 (o + 20)) (by omega) hk (show n + 1 ≤ b by omega)).1
      have x1 : (k + 1) * 11 + n + 1 = 11 * k + n + 12 := by omega
      have x2 : (k + 1) * 11 + n = 11 * k + n + 11 := by omega
      have x3 : k * 11 + n + 1 = 11 * k + n + 1 := by omega
      simp (disch := omega) only [q_lt, q_in, if_pos, q_nc, q_succ, q_11, q_mul, q_add, x1, x2, x3, v1, v2, v3]
      rw [if_pos ⟨e1, e2⟩] at te
      by_cases e3 : M0 (o + 18) k = M0 (o + 20) n
      · rw [if_pos e3] at te ⊢
        exact t101 _ te.symm
      · rw [if_neg e3] at te ⊢
        by_cases e4 : tL a b (M0 (o + 18)) (M0 (o + 20)) (k + 1) n < tL a b (M0 (o + 18)) (M0 (o + 20)) k (n + 1)
        · rw [if_pos e4]
          exact t101 _ (by rw [te]; omega)
        · rw [if_neg e4]
          exact t101 _ (by rw [te]; omega)
    · rw [if_neg (fun z => e2 z.2)] at te
      simp (disch := omega) only [q_lt, if_pos]
      rw [if_neg e2]
      exact t101 0 te.symm
  · rw [if_neg (fun z => e1 z.1)] at te
    simp (disch := omega) only [q_lt]
    rw [if_neg e1]
    exact t101 0 te.symm
