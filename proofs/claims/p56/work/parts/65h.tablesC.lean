/-! THE CLASS'S TABLE, WHOLE -/
theorem s3_countPairs {gh : rC_gh} {o : Nat} {M0 : rv_Mem} {a b : Nat} (ho : rC_is gh 4 o = true) (ha : a ≤ 10) (hb : b ≤ 10) (h8 : M0 o 8 = nI a) (h9 : M0 o 9 = nI b) : ∃ M', f3_countPairs gh M0 o = some M' ∧ (∀ q, q ≠ o + 22 → M' q = M0 q) ∧ ∀ i j, i ≤ a → j ≤ b → M' (o + 22) (11 * i + j) = nI (tL a b (M0 (o + 18)) (M0 (o + 20)) i j) := by
  have inner : ∀ (t : rv_Mem → Nat → Int32 → Option rv_Mem) (k : Nat) (M : rv_Mem), k ≤ a → tcI o M0 a b (tL a b (M0 (o + 18)) (M0 (o + 20))) k (b + 1) M → ∃ M', tcI o M0 a b (tL a b (M0 (o + 18)) (M0 (o + 20))) k 0 M' ∧ f3_countPairs_14 gh t rv_FU M o (nI k) (nI b) = t M' o (dn k) := by
    intro t k M hk hI
    have L := rv_ud (z := (fun _ _ _ _ => none)) (F := f3_countPairs_14_s gh t) (fun T' m M => T' M o (nI k) (dn m)) 0 (fun m M => m ≤ b + 1 ∧ tcI o M0 a b (tL a b (M0 (o + 18)) (M0 (o + 20))) k m M) (fun M => t M o (dn k)) ?_ ?_ rv_FU (b + 1) M (Nat.zero_le _) (FU_lt (by omega)) ⟨Nat.le_refl _, hI⟩
    · obtain ⟨M', ⟨-, g1⟩, g2⟩ := L
      exact ⟨M', g1, g2⟩
    · intro T' m M1 hm ⟨hm2, hI1⟩
      obtain ⟨m', rfl⟩ : ∃ m', m = m' + 1 := ⟨m - 1, by omega⟩
      obtain ⟨M', g1, g2⟩ := tc_step ho ha hb h8 h9 hk (show m' ≤ b by omega) hI1 t T'
      exact ⟨M', ⟨by omega, g1⟩, g2⟩
    · intro T' M1 hI1
      show f3_countPairs_14_s gh t T' M1 o (nI k) NO = _
      unfold f3_countPairs_14_s
      rw [if_neg q_le0no]
      have hdn : nI k + -1 = dn k := by
        unfold dn
        by_cases h0 : k = 0
        · subst h0; rfl
        · rw [if_neg h0, q_no, q_dec (by omega)]
      rw [hdn]
  have L := rv_ud (z := (fun _ _ _ => none)) (F := f3_countPairs_5_s gh) (fun T' m M => T' M o (dn m)) 0 (fun m M => m ≤ a + 1 ∧ (∀ q, q ≠ o + 22 → M q = M0 q) ∧ ∀ i j, i ≤ a → j ≤ b → m ≤ i → M (o + 22) (11 * i + j) = nI (tL a b (M0 (o + 18)) (M0 (o + 20)) i j)) some ?_ ?_ rv_FU (a + 1) M0 (Nat.zero_le _) (FU_lt (by omega)) ⟨Nat.le_refl _, fun _ _ => rfl, fun i j hi _ hm => by omega⟩
  · obtain ⟨M', ⟨-, g1, g2⟩, g3⟩ := L
    refine ⟨M', ?_, g1, fun i j hi hj => g2 i j hi hj (Nat.zero_le _)⟩
    unfold f3_countPairs
    rw [if_pos ho, h8]
    exact g3
  · intro T' m M1 hm ⟨hm2, g1, g2⟩
    obtain ⟨k, rfl⟩ : ∃ k, m = k + 1 := ⟨m - 1, by omega⟩
    obtain ⟨M', j1, j2⟩ := inner T' k M1 (by omega) ⟨g1, fun i j hi hj hij => g2 i j hi hj (by omega)⟩
    refine ⟨M', ⟨by omega, j1.1, fun i j hi hj hm => j1.2 i j hi hj (by omega)⟩, ?_⟩
    show f3_countPairs_5_s gh T' M1 o (nI k) = _
    unfold f3_countPairs_5_s
    have g9 : M1 o 9 = nI b := by rw [g1 o (by omega)]; exact h9
    rw [if_pos (by rw [q_0, q_le (by omega) (by omega)]; omega), if_pos ho, g9]
    exact j2
  · intro T' M1 hI
    show f3_countPairs_5_s gh T' M1 o NO = _
    unfold f3_countPairs_5_s
    rw [if_neg q_le0no]
