/-! THE REFERENCE'S TABLE, WHOLE -/
theorem q_le0no : ¬ (0 : Int32) ≤ NO := by decide
/-- the table holds T -/
def tbD (M0 : rv_Mem) (a b : Nat) (T : Nat → Nat → Nat) (M : rv_Mem) : Prop := (∀ q, q ≠ 53 → M q = M0 q) ∧ ∀ i j, i ≤ a → j ≤ b → M 53 (11 * i + j) = nI (T i j)
theorem s12_laysTable {M0 : rv_Mem} {a b c1 c2 f : Nat} {T : Nat → Nat → Nat} (ha : a ≤ 10) (hb : b ≤ 10) (h1 : c1 < 82) (h2 : c2 < 82) (hf : f < 4) (hsa : M0 3 (4 * c1 + f) = nI a) (hsb : M0 3 (4 * c2 + f) = nI b) (hT : TE a b (fun i => wd (rv_z (M0 64 0)) (M0 4 (10 * (4 * c1 + f) + i))) (fun i => wd (rv_z (M0 64 0)) (M0 4 (10 * (4 * c2 + f) + i))) T) : ∃ M', f12_laysTable M0 (nI c1) (nI c2) (nI f) = some M' ∧ tbD M0 a b T M' := by
  have inner : ∀ (t : rv_Mem → Int32 → Int32 → Int32 → Int32 → Int32 → Int32 → Option rv_Mem) (k : Nat) (M : rv_Mem), k ≤ a → tbI M0 a b T k (b + 1) M → ∃ M', tbI M0 a b T k 0 M' ∧ f12_laysTable_29 t rv_FU M (nI c1) (nI c2) (nI f) (nI a) (nI b) (nI k) (nI b) = t M' (nI c1) (nI c2) (nI f) (nI a) (nI b) (dn k) := by
    intro t k M hk hI
    have L := rv_ud (z := (fun _ _ _ _ _ _ _ _ => none)) (F := f12_laysTable_29_s t) (fun T' m M => T' M (nI c1) (nI c2) (nI f) (nI a) (nI b) (nI k) (dn m)) 0 (fun m M => m ≤ b + 1 ∧ tbI M0 a b T k m M) (fun M => t M (nI c1) (nI c2) (nI f) (nI a) (nI b) (dn k)) ?_ ?_ rv_FU (b + 1) M (Nat.zero_le _) (FU_lt (by omega)) ⟨Nat.le_refl _, hI⟩
    · obtain ⟨M', ⟨-, g1⟩, g2⟩ := L
      exact ⟨M', g1, g2⟩
    · intro T' m M1 hm ⟨hm2, hI1⟩
      obtain ⟨m', rfl⟩ : ∃ m', m = m' + 1 := ⟨m - 1, by omega⟩
      obtain ⟨M', g1, g2⟩ := tb_step ha hb h1 h2 hf hk (show m' ≤ b by omega) hT hI1 t T'
      exact ⟨M', ⟨by omega, g1⟩, g2⟩
    · intro T' M1 hI1
      show f12_laysTable_29_s t T' M1 (nI c1) (nI c2) (nI f) (nI a) (nI b) (nI k) NO = _
      unfold f12_laysTable_29_s
      rw [if_neg q_le0no]
      have hdn : nI k + -1 = dn k := by
        unfold dn
        by_cases h0 : k = 0
        · subst h0; rfl
        · rw [if_neg h0, q_no, q_dec (by omega)]
      rw [hdn]
  have L := rv_ud (z := (fun _ _ _ _ _ _ _ => none)) (F := f12_laysTable_20_s) (fun T' m M => T' M (nI c1) (nI c2) (nI f) (nI a) (nI b) (dn m)) 0 (fun m M => m ≤ a + 1 ∧ (∀ q, q ≠ 53 → M q = M0 q) ∧ ∀ i j, i ≤ a → j ≤ b → m ≤ i → M 53 (11 * i + j) = nI (T i j)) some ?_ ?_ rv_FU (a + 1) M0 (Nat.zero_le _) (FU_lt (by omega)) ⟨Nat.le_refl _, fun _ _ => rfl, fun i j hi _ hm => by omega⟩
  · obtain ⟨M', ⟨-, g1, g2⟩, g3⟩ := L
    refine ⟨M', ?_, g1, fun i j hi hj => g2 i j hi hj (Nat.zero_le _)⟩
    unfold f12_laysTable
    rw [s12_sizeOf h1 hf, hsa, o1_some, s12_sizeOf h2 hf, hsb, o1_some]
    exact g3
  · intro T' m M1 hm ⟨hm2, g1, g2⟩
    obtain ⟨k, rfl⟩ : ∃ k, m = k + 1 := ⟨m - 1, by omega⟩
    obtain ⟨M', j1, j2⟩ := inner T' k M1 (by omega) ⟨g1, fun i j hi hj hij => g2 i j hi hj (by omega)⟩
    refine ⟨M', ⟨by omega, j1.1, fun i j hi hj hm => j1.2 i j hi hj (by omega)⟩, ?_⟩
    show f12_laysTable_20_s T' M1 (nI c1) (nI c2) (nI f) (nI a) (nI b) (nI k) = _
    unfold f12_laysTable_20_s
    rw [if_pos (by rw [q_0, q_le (by omega) (by omega)]; omega)]
    exact j2
  · intro T' M1 hI
    show f12_laysTable_20_s T' M1 (nI c1) (nI c2) (nI f) (nI a) (nI b) NO = _
    unfold f12_laysTable_20_s
    rw [if_neg q_le0no]
