/-! THE CLASS GATHERS HUNKS -/
def hokC (M : rv_Mem) (o : Nat) (H : List (Nat × Nat × Nat × Nat)) : Prop := M o 10 = nI H.length ∧ ∀ (i p d q e : Nat), H[i]? = some (p, d, q, e) → M (o + 26) i = nI p ∧ M (o + 28) i = nI d ∧ M (o + 30) i = nI q ∧ M (o + 32) i = nI e
theorem app_at {α : Type} {L : List α} {x y : α} {i : Nat} (h : (L ++ [x])[i]? = some y) : (i < L.length ∧ L[i]? = some y) ∨ (i = L.length ∧ y = x) := by
  by_cases c : i < L.length
  · rw [List.getElem?_append_left c] at h
    exact Or.inl ⟨c, h⟩
  · rw [List.getElem?_append_right (by omega)] at h
    by_cases e : i - L.length = 0
    · rw [e] at h
      exact Or.inr ⟨by omega, by simpa using h.symm⟩
    · obtain ⟨j, hj⟩ : ∃ j, i - L.length = j + 1 := ⟨i - L.length - 1, by omega⟩
      rw [hj] at h
      simp at h
theorem s3_rec {gh : rC_gh} {k11 : rv_Mem → Nat → Int32 → Int32 → Int32 → Option rv_Mem} {M : rv_Mem} {o p e w q : Nat} {L : List (Nat × Nat × Nat × Nat)} (ho : rC_is gh 4 o = true) (hL : hokC M o L) (hl : L.length ≤ 10) (h1 : p ≤ e) (h2 : w ≤ q) :
    ∃ M', f3_gatherHunks_59 gh k11 M o (nI p) (nI w) (nI e) (nI q) = k11 M' o (nI (e + 1)) (nI (q + 1)) (nI (e + 1)) ∧ (∀ k, k ≠ o → k ≠ o + 26 → k ≠ o + 28 → k ≠ o + 30 → k ≠ o + 32 → M' k = M k) ∧ (∀ j, j ≠ 10 → M' o j = M o j) ∧ hokC M' o (L ++ [(p, e - p, w, q - w)]) := by
  obtain ⟨l1, l2⟩ := hL
  refine ⟨rv_u (rv_u (rv_u (rv_u (rv_u M (o + 26) L.length (nI p)) (o + 28) L.length (nI (e - p))) (o + 30) L.length (nI w)) (o + 32) L.length (nI (q - w))) o 10 (nI (L.length + 1)), ?_, fun k k1 k2 k3 k4 k5 => ?_, fun j hj => ?_, ?_, fun i p' d' q' e' hi => ?_⟩
  · unfold f3_gatherHunks_59 f3_gatherHunks_114 f3_gatherHunks_123
    rw [if_pos ho]
    simp (disch := omega) only [l1, q_in, if_pos, q_nc, lt_do, mu_ne, q_sub, q_succ]
  · rw [mu_ne k1, mu_ne k5, mu_ne k4, mu_ne k3, mu_ne k2]
  · rw [mu_ne2 hj, mu_ne (by omega), mu_ne (by omega), mu_ne (by omega), mu_ne (by omega)]
  · rw [mu_same, List.length_append]; rfl
  · rcases app_at hi with ⟨c, g⟩ | ⟨c, g⟩
    · obtain ⟨g1, g2, g3, g4⟩ := l2 i p' d' q' e' g
      refine ⟨?_, ?_, ?_, ?_⟩
      · rw [mu_ne (by omega), mu_ne (by omega), mu_ne (by omega), mu_ne (by omega), mu_ne2 (by omega), g1]
      · rw [mu_ne (by omega), mu_ne (by omega), mu_ne (by omega), mu_ne2 (by omega), mu_ne (by omega), g2]
      · rw [mu_ne (by omega), mu_ne (by omega), mu_ne2 (by omega), mu_ne (by omega), mu_ne (by omega), g3]
      · rw [mu_ne (by omega), mu_ne2 (by omega), mu_ne (by omega), mu_ne (by omega), mu_ne (by omega), g4]
    · subst c
      simp only [Prod.mk.injEq] at g
      obtain ⟨rfl, rfl, rfl, rfl⟩ := g
      refine ⟨?_, ?_, ?_, ?_⟩
      · rw [mu_ne (by omega), mu_ne (by omega), mu_ne (by omega), mu_ne (by omega), mu_same]
      · rw [mu_ne (by omega), mu_ne (by omega), mu_ne (by omega), mu_same]
      · rw [mu_ne (by omega), mu_ne (by omega), mu_same]
      · rw [mu_ne (by omega), mu_same]
theorem F_drop {F : List (Option Nat)} {k : Nat} (h : k < F.length) : F.drop k = F.getD k none :: F.drop (k + 1) := by
  rw [List.drop_eq_getElem_cons h, List.getD_eq_getElem?_getD, List.getElem?_eq_getElem h]
  rfl
theorem s3_gatherHunks {gh : rC_gh} {o : Nat} {M0 : rv_Mem} {a b : Nat} {F : List (Option Nat)} (ho : rC_is gh 4 o = true) (ha : a ≤ 10) (hb : b ≤ 10) (h8 : M0 o 8 = nI a) (h9 : M0 o 9 = nI b) (hl : F.length = a) (hm : ∀ p, p < a → M0 (o + 24) p = oI (F.getD p none)) (hk : mok F 0 b) :
    ∃ M', f3_gatherHunks gh M0 o = some M' ∧ (∀ k, k ≠ o → k ≠ o + 26 → k ≠ o + 28 → k ≠ o + 30 → k ≠ o + 32 → M' k = M0 k) ∧ (∀ j, j ≠ 10 → M' o j = M0 o j) ∧ hokC M' o (hks F 0 0 0 b) := by
  have L := rv_ux (z := (fun _ _ _ _ _ => none)) (F := f3_gatherHunks_11_s gh) (fun T k (s : rv_Mem × Nat × Nat × List (Nat × Nat × Nat × Nat)) => T s.1 o (nI s.2.1) (nI s.2.2.1) (nI k)) (a + 1)
    (fun k s => (∀ q, q ≠ o → q ≠ o + 26 → q ≠ o + 28 → q ≠ o + 30 → q ≠ o + 32 → s.1 q = M0 q) ∧ (∀ j, j ≠ 10 → s.1 o j = M0 o j) ∧ hokC s.1 o s.2.2.2 ∧ (k ≤ a → s.2.1 ≤ k ∧ s.2.2.2.length ≤ s.2.1 ∧ mok (F.drop k) s.2.2.1 b ∧ s.2.2.2 ++ hks (F.drop k) k s.2.1 s.2.2.1 b = hks F 0 0 0 b) ∧ (k = a + 1 → s.2.2.2 = hks F 0 0 0 b))
    (fun r => ∃ M', r = some M' ∧ (∀ k, k ≠ o → k ≠ o + 26 → k ≠ o + 28 → k ≠ o + 30 → k ≠ o + 32 → M' k = M0 k) ∧ (∀ j, j ≠ 10 → M' o j = M0 o j) ∧ hokC M' o (hks F 0 0 0 b)) ?_ ?_ rv_FU 0 (rv_u M0 o 10 (nI 0), 0, 0, []) (Nat.zero_le _) (FU_lt (by omega))
    ⟨fun q hq _ _ _ _ => mu_ne hq, fun j hj => mu_ne2 hj, ⟨mu_same _ _ _ _, fun i p d q e h => by simp at h⟩, fun _ => ⟨Nat.le_refl _, Nat.le_refl _, hk, by simp⟩, fun h => by omega⟩
  · unfold f3_gatherHunks
    rw [if_pos ho]
    exact L
  · rintro T k ⟨M, p, w, L⟩ hka ⟨i1, i2, i3, i4, -⟩
    obtain ⟨i5, i6, i7, i8⟩ := i4 (by omega)
    have i1 : ∀ q, q ≠ o → q ≠ o + 26 → q ≠ o + 28 → q ≠ o + 30 → q ≠ o + 32 → M q = M0 q := i1
    have i2 : ∀ j, j ≠ 10 → M o j = M0 o j := i2
    have i3 : hokC M o L := i3
    have i5 : p ≤ k := i5
    have i6 : L.length ≤ p := i6
    have i7 : mok (F.drop k) w b := i7
    have i8 : L ++ hks (F.drop k) k p w b = hks F 0 0 0 b := i8
    right
    have g8 : M o 8 = nI a := by rw [i2 8 (by omega)]; exact h8
    have g9 : M o 9 = nI b := by rw [i2 9 (by omega)]; exact h9
    have g24 : M (o + 24) = M0 (o + 24) := i1 _ (by omega) (by omega) (by omega) (by omega) (by omega)
    -- what happens at a mate
    have mate : ∀ q, w ≤ q → q < 2147483647 → ∃ M' L', f3_gatherHunks_40 gh T M o (nI p) (nI w) (nI k) (nI q) = T M' o (nI (k + 1)) (nI (q + 1)) (nI (k + 1)) ∧ (∀ q, q ≠ o → q ≠ o + 26 → q ≠ o + 28 → q ≠ o + 30 → q ≠ o + 32 → M' q = M0 q) ∧ (∀ j, j ≠ 10 → M' o j = M0 o j) ∧ hokC M' o L' ∧ L' = L ++ (if p < k ∨ w < q then [(p, k - p, w, q - w)] else []) := fun q hq hq2 => by
      obtain ⟨M', r1, r2, r3, r4⟩ := s3_rec (k11 := T) (p := p) (e := k) (w := w) (q := q) ho i3 (by omega) i5 hq
      unfold f3_gatherHunks_40
      by_cases c : p < k ∨ w < q
      · refine ⟨M', L ++ [(p, k - p, w, q - w)], ?_, fun q a1 a2 a3 a4 a5 => by rw [r2 q a1 a2 a3 a4 a5]; exact i1 q a1 a2 a3 a4 a5, fun j hj => by rw [r3 j hj]; exact i2 j hj, r4, by rw [if_pos c]⟩
        rw [r1]
        simp (disch := omega) only [q_no, q_no_eq, q_le, q_lt, not_false_eq_true, if_true]
        by_cases c1 : k ≤ p
        · rw [if_pos c1, if_pos (by omega)]
        · rw [if_neg c1]
      · refine ⟨M, L, ?_, i1, i2, i3, by rw [if_neg c, List.append_nil]⟩
        simp (disch := omega) only [q_no, q_no_eq, q_le, q_lt, not_false_eq_true, if_true]
        rw [if_pos (by omega), if_neg (by omega)]
        unfold f3_gatherHunks_114 f3_gatherHunks_123
        simp only [q_succ]
    have step : f3_gatherHunks_11_s gh T M o (nI p) (nI w) (nI k) = if k = a then f3_gatherHunks_40 gh T M o (nI p) (nI w) (nI k) (nI b) else f3_gatherHunks_40 gh T M o (nI p) (nI w) (nI k) (oI (F.getD k none)) := by
      unfold f3_gatherHunks_11_s
      rw [if_pos ho, g8, g9, g24]
      by_cases e : k = a
      · simp (disch := omega) only [q_le, q_eq, e, if_true, Nat.le_refl]
      · have := hm k (by omega)
        simp (disch := omega) only [q_le, q_eq, q_in, if_pos, q_nc, if_neg e, this]
    by_cases e : k = a
    · subst e
      rw [List.drop_of_length_le (by omega)] at i7 i8
      obtain ⟨M', L', r1, r2, r3, r4, r5⟩ := mate b i7 (by omega)
      refine ⟨(M', k + 1, b + 1, L'), ⟨r2, r3, r4, fun h => by omega, fun _ => ?_⟩, ?_⟩
      · show L' = _
        rw [r5, ← i8]
        rfl
      · show f3_gatherHunks_11_s gh T M o (nI p) (nI w) (nI k) = _
        rw [step, if_pos rfl, r1]
    · have hk2 : k < F.length := by omega
      rw [F_drop hk2] at i7 i8
      cases hx : F.getD k none with
      | none =>
        rw [hx] at i7 i8
        refine ⟨(M, p, w, L), ⟨i1, i2, i3, fun _ => ⟨by show p ≤ k + 1; omega, i6, i7, i8⟩, fun h => by omega⟩, ?_⟩
        show f3_gatherHunks_11_s gh T M o (nI p) (nI w) (nI k) = T M o (nI p) (nI w) (nI (k + 1))
        rw [step, if_neg e, hx]
        unfold f3_gatherHunks_40 f3_gatherHunks_123
        rw [if_neg (show ¬ ¬ oI none = -1 from fun z => z rfl), q_succ]
      | some q =>
        rw [hx] at i7 i8
        obtain ⟨m1, m2, m3⟩ := i7
        obtain ⟨M', L', r1, r2, r3, r4, r5⟩ := mate q m1 (by omega)
        refine ⟨(M', k + 1, q + 1, L'), ⟨r2, r3, r4, fun _ => ⟨Nat.le_refl _, ?_, m3, ?_⟩, fun h => by omega⟩, ?_⟩
        · show L'.length ≤ k + 1
          rw [r5]
          by_cases c : p < k ∨ w < q
          · rw [if_pos c]; simp; omega
          · rw [if_neg c]; simp; omega
        · show L' ++ hks (F.drop (k + 1)) (k + 1) (k + 1) (q + 1) b = _
          rw [r5, ← i8, List.append_assoc]
          rfl
        · show f3_gatherHunks_11_s gh T M o (nI p) (nI w) (nI k) = T M' o (nI (k + 1)) (nI (q + 1)) (nI (k + 1))
          rw [step, if_neg e, hx]
          exact r1
  · rintro T ⟨M, p, w, L⟩ ⟨i1, i2, i3, -, i5⟩
    have i2 : ∀ j, j ≠ 10 → M o j = M0 o j := i2
    have i3 : hokC M o L := i3
    have i5 : L = hks F 0 0 0 b := i5 rfl
    refine ⟨M, ?_, i1, i2, i5 ▸ i3⟩
    show f3_gatherHunks_11_s gh T M o (nI p) (nI w) (nI (a + 1)) = _
    unfold f3_gatherHunks_11_s
    rw [if_pos ho, i2 8 (by omega), h8]
    rw [if_neg (by rw [q_le (by omega) (by omega)]; omega)]
