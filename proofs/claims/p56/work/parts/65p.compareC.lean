/-! THE CLASS COMPARES, WHOLE -/
def fr3 (o : Nat) (M M0 : rv_Mem) : Prop := ∀ k, k ≠ o → (∀ j, j ≤ 7 → k ≠ o + 18 + 2 * j) → M k = M0 k
def cmpd (M : rv_Mem) (o : Nat) (A B : List Int32) : Prop := M o 8 = nI A.length ∧ M o 9 = nI B.length ∧ (∀ p, p < A.length → M (o + 18) p = A.getD p 0) ∧ (∀ p, p < B.length → M (o + 20) p = B.getD p 0) ∧ (∀ p, p < A.length → M (o + 24) p = oI ((mts A B 0).getD p none)) ∧ hokC M o (hk A B)
theorem isA_of {gh : rC_gh} {k n : Nat} (h : rC_ar gh k 2 n) : rC_isA gh k = true := by
  unfold rC_isA
  rw [h.1, h.2.1]
  rfl
theorem s3_compare {gh : rC_gh} {o : Nat} {M0 : rv_Mem} {c1 c2 f : Nat} {A B : List Int32} (w : Bool) (ho7 : o = 7 ∨ o = 8) (h1 : c1 < 82) (h2 : c2 < 82) (hf : f < 4) (hA : fileC M0 c1 f A) (hB : fileC M0 c2 f B) :
    ∃ M', f3_compare gh M0 o (nI c1) (nI c2) (nI f) w = some M' ∧ fr3 o M' M0 ∧ cmpd M' o (A.map (wd w)) (B.map (wd w)) := by
  have ho : rC_is gh 4 o = true := by rcases ho7 with rfl | rfl <;> rfl
  obtain ⟨a1, a2, a3⟩ := hA
  obtain ⟨b1, b2, b3⟩ := hB
  have r18 := rC_arCm ho 18 (n := 10) (by omega)
  have r20 := rC_arCm ho 20 (n := 10) (by omega)
  obtain ⟨M1, g1, g2, g3⟩ := s3_readLines (gh := gh) (C := M0) (c := c1) (f := f) (k := o + 18) w h1 hf a2 a1 (isA_of r18) r18.2.2 (by omega)
  have x15 : (rv_u M1 o 8 (nI A.length)) 15 = M0 15 := by rw [mu_ne (by omega)]; exact g2 15 (by omega)
  have x14 : (rv_u M1 o 8 (nI A.length)) 14 = M0 14 := by rw [mu_ne (by omega)]; exact g2 14 (by omega)
  obtain ⟨M2, k1, k2, k3⟩ := s3_readLines (gh := gh) (C := rv_u M1 o 8 (nI A.length)) (c := c2) (f := f) (k := o + 20) w h2 hf (by rw [x15]; exact b2) b1 (isA_of r20) r20.2.2 (by omega)
  rw [x14] at k3
  have y8 : (rv_u M2 o 9 (nI B.length)) o 8 = nI A.length := by rw [mu_ne2 (by omega), k2 o (by omega), mu_same]
  have y9 : (rv_u M2 o 9 (nI B.length)) o 9 = nI B.length := mu_same _ _ _ _
  obtain ⟨M3, m1, m2, m3⟩ := s3_countPairs (gh := gh) (o := o) (M0 := rv_u M2 o 9 (nI B.length)) ho a1 b1 y8 y9
  have z8 : M3 o 8 = nI A.length := by rw [m2 o (by omega)]; exact y8
  have z9 : M3 o 9 = nI B.length := by rw [m2 o (by omega)]; exact y9
  have z18 : M3 (o + 18) = (rv_u M2 o 9 (nI B.length)) (o + 18) := m2 _ (by omega)
  have z20 : M3 (o + 20) = (rv_u M2 o 9 (nI B.length)) (o + 20) := m2 _ (by omega)
  obtain ⟨M4, n1, n2, n3⟩ := s3_pairLines (gh := gh) (o := o) (M0 := M3) ho a1 b1 z8 z9 (by rw [z18, z20]; exact m3)
  have eA : (List.range A.length).map (M3 (o + 18)) = A.map (wd w) := by
    apply range_map_ext (by simp)
    intro p hp
    rw [z18, mu_ne (by omega), k2 _ (by omega), mu_ne (by omega), g3 p hp, map_getD hp, a3 p hp]
  have eB : (List.range B.length).map (M3 (o + 20)) = B.map (wd w) := by
    apply range_map_ext (by simp)
    intro p hp
    rw [z20, mu_ne (by omega), k3 p hp, map_getD hp, b3 p hp]
  rw [eA, eB] at n3
  have hk0 := mok_mts _ (A.map (wd w)) (B.map (wd w)) 0 (Nat.le_refl _)
  rw [Nat.zero_add] at hk0
  simp only [List.length_map] at hk0
  obtain ⟨M5, p1, p2, p3, p4⟩ := s3_gatherHunks (gh := gh) (o := o) (M0 := M4) (a := A.length) (b := B.length) (F := mts (A.map (wd w)) (B.map (wd w)) 0) ho a1 b1 (by rw [n2 o (by omega)]; exact z8) (by rw [n2 o (by omega)]; exact z9) hk0.2 n3 hk0.1
  refine ⟨M5, ?_, fun k q1 q2 => ?_, ?_, ?_, fun p hp => ?_, fun p hp => ?_, fun p hp => ?_, ?_⟩
  · unfold f3_compare
    rw [if_pos ho, g1]
    simp only [o2_some, lt_do]
    rw [k1]
    simp only [o2_some, lt_do]
    rw [m1, o1_some, n1, o1_some, p1, o1_some]
  · have j0 := q2 0 (by omega)
    have j1 := q2 1 (by omega)
    have j2 := q2 2 (by omega)
    have j3 := q2 3 (by omega)
    have j4 := q2 4 (by omega)
    have j5 := q2 5 (by omega)
    have j6 := q2 6 (by omega)
    have j7 := q2 7 (by omega)
    rw [p2 k q1 (by omega) (by omega) (by omega) (by omega), n2 k (by omega), m2 k (by omega), mu_ne q1, k2 k (by omega), mu_ne q1, g2 k (by omega)]
  · rw [p3 8 (by omega), n2 o (by omega), z8, List.length_map]
  · rw [p3 9 (by omega), n2 o (by omega), z9, List.length_map]
  · rw [List.length_map] at hp
    rw [p2 _ (by omega) (by omega) (by omega) (by omega) (by omega), n2 _ (by omega), ← eA, List.getD_eq_getElem?_getD, List.getElem?_map, List.getElem?_range hp]
    rfl
  · rw [List.length_map] at hp
    rw [p2 _ (by omega) (by omega) (by omega) (by omega) (by omega), n2 _ (by omega), ← eB, List.getD_eq_getElem?_getD, List.getElem?_map, List.getElem?_range hp]
    rfl
  · rw [List.length_map] at hp
    rw [p2 _ (by omega) (by omega) (by omega) (by omega) (by omega), n3 p hp]
  · unfold hk
    rw [List.length_map]
    exact p4
