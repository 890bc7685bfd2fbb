/-! LANDING: all are landed, with their mails -/
def mlA (m0 : Nat → Int32) (g : Int32) (sets : Nat → Int32) (who : Int32) : Nat → Nat → Int32
  | 0 => m0
  | k + 1 => if bt g k = true then fun p => mlU (mlA m0 g sets who k) (sets k) who 6 p else mlA m0 g sets who k
theorem s11_landAll {gh : rC_gh} {C : rv_Mem} {sets : Nat → Int32} {g who : Int32} (hc : gh.1 0 ≤ 20) (hs : ∀ i, i < gh.1 0 → ∃ r, r < 2 ∧ C (100 + i) 2 = nI r ∧ sets i = (C (100 + i) 9 ||| (1 <<< (C (100 + i) 1 &&& 31))) ||| (if rv_z (C (100 + i) 7) = false ∧ rv_z (C (100 + i) 6) = false then C 12 r else 0)) :
    ∃ C', f11_land_90 gh rv_FU C who g 0 = rv_o1 (fJ_bits g) (fun r7 => (some (.inl (r7, C')))) ∧ (∀ q, q ≠ 13 → (∀ i, i < gh.1 0 → q ≠ 100 + i) → C' q = C q) ∧ (∀ i, i < gh.1 0 → (bt g i = true → C' (100 + i) 5 = 1 ∧ C' (100 + i) 10 = 0 ∧ C' (100 + i) 11 = C 0 11 ∧ ∀ j, j ≠ 5 → j ≠ 10 → j ≠ 11 → C' (100 + i) j = C (100 + i) j) ∧ (bt g i = false → C' (100 + i) = C (100 + i))) ∧ ∀ p, C' 13 p = mlA (C 13) g sets who (gh.1 0) p := by
  have L := rv_ui (z := (fun _ _ _ _ => none)) (F := f11_land_90_s gh) (fun t i M => t M who g (nI i)) (gh.1 0) (fun k M => (∀ q, q ≠ 13 → (∀ i, i < k → q ≠ 100 + i) → M q = C q) ∧ (∀ i, i < k → (bt g i = true → M (100 + i) 5 = 1 ∧ M (100 + i) 10 = 0 ∧ M (100 + i) 11 = C 0 11 ∧ ∀ j, j ≠ 5 → j ≠ 10 → j ≠ 11 → M (100 + i) j = C (100 + i) j) ∧ (bt g i = false → M (100 + i) = C (100 + i))) ∧ ∀ p, M 13 p = mlA (C 13) g sets who k p) (fun M => rv_o1 (fJ_bits g) (fun r7 => (some (.inl (r7, M))))) ?_ ?_ rv_FU 0 C (Nat.zero_le _) (FU_lt (by omega)) ⟨fun _ _ _ => rfl, fun i hi => absurd hi (Nat.not_lt_zero _), fun _ => rfl⟩
  · obtain ⟨C', ⟨x1, x2, x3⟩, x4⟩ := L
    exact ⟨C', x4, x1, x2, x3⟩
  · rintro t k M hk ⟨i1, i2, i3⟩
    have hMk : M (100 + k) = C (100 + k) := i1 _ (by omega) (fun i hi => by omega)
    show ∃ M', _ ∧ f11_land_90_s gh t M who g (nI k) = t M' who g (nI (k + 1))
    unfold f11_land_90_s f11_land_129
    rw [if_pos (show nI k < nI (gh.1 0) by rw [q_lt (by omega) (by omega)]; exact hk), s11_isIn (by omega), o1_some, q_succ]
    cases hb : bt g k with
    | false =>
      rw [if_neg (by simp)]
      refine ⟨M, ⟨fun q h1 h2 => i1 q h1 (fun i hi => h2 i (by omega)), fun i hi => ?_, fun p => ?_⟩, rfl⟩
      · by_cases e : i = k
        · subst e; exact ⟨fun z => (by rw [hb] at z; cases z), fun _ => hMk⟩
        · exact i2 i (by omega)
      · show _ = (if bt g k = true then fun p => mlU (mlA (C 13) g sets who k) (sets k) who 6 p else mlA (C 13) g sets who k) p
        rw [hb, if_neg (by simp)]; exact i3 p
    | true =>
      obtain ⟨r, r1, r2, r3⟩ := hs k hk
      obtain ⟨M', m1, m2, m3, m4, m5⟩ := s11_noteAct (gh := gh) (C := rv_u (rv_u M (100 + k) 5 1) (100 + k) 10 0) (g := k) (r := r) hk hc r1 (by rw [mu_ne2 (by omega), mu_ne2 (by omega), hMk]; exact r2) who
      rw [if_pos rfl, if_pos (q_inb hk (by omega)), q_nc (by omega), if_pos (is1 hk hc)]
      have e1 : f11_endChange gh M (100 + k) 1 who = some M' := by
        unfold f11_endChange
        rw [if_pos (is1 hk hc), lt_do, lt_do, m1, o1_some]
      rw [e1, o1_some]
      have fr : ∀ q, q ≠ 13 → q ≠ 100 + k → M' q = M q := fun q h1 h2 => by rw [m2 q h1 h2, mu_ne h2, mu_ne h2]
      refine ⟨M', ⟨fun q h1 h2 => by rw [fr q h1 (h2 k (by omega)), i1 q h1 (fun i hi => h2 i (by omega))], fun i hi => ?_, fun p => ?_⟩, rfl⟩
      · by_cases e : i = k
        · subst e
          refine ⟨fun _ => ⟨?_, ?_, ?_, fun j h5 h10 h11 => ?_⟩, fun z => by rw [hb] at z; cases z⟩
          · rw [m3 5 (by omega), mu_ne2 (by omega), mu_same]
          · rw [m3 10 (by omega), mu_same]
          · rw [m4, mu_ne (by omega), mu_ne (by omega), i1 0 (by omega) (fun i hi => by omega)]
          · rw [m3 j h11, mu_ne2 h10, mu_ne2 h5, hMk]
        · rw [fr (100 + i) (by omega) (by omega)]
          exact i2 i (by omega)
      · show _ = (if bt g k = true then fun p => mlU (mlA (C 13) g sets who k) (sets k) who 6 p else mlA (C 13) g sets who k) p
        rw [hb, if_pos rfl, m5 p]
        have es : (rv_u (rv_u M (100 + k) 5 1) (100 + k) 10 0) (100 + k) 9 = C (100 + k) 9 ∧ (rv_u (rv_u M (100 + k) 5 1) (100 + k) 10 0) (100 + k) 1 = C (100 + k) 1 ∧ (rv_u (rv_u M (100 + k) 5 1) (100 + k) 10 0) (100 + k) 7 = C (100 + k) 7 ∧ (rv_u (rv_u M (100 + k) 5 1) (100 + k) 10 0) (100 + k) 6 = C (100 + k) 6 ∧ (rv_u (rv_u M (100 + k) 5 1) (100 + k) 10 0) 12 r = C 12 r := by
          refine ⟨?_, ?_, ?_, ?_, ?_⟩
          · rw [mu_ne2 (by omega), mu_ne2 (by omega), hMk]
          · rw [mu_ne2 (by omega), mu_ne2 (by omega), hMk]
          · rw [mu_ne2 (by omega), mu_ne2 (by omega), hMk]
          · rw [mu_ne2 (by omega), mu_ne2 (by omega), hMk]
          · rw [mu_ne (by omega), mu_ne (by omega), i1 12 (by omega) (fun i hi => by omega)]
        rw [es.1, es.2.1, es.2.2.1, es.2.2.2.1, es.2.2.2.2, ← r3]
        refine mlU_cong ?_
        rw [mu_ne (by omega), mu_ne (by omega)]
        exact i3 p
  · rintro t M _
    show f11_land_90_s gh t M who g (nI (gh.1 0)) = _
    unfold f11_land_90_s
    rw [if_neg (show ¬ nI (gh.1 0) < nI (gh.1 0) by rw [q_lt (by omega) (by omega)]; omega)]
theorem s12_landAll {ch : Nat} {S : rv_Mem} {sets xs : Nat → Int32} {g who : Int32} (hc : ch ≤ 20) (h11 : S 11 0 = nI ch) (hs : ∀ i, i < ch → ∃ r, r < 2 ∧ (∀ M, (∀ q, q ≠ 13 → q ≠ 20 → q ≠ 21 → q ≠ 51 → M q = S q) → f12_reviewersOf M (nI i) = some (xs i) ∧ f12_repoOf M (nI i) = some (nI r)) ∧ sets i = (xs i ||| (1 <<< (S 12 i &&& 31))) ||| (if rv_z (S 16 i) = false ∧ rv_z (S 15 i) = false then S 50 r else 0)) :
    ∃ S', f12_landed S g who = some S' ∧ (∀ q, q ≠ 13 → q ≠ 20 → q ≠ 21 → q ≠ 51 → S' q = S q) ∧ (∀ i, (i < ch → bt g i = false) → S' 13 i = S 13 i ∧ S' 20 i = S 20 i ∧ S' 21 i = S 21 i) ∧ (∀ i, i < ch → bt g i = true → S' 13 i = 1 ∧ S' 20 i = 0 ∧ S' 21 i = S 52 0) ∧ ∀ p, S' 51 p = mlA (S 51) g sets who ch p := by
  have L := rv_ui (z := (fun _ _ _ _ => none)) (F := f12_landed_2_s) (fun t i M => t M g who (nI i)) ch (fun k M => (∀ q, q ≠ 13 → q ≠ 20 → q ≠ 21 → q ≠ 51 → M q = S q) ∧ (∀ i, (i < k → bt g i = false) → M 13 i = S 13 i ∧ M 20 i = S 20 i ∧ M 21 i = S 21 i) ∧ (∀ i, i < k → bt g i = true → M 13 i = 1 ∧ M 20 i = 0 ∧ M 21 i = S 52 0) ∧ ∀ p, M 51 p = mlA (S 51) g sets who k p) some ?_ ?_ rv_FU 0 S (Nat.zero_le _) (FU_lt (by omega)) ⟨fun _ _ _ _ _ => rfl, fun _ _ => ⟨rfl, rfl, rfl⟩, fun i hi => absurd hi (Nat.not_lt_zero _), fun _ => rfl⟩
  · obtain ⟨S', ⟨x1, x2, x3, x4⟩, x5⟩ := L
    exact ⟨S', x5, x1, x2, x3, x4⟩
  · rintro t k M hk ⟨i1, i2, i3, i4⟩
    show ∃ M', _ ∧ f12_landed_2_s t M g who (nI k) = t M' g who (nI (k + 1))
    unfold f12_landed_2_s f12_landed_38
    rw [i1 11 (by omega) (by omega) (by omega) (by omega), h11, if_pos (show nI k < nI ch by rw [q_lt (by omega) (by omega)]; exact hk), s12_isOf (by omega), o1_some, q_succ]
    cases hb : bt g k with
    | false =>
      rw [if_neg (by simp)]
      refine ⟨M, ⟨i1, fun i hi => ?_, fun i hi hgi => ?_, fun p => ?_⟩, rfl⟩
      · exact i2 i (fun h => hi (by omega))
      · by_cases e : i = k
        · subst e; rw [hb] at hgi; cases hgi
        · exact i3 i (by omega) hgi
      · show _ = (if bt g k = true then fun p => mlU (mlA (S 51) g sets who k) (sets k) who 6 p else mlA (S 51) g sets who k) p
        rw [hb, if_neg (by simp)]; exact i4 p
    | true =>
      obtain ⟨r, r1, r2, r3⟩ := hs k hk
      have k20 : rv_in (nI k) 20 = true := q_inb (by omega) (by omega)
      have u : ∀ q, q ≠ 13 → q ≠ 20 → rv_u (rv_u M 13 k 1) 20 k 0 q = M q := fun q h1 h2 => by rw [mu_ne h2, mu_ne h1]
      obtain ⟨v1, v2⟩ := r2 (rv_u (rv_u M 13 k 1) 20 k 0) (fun q h1 h2 h3 h4 => by rw [u q h1 h2, i1 q h1 h2 h3 h4])
      obtain ⟨M', m1, m2, m3, m4, m5⟩ := s12_tells (M := rv_u (rv_u M 13 k 1) 20 k 0) (h := k) (r := r) (by omega) v1 v2 r1 who
      rw [if_pos rfl, if_pos k20, q_nc (by omega), lt_do, if_pos k20, lt_do, m1, o1_some]
      refine ⟨M', ⟨fun q h1 h2 h3 h4 => by rw [m2 q h4 h3, u q h1 h2, i1 q h1 h2 h3 h4], fun i hi => ?_, fun i hi hgi => ?_, fun p => ?_⟩, rfl⟩
      · have e : i ≠ k := fun z => by
          subst z
          have := hi (by omega)
          rw [hb] at this; cases this
        obtain ⟨y1, y2, y3⟩ := i2 i (fun h => hi (by omega))
        refine ⟨?_, ?_, ?_⟩
        · rw [m2 13 (by omega) (by omega), mu_ne (by omega), mu_ne2 e]; exact y1
        · rw [m2 20 (by omega) (by omega), mu_ne2 e, mu_ne (by omega)]; exact y2
        · rw [m5 i e, u 21 (by omega) (by omega)]; exact y3
      · by_cases e : i = k
        · subst e
          refine ⟨?_, ?_, ?_⟩
          · rw [m2 13 (by omega) (by omega), mu_ne (by omega), mu_same]
          · rw [m2 20 (by omega) (by omega), mu_same]
          · rw [m4, u 52 (by omega) (by omega), i1 52 (by omega) (by omega) (by omega) (by omega)]
        · obtain ⟨y1, y2, y3⟩ := i3 i (by omega) hgi
          refine ⟨?_, ?_, ?_⟩
          · rw [m2 13 (by omega) (by omega), mu_ne (by omega), mu_ne2 e]; exact y1
          · rw [m2 20 (by omega) (by omega), mu_ne2 e, mu_ne (by omega)]; exact y2
          · rw [m5 i e, u 21 (by omega) (by omega)]; exact y3
      · show _ = (if bt g k = true then fun p => mlU (mlA (S 51) g sets who k) (sets k) who 6 p else mlA (S 51) g sets who k) p
        rw [hb, if_pos rfl, m3 p, u 12 (by omega) (by omega), u 16 (by omega) (by omega), u 15 (by omega) (by omega), u 50 (by omega) (by omega), i1 12 (by omega) (by omega) (by omega) (by omega), i1 16 (by omega) (by omega) (by omega) (by omega), i1 15 (by omega) (by omega) (by omega) (by omega), i1 50 (by omega) (by omega) (by omega) (by omega), ← r3]
        refine mlU_cong ?_
        rw [u 51 (by omega) (by omega)]
        exact i4 p
  · rintro t M ⟨i1, -⟩
    show f12_landed_2_s t M g who (nI ch) = _
    unfold f12_landed_2_s
    rw [i1 11 (by omega) (by omega) (by omega) (by omega), h11, if_neg (show ¬ nI ch < nI ch by rw [q_lt (by omega) (by omega)]; omega)]
