/-! MAKING THINGS IN THE HOUSE: a list grows by one -/
def rC_gi (gh : rC_gh) (i pk : Nat) : rC_gh := (fun j => if j = i then gh.1 j + 1 else gh.1 j, fun k => if i = 1 ∧ k = 200 + gh.1 1 then pk else gh.2 k)
/-- each comment's place is there -/
def rC_ok (gh : rC_gh) : Bool := (List.range (gh.1 1)).all (fun j => rC_is gh 8 (gh.2 (200 + j)))
theorem rC_ftA : ∀ k, k < 53 → ∀ j, j < 13 → (((rC_ft (rC_kt.getD k 0 - 100)).getD j (0, 0)).1 = 2 → ((rC_ft (rC_kt.getD k 0 - 100)).getD j (0, 0)).2 < 53) ∧ (100 ≤ rC_kt.getD k 0 → ((rC_ft (rC_kt.getD k 0 - 100)).getD j (0, 0)).1 = 3 → k + ((rC_ft (rC_kt.getD k 0 - 100)).getD j (0, 0)).2 < 53 ∧ (rC_kt.getD (k + ((rC_ft (rC_kt.getD k 0 - 100)).getD j (0, 0)).2) 0 != 0) = true) ∧ (100 ≤ rC_kt.getD k 0 → ((rC_ft (rC_kt.getD k 0 - 100)).getD j (0, 0)).1 < 4) := by decide +kernel
theorem rC_ft1 : ∀ j, j < 13 → ((rC_ft 1).getD j (0, 0)).1 < 2 ∨ (rC_ft 1).getD j (0, 0) = (3, 20) := by decide +kernel
theorem rC_ft2 : ∀ j, j < 13 → ((rC_ft 2).getD j (0, 0)).1 < 2 ∨ (rC_ft 2).getD j (0, 0) = (4, 0) := by decide +kernel
theorem rC_ft5 : ∀ j, j < 13 → ((rC_ft 5).getD j (0, 0)).1 < 2 ∨ (rC_ft 5).getD j (0, 0) = (3, 100) := by decide +kernel
theorem rC_ft8 : ∀ j, j < 13 → ((rC_ft 8).getD j (0, 0)).1 < 2 := by decide +kernel
theorem rC_ftl : ∀ ci, (rC_ft ci).length ≤ 13 := fun ci => match ci with
  | 0 => by decide
  | 1 => by decide
  | 2 => by decide
  | 3 => by decide
  | 4 => by decide
  | 5 => by decide
  | 6 => by decide
  | 7 => by decide
  | 8 => by decide
  | 9 => by decide
  | 10 => by decide
  | 11 => by decide
  | 12 => by decide
  | n + 13 => by show ([] : List (Nat × Nat)).length ≤ 13; decide
theorem rC_refs {gh : rC_gh} (hok : rC_ok gh = true) {k : Nat} (hk : rC_dm gh k = true) (ho : 100 ≤ rC_kd k) {j : Nat} (hj : j < (rC_ft (rC_kd k - 100)).length) : (((rC_ft (rC_kd k - 100)).getD j (0, 0)).1 = 2 → ((rC_ft (rC_kd k - 100)).getD j (0, 0)).2 < 53) ∧ (((rC_ft (rC_kd k - 100)).getD j (0, 0)).1 = 3 → rC_dm gh (k + ((rC_ft (rC_kd k - 100)).getD j (0, 0)).2) = true) ∧ (4 ≤ ((rC_ft (rC_kd k - 100)).getD j (0, 0)).1 → rC_dm gh (gh.2 k) = true) := by
  have hj13 : j < 13 := Nat.lt_of_lt_of_le hj (rC_ftl _)
  by_cases c1 : k < 53
  · have e : rC_kd k = rC_kt.getD k 0 := by unfold rC_kd; rw [if_pos c1]
    rw [e] at ho ⊢
    obtain ⟨a1, a2, a3⟩ := rC_ftA k c1 j hj13
    refine ⟨a1, fun h => ?_, fun h => absurd h (by have := a3 ho; omega)⟩
    obtain ⟨b1, b2⟩ := a2 ho h
    unfold rC_dm
    rw [if_pos b1]
    exact b2
  · by_cases c2 : 100 ≤ k ∧ k < 120
    · have e : rC_kd k = 101 := by unfold rC_kd; rw [if_neg c1, if_pos c2]
      rw [e]
      show (((rC_ft 1).getD j (0, 0)).1 = 2 → ((rC_ft 1).getD j (0, 0)).2 < 53) ∧ (((rC_ft 1).getD j (0, 0)).1 = 3 → rC_dm gh (k + ((rC_ft 1).getD j (0, 0)).2) = true) ∧ (4 ≤ ((rC_ft 1).getD j (0, 0)).1 → rC_dm gh (gh.2 k) = true)
      rcases rC_ft1 j hj13 with h | h
      · exact ⟨fun z => by omega, fun z => by omega, fun z => by omega⟩
      · rw [h]
        refine ⟨fun z => (by cases z), fun _ => ?_, fun z => absurd z (by decide)⟩
        unfold rC_dm at hk ⊢
        rw [if_neg c1, if_pos c2] at hk
        rw [if_neg (by omega), if_neg (by omega), if_pos (by omega)]
        simp at hk ⊢; omega
    · by_cases c3 : 120 ≤ k ∧ k < 140
      · exact absurd ho (by unfold rC_kd; rw [if_neg c1, if_neg c2, if_pos c3]; decide)
      · by_cases c4 : 200 ≤ k ∧ k < 260
        · have e : rC_kd k = 102 := by unfold rC_kd; rw [if_neg c1, if_neg c2, if_neg c3, if_pos c4]
          rw [e]
          show (((rC_ft 2).getD j (0, 0)).1 = 2 → ((rC_ft 2).getD j (0, 0)).2 < 53) ∧ (((rC_ft 2).getD j (0, 0)).1 = 3 → rC_dm gh (k + ((rC_ft 2).getD j (0, 0)).2) = true) ∧ (4 ≤ ((rC_ft 2).getD j (0, 0)).1 → rC_dm gh (gh.2 k) = true)
          rcases rC_ft2 j hj13 with h | h
          · exact ⟨fun z => by omega, fun z => by omega, fun z => by omega⟩
          · rw [h]
            refine ⟨fun z => (by cases z), fun z => absurd z (by decide), fun _ => ?_⟩
            unfold rC_dm at hk
            rw [if_neg c1, if_neg c2, if_neg c3, if_pos c4] at hk
            have hk2 : k < 200 + gh.1 1 := by simpa using hk
            have h9 := List.all_eq_true.mp hok (k - 200) (List.mem_range.mpr (by omega))
            rw [show 200 + (k - 200) = k by omega] at h9
            exact (rC_at_of h9).1
        · by_cases c5 : 300 ≤ k ∧ k < 360
          · have e : rC_kd k = 108 := by unfold rC_kd; rw [if_neg c1, if_neg c2, if_neg c3, if_neg c4, if_pos c5]
            rw [e]
            have h := rC_ft8 j hj13
            show (((rC_ft 8).getD j (0, 0)).1 = 2 → ((rC_ft 8).getD j (0, 0)).2 < 53) ∧ (((rC_ft 8).getD j (0, 0)).1 = 3 → rC_dm gh (k + ((rC_ft 8).getD j (0, 0)).2) = true) ∧ (4 ≤ ((rC_ft 8).getD j (0, 0)).1 → rC_dm gh (gh.2 k) = true)
            exact ⟨fun z => by omega, fun z => by omega, fun z => by omega⟩
          · by_cases c6 : 400 ≤ k ∧ k < 440
            · have e : rC_kd k = 105 := by unfold rC_kd; rw [if_neg c1, if_neg c2, if_neg c3, if_neg c4, if_neg c5, if_pos c6]
              rw [e]
              show (((rC_ft 5).getD j (0, 0)).1 = 2 → ((rC_ft 5).getD j (0, 0)).2 < 53) ∧ (((rC_ft 5).getD j (0, 0)).1 = 3 → rC_dm gh (k + ((rC_ft 5).getD j (0, 0)).2) = true) ∧ (4 ≤ ((rC_ft 5).getD j (0, 0)).1 → rC_dm gh (gh.2 k) = true)
              rcases rC_ft5 j hj13 with h | h
              · exact ⟨fun z => by omega, fun z => by omega, fun z => by omega⟩
              · rw [h]
                refine ⟨fun z => (by cases z), fun _ => ?_, fun z => absurd z (by decide)⟩
                unfold rC_dm at hk ⊢
                rw [if_neg c1, if_neg c2, if_neg c3, if_neg c4, if_neg c5, if_pos c6] at hk
                rw [if_neg (by omega), if_neg (by omega), if_neg (by omega), if_neg (by omega), if_neg (by omega), if_neg (by omega), if_pos (by omega)]
                simp at hk ⊢; omega
            · by_cases c7 : 500 ≤ k ∧ k < 540
              · have e : rC_kd k = 108 := by unfold rC_kd; rw [if_neg c1, if_neg c2, if_neg c3, if_neg c4, if_neg c5, if_neg c6, if_pos c7]
                rw [e]
                have h := rC_ft8 j hj13
                show (((rC_ft 8).getD j (0, 0)).1 = 2 → ((rC_ft 8).getD j (0, 0)).2 < 53) ∧ (((rC_ft 8).getD j (0, 0)).1 = 3 → rC_dm gh (k + ((rC_ft 8).getD j (0, 0)).2) = true) ∧ (4 ≤ ((rC_ft 8).getD j (0, 0)).1 → rC_dm gh (gh.2 k) = true)
                exact ⟨fun z => by omega, fun z => by omega, fun z => by omega⟩
              · exact absurd ho (by unfold rC_kd; rw [if_neg c1, if_neg c2, if_neg c3, if_neg c4, if_neg c5, if_neg c6, if_neg c7]; decide)
theorem rC_ent_ext {cI cZ : ClassId} {ad ad' : Nat → Nat} {gh gh' : rC_gh} {M M' : rv_Mem} {k : Nat} (hok : rC_ok gh = true) (hk : rC_dm gh k = true) (had : ∀ j, rC_dm gh j = true ∨ j < 53 → ad' j = ad j) (h2 : ∀ j, rC_dm gh j = true → gh'.2 j = gh.2 j) (hM : M' k = M k) : rC_ent cI cZ ad' gh' M' k = rC_ent cI cZ ad gh M k := by
  unfold rC_ent
  by_cases ho : 100 ≤ rC_kd k
  · rw [if_pos ho, if_pos ho]
    have e : rC_fl ad' gh' M' (rC_kd k - 100) k = rC_fl ad gh M (rC_kd k - 100) k := by
      unfold rC_fl
      apply List.map_congr_left
      intro j hj
      rw [List.mem_range] at hj
      obtain ⟨r2, r3, r4⟩ := rC_refs hok hk ho hj
      unfold rC_fv
      rw [hM, h2 k hk]
      generalize (rC_ft (rC_kd k - 100)).getD j (0, 0) = f at r2 r3 r4 ⊢
      obtain ⟨x, v⟩ := f
      match x with
      | 0 => rfl
      | 1 => rfl
      | 2 => show Value.ref (ad' v) = Value.ref (ad v); rw [had v (Or.inr (r2 rfl))]
      | 3 => show Value.ref (ad' (k + v)) = Value.ref (ad (k + v)); rw [had _ (Or.inl (r3 rfl))]
      | x + 4 => show Value.ref (ad' (gh.2 k)) = Value.ref (ad (gh.2 k)); rw [had _ (Or.inl (r4 (by show 4 ≤ x + 4; omega)))]
    rw [e]
  · rw [if_neg ho, if_neg ho, hM]
theorem rC_gi1 {gh : rC_gh} {i pk j : Nat} : (rC_gi gh i pk).1 j = if j = i then gh.1 j + 1 else gh.1 j := rfl
theorem rC_gi2 {gh : rC_gh} {i pk k : Nat} : (rC_gi gh i pk).2 k = if i = 1 ∧ k = 200 + gh.1 1 then pk else gh.2 k := rfl
theorem rC_dm_up {gh : rC_gh} {i pk k : Nat} (hi : i < 3) (h : rC_dm gh k = true) : rC_dm (rC_gi gh i pk) k = true := by
  unfold rC_dm at h ⊢
  by_cases c1 : k < 53
  · rw [if_pos c1] at h ⊢; exact h
  · rw [if_neg c1] at h ⊢
    by_cases c2 : 100 ≤ k ∧ k < 120
    · rw [if_pos c2] at h ⊢
      have h := of_decide_eq_true h
      refine decide_eq_true ?_
      rw [rC_gi1]
      split <;> omega
    · rw [if_neg c2] at h ⊢
      by_cases c3 : 120 ≤ k ∧ k < 140
      · rw [if_pos c3] at h ⊢
        have h := of_decide_eq_true h
        refine decide_eq_true ?_
        rw [rC_gi1]
        split <;> omega
      · rw [if_neg c3] at h ⊢
        by_cases c4 : 200 ≤ k ∧ k < 260
        · rw [if_pos c4] at h ⊢
          have h := of_decide_eq_true h
          refine decide_eq_true ?_
          rw [rC_gi1]
          split <;> omega
        · rw [if_neg c4] at h ⊢
          by_cases c5 : 300 ≤ k ∧ k < 360
          · rw [if_pos c5] at h ⊢
            rw [Bool.and_eq_true, decide_eq_true_eq, beq_iff_eq, rC_gi1, rC_gi2]
            rw [Bool.and_eq_true, decide_eq_true_eq, beq_iff_eq] at h
            refine ⟨?_, ?_⟩
            · split <;> omega
            · rw [if_neg (by omega)]; exact h.2
          · rw [if_neg c5] at h ⊢
            by_cases c6 : 400 ≤ k ∧ k < 440
            · rw [if_pos c6] at h ⊢
              have h := of_decide_eq_true h
              refine decide_eq_true ?_
              rw [rC_gi1]
              split <;> omega
            · rw [if_neg c6] at h ⊢
              by_cases c7 : 500 ≤ k ∧ k < 540
              · rw [if_pos c7] at h ⊢
                have h := of_decide_eq_true h
                refine decide_eq_true ?_
                rw [rC_gi1]
                split <;> omega
              · rw [if_neg c7] at h; cases h
theorem rC_dm_dn {gh : rC_gh} {i pk k : Nat} (h : rC_dm (rC_gi gh i pk) k = true) : rC_dm gh k = true ∨ (i = 0 ∧ (k = 100 + gh.1 0 ∨ k = 120 + gh.1 0)) ∨ (i = 1 ∧ (k = 200 + gh.1 1 ∨ (k = 300 + gh.1 1 ∧ pk = 300 + gh.1 1))) ∨ (i = 2 ∧ (k = 400 + gh.1 2 ∨ k = 500 + gh.1 2)) := by
  unfold rC_dm at h ⊢
  by_cases c1 : k < 53
  · rw [if_pos c1] at h ⊢; exact Or.inl h
  · rw [if_neg c1] at h ⊢
    by_cases c2 : 100 ≤ k ∧ k < 120
    · rw [if_pos c2] at h ⊢
      have h := of_decide_eq_true h
      rw [rC_gi1] at h
      rw [decide_eq_true_eq]
      split at h <;> omega
    · rw [if_neg c2] at h ⊢
      by_cases c3 : 120 ≤ k ∧ k < 140
      · rw [if_pos c3] at h ⊢
        have h := of_decide_eq_true h
        rw [rC_gi1] at h
        rw [decide_eq_true_eq]
        split at h <;> omega
      · rw [if_neg c3] at h ⊢
        by_cases c4 : 200 ≤ k ∧ k < 260
        · rw [if_pos c4] at h ⊢
          have h := of_decide_eq_true h
          rw [rC_gi1] at h
          rw [decide_eq_true_eq]
          split at h <;> omega
        · rw [if_neg c4] at h ⊢
          by_cases c5 : 300 ≤ k ∧ k < 360
          · rw [if_pos c5] at h ⊢
            rw [Bool.and_eq_true, decide_eq_true_eq, beq_iff_eq, rC_gi1, rC_gi2] at h
            rw [Bool.and_eq_true, decide_eq_true_eq, beq_iff_eq]
            obtain ⟨h1, h2⟩ := h
            by_cases c : i = 1 ∧ k - 100 = 200 + gh.1 1
            · rw [if_pos c] at h2
              exact Or.inr (Or.inr (Or.inl ⟨c.1, Or.inr ⟨by omega, by omega⟩⟩))
            · rw [if_neg c] at h2
              refine Or.inl ⟨?_, h2⟩
              split at h1
              · have : ¬ (k - 100 = 200 + gh.1 1) := fun z => c ⟨by omega, z⟩
                omega
              · exact h1
          · rw [if_neg c5] at h ⊢
            by_cases c6 : 400 ≤ k ∧ k < 440
            · rw [if_pos c6] at h ⊢
              have h := of_decide_eq_true h
              rw [rC_gi1] at h
              rw [decide_eq_true_eq]
              split at h <;> omega
            · rw [if_neg c6] at h ⊢
              by_cases c7 : 500 ≤ k ∧ k < 540
              · rw [if_pos c7] at h ⊢
                have h := of_decide_eq_true h
                rw [rC_gi1] at h
                rw [decide_eq_true_eq]
                split at h <;> omega
              · rw [if_neg c7] at h; cases h
def rC_bd (i : Nat) : Nat := if i = 0 then 20 else if i = 1 then 60 else 40
theorem rC_I.bd {ad : Nat → Nat} {gh : rC_gh} (hI : rC_I ad gh) {i : Nat} (hi : i < 3) : gh.1 i ≤ rC_bd i := by
  match i, hi with
  | 0, _ => exact hI.2.1
  | 1, _ => exact hI.2.2.1
  | 2, _ => exact hI.2.2.2.1
theorem rC_dm_el {gh : rC_gh} {i j : Nat} (hi : i < 3) (hb : gh.1 i ≤ rC_bd i) (hj : j < gh.1 i) : rC_dm gh (rC_b i + j) = true := by
  match i, hi with
  | 0, _ =>
    have hb : gh.1 0 ≤ 20 := hb
    show rC_dm gh (100 + j) = true
    unfold rC_dm
    rw [if_neg (by omega), if_pos (by omega)]
    simp; omega
  | 1, _ =>
    have hb : gh.1 1 ≤ 60 := hb
    show rC_dm gh (200 + j) = true
    unfold rC_dm
    rw [if_neg (by omega), if_neg (by omega), if_neg (by omega), if_pos (by omega)]
    simp; omega
  | 2, _ =>
    have hb : gh.1 2 ≤ 40 := hb
    show rC_dm gh (400 + j) = true
    unfold rC_dm
    rw [if_neg (by omega), if_neg (by omega), if_neg (by omega), if_neg (by omega), if_neg (by omega), if_pos (by omega)]
    simp; omega
theorem rC_grow {D : va_G} {cI cZ cO : ClassId} {ad ad' : Nat → Nat} {gh : rC_gh} {de : Nat} {M M' : rv_Mem} {H H' : Heap} {i pk z : Nat} (hi : i < 3) (hI : rC_I ad gh) (hok : rC_ok gh = true) (hb : gh.1 i < rC_bd i) (hG : rC_G D cI cZ cO ad gh de M H) (hz : H.size = z)
    (hkp : ∀ q : Nat, q < z → q ≠ ad (9 + i) → (0 < gh.1 i → q ≠ ad (9 + i + 44)) → H'[q]? = H[q]?)
    (ha : ∀ j, rC_dm gh j = true ∨ j < 53 → ad' j = ad j) (ha2 : ∀ i', i' < 3 → i' ≠ i → ad' (9 + i' + 44) = ad (9 + i' + 44)) (hM : ∀ k, rC_dm gh k = true → M' k = M k)
    (hnew : ∀ k, rC_dm (rC_gi gh i pk) k = true → ¬ rC_dm gh k = true → z ≤ ad' k ∧ va_at D vwCl (ad' k, rC_ent cI cZ ad' (rC_gi gh i pk) M' k) H')
    (hinj : ∀ k k', rC_dm (rC_gi gh i pk) k = true → ¬ rC_dm gh k = true → rC_dm (rC_gi gh i pk) k' = true → ¬ rC_dm gh k' = true → ad' k = ad' k' → k = k')
    (hel : rC_dm (rC_gi gh i pk) (rC_b i + gh.1 i) = true)
    {cap : Nat} {mc : Int32} {f f' : Nat → Option Nat} (hLa : va_at D vwCl (ad (9 + i), .inr (0, [.int mc, .ref (ad' (9 + i + 44)), .int (nI (gh.1 i + 1))])) H') (hLb : va_at D vwCl (ad' (9 + i + 44), .inl (cO, cap, .inr (.inr (.inr (.inr f'))))) H') (h1 : gh.1 i < cap) (h2 : cap ≤ 100) (h3 : 10 ≤ cap) (h4 : ∀ j, j < gh.1 i → f' j = some (ad (rC_b i + j))) (h5 : f' (gh.1 i) = some (ad' (rC_b i + gh.1 i))) (h6 : ∀ j, gh.1 i < j → f' j = none)
    (hA : ad' (9 + i + 44) = ad (9 + i + 44) ∧ 0 < gh.1 i ∨ z ≤ ad' (9 + i + 44)) (hne : ∀ k, rC_dm (rC_gi gh i pk) k = true → ¬ rC_dm gh k = true → ad' k ≠ ad' (9 + i + 44)) : rC_G D cI cZ cO ad' (rC_gi gh i pk) de M' H' ∧ rC_I ad' (rC_gi gh i pk) := by
  have h2g : ∀ j, rC_dm gh j = true → (rC_gi gh i pk).2 j = gh.2 j := fun j hj => by
    show (if i = 1 ∧ j = 200 + gh.1 1 then pk else gh.2 j) = gh.2 j
    rw [if_neg]
    rintro ⟨h, rfl⟩
    have hb1 : gh.1 1 < 60 := by subst h; exact hb
    unfold rC_dm at hj
    rw [if_neg (by omega), if_neg (by omega), if_neg (by omega), if_pos (by omega)] at hj
    simp at hj
  have olt : ∀ k, rC_dm gh k = true → ad k < z := fun k hk => by rw [← hz]; exact (hG.1 k hk).lt
  obtain ⟨cap0, mc0, f0, g1, g2, -, -, -, -, -, -, gne⟩ := hG.2 i hi
  have llt : ∀ i', i' < 3 → ad (9 + i') < z := fun i' hi' => by
    obtain ⟨cap1, mc1, f1, k1, k2, -⟩ := hG.2 i' hi'
    rw [← hz]; exact k1.lt
  have alt : ∀ i', i' < 3 → ad (9 + i' + 44) < z := fun i' hi' => by
    obtain ⟨cap1, mc1, f1, k1, k2, -⟩ := hG.2 i' hi'
    rw [← hz]; exact k2.lt
  have okp : ∀ k, rC_dm gh k = true → H'[ad k]? = H[ad k]? := fun k hk => hkp _ (olt k hk) (fun e => by
    have := hI.1 k (9 + i) (Or.inl hk) (Or.inr (by omega)) e
    subst this
    have : ∀ i, i < 3 → rC_dm gh (9 + i) = false := fun i hi => by
      match i, hi with
      | 0, _ => rfl
      | 1, _ => rfl
      | 2, _ => rfl
    rw [this i hi] at hk; cases hk) (fun _ => gne k (Or.inl hk))
  have l9 : ∀ i', i' < 3 → ad' (9 + i') = ad (9 + i') := fun i' hi' => ha _ (Or.inr (by omega))
  refine ⟨⟨fun k hk => ?_, fun i' hi' => ?_⟩, ⟨fun a b hab hbb e => ?_, ?_, ?_, ?_, fun a b ha3 hb3 hab h0 => ?_⟩⟩
  · by_cases ho : rC_dm gh k = true
    · rw [rC_ent_ext hok ho ha h2g (hM k ho), ha k (Or.inl ho)]
      exact (hG.1 k ho).kept (okp k ho)
    · exact (hnew k hk ho).2
  · by_cases e : i' = i
    · subst e
      have en : (rC_gi gh i' pk).1 i' = gh.1 i' + 1 := by show (if i' = i' then _ else _) = _; rw [if_pos rfl]
      rw [en]
      refine ⟨cap, mc, f', ?_, rC_LA.of hLb, by omega, h2, fun z => by omega, fun _ => h3, fun j hj => ?_, fun j hj => h6 j (by omega), fun k hk => ?_⟩
      · rw [l9 i' hi']; exact hLa
      · by_cases hjn : j = gh.1 i'
        · subst hjn; exact h5
        · rw [h4 j (by omega), ha _ (Or.inl (rC_dm_el hi' (Nat.le_of_lt hb) (by omega)))]
      · rcases hk with hk | hk
        · by_cases ho : rC_dm gh k = true
          · rw [ha k (Or.inl ho)]
            rcases hA with ⟨e, -⟩ | e
            · rw [e]; exact gne k (Or.inl ho)
            · have := olt k ho; omega
          · exact hne k hk ho
        · rw [ha k (Or.inr (by omega))]
          rcases hA with ⟨e, -⟩ | e
          · rw [e]; exact gne k (Or.inr hk)
          · have h9 := llt (k - 9) (by omega)
            rw [show 9 + (k - 9) = k by omega] at h9
            omega
    · obtain ⟨cap1, mc1, f1, k1, k2, k3, k4, k5, k6, k7, k8, k9⟩ := hG.2 i' hi'
      have en : (rC_gi gh i pk).1 i' = gh.1 i' := by show (if i' = i then _ else _) = _; rw [if_neg e]
      rw [en]
      have q1 : H'[ad (9 + i')]? = H[ad (9 + i')]? := hkp _ (llt i' hi') (fun q => e (by have := hI.1 _ _ (Or.inr (by omega)) (Or.inr (by omega)) q; omega)) (fun _ => gne _ (Or.inr (by omega)))
      have q2 : H'[ad (9 + i' + 44)]? = H[ad (9 + i' + 44)]? := hkp _ (alt i' hi') (fun q => k9 (9 + i) (Or.inr (by omega)) q.symm) (fun h0 q => hI.2.2.2.2 i i' hi hi' (Ne.symm e) h0 q.symm)
      refine ⟨cap1, mc1, f1, ?_, ?_, k3, k4, ?_, k6, fun j hj => ?_, k8, fun k hk => ?_⟩
      · rw [l9 i' hi', ha2 i' hi' e]; exact k1.kept q1
      · rw [ha2 i' hi' e]; exact k2.kept q2
      · rw [ha2 i' hi' e]; exact k5
      · rw [k7 j hj, ha _ (Or.inl (rC_dm_el hi' (hI.bd hi') hj))]
      · rw [ha2 i' hi' e]
        rcases hk with hk | hk
        · by_cases ho : rC_dm gh k = true
          · rw [ha k (Or.inl ho)]; exact k9 k (Or.inl ho)
          · have := (hnew k hk ho).1
            have := alt i' hi'
            omega
        · rw [ha k (Or.inr (by omega))]; exact k9 k (Or.inr hk)
  · have low : ∀ a, rC_dm gh a = true ∨ (9 ≤ a ∧ a < 12) → ad' a = ad a ∧ ad a < z := fun a h => by
      rcases h with h | h
      · exact ⟨ha a (Or.inl h), olt a h⟩
      · have h9 := llt (a - 9) (by omega)
        rw [show 9 + (a - 9) = a by omega] at h9
        exact ⟨ha a (Or.inr (by omega)), h9⟩
    have cas : ∀ a, rC_dm (rC_gi gh i pk) a = true ∨ (9 ≤ a ∧ a < 12) → (rC_dm gh a = true ∨ (9 ≤ a ∧ a < 12)) ∨ (rC_dm (rC_gi gh i pk) a = true ∧ ¬ rC_dm gh a = true) := fun a h => by
      rcases h with h | h
      · by_cases ho : rC_dm gh a = true
        · exact Or.inl (Or.inl ho)
        · exact Or.inr ⟨h, ho⟩
      · exact Or.inl (Or.inr h)
    rcases cas a hab with pa | pa <;> rcases cas b hbb with pb | pb
    · rw [(low a pa).1, (low b pb).1] at e
      exact hI.1 a b pa pb e
    · have x1 := (low a pa).1
      have x2 := (low a pa).2
      have x3 := (hnew b pb.1 pb.2).1
      omega
    · have x1 := (low b pb).1
      have x2 := (low b pb).2
      have x3 := (hnew a pa.1 pa.2).1
      omega
    · exact hinj a b pa.1 pa.2 pb.1 pb.2 e
  · have h9 := hI.bd (i := 0) (by omega)
    show (if 0 = i then gh.1 0 + 1 else gh.1 0) ≤ 20
    split
    · rename_i h; subst h; exact hb
    · exact h9
  · have h9 := hI.bd (i := 1) (by omega)
    show (if 1 = i then gh.1 1 + 1 else gh.1 1) ≤ 60
    split
    · rename_i h; subst h; exact hb
    · exact h9
  · have h9 := hI.bd (i := 2) (by omega)
    show (if 2 = i then gh.1 2 + 1 else gh.1 2) ≤ 40
    split
    · rename_i h; subst h; exact hb
    · exact h9
  · by_cases ea : a = i
    · subst ea
      rw [ha2 b hb3 (Ne.symm hab)]
      rcases hA with ⟨e, h00⟩ | e
      · rw [e]; exact hI.2.2.2.2 a b ha3 hb3 hab h00
      · have := alt b hb3; omega
    · have h0' : 0 < gh.1 a := by
        have : (rC_gi gh i pk).1 a = gh.1 a := by show (if a = i then _ else _) = _; rw [if_neg ea]
        rw [this] at h0; exact h0
      rw [ha2 a ha3 ea]
      by_cases eb : b = i
      · subst eb
        rcases hA with ⟨e, h00⟩ | e
        · rw [e]; exact hI.2.2.2.2 a b ha3 hb3 hab h0'
        · have := alt a ha3; omega
      · rw [ha2 b hb3 eb]; exact hI.2.2.2.2 a b ha3 hb3 hab h0'
