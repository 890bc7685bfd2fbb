/-! TURNS, VOTES -/
section
variable {n n' : Nat} {gh gh' : rC_gh} {C C' R R' M M' A A' : rv_Mem}
theorem T_gv {g : Nat} (hg : g < 20) {x : Int32} (h : f12_givesTurns M (nI g) x = some M') : M' = rv_u M 20 g (gvT (M 13 g) (M 15 g) (M 20 g) x) := by
  rw [s12_givesTurns hg] at h
  injection h with h
  exact h.symm
theorem T_onB (hR : Rn n gh C R) (hk : ∀ k, k ≤ 15 ∨ (19 ≤ k ∧ k ≤ 20) ∨ (22 ≤ k ∧ k ≤ 32) → M k = R k) (h64 : rv_z (M 64 0) = false) {q p : Nat} (hq : q < gh.1 0) (hp : p < 6) {w : Bool} (h : f12_turnsOn M (nI q) (nI p) w = some M') :
    (∀ j, j < 53 → j ≠ 20 → M' j = M j) ∧ rv_z (M' 64 0) = false ∧ (∀ x, x ≠ q → M' 20 x = R 20 x) ∧ (∀ i, i < 32 → bt (M' 20 q) i = true → (bt (R 20 q) i = true ∧ i ≠ p) ∨ (R 13 q = nI 0 ∧ rv_z (R 15 q) = false ∧ i ≠ p ∧ (R 12 q = nI i ∨ bt (rvS R q) i = true) ∧ (R 12 q = nI p → bt (rvS R q) i = true))) := by
  have hc := hR.ch20
  have hq20 : q < 20 := by omega
  obtain ⟨k, k1, k2, k3, k4, -⟩ := hR.sets hq
  obtain ⟨-, ⟨o, o1, -, o3⟩, -⟩ := hR.chg q hq
  unfold f12_turnsOn at h
  have hin : rv_in (nI q) 20 = true := q_inb hq20 (by omega)
  rw [if_pos hin, if_pos hin, lt_do, if_pos hin, q_nc (by omega)] at h
  generalize hM1 : rv_u M 20 q (M 20 q &&& (((1 : Int32) <<< (nI p &&& 31)) ^^^ (-1))) = M1 at h
  have m1 : ∀ j, j ≠ 20 → M1 j = M j := fun j hj => by rw [← hM1, mu_ne hj]
  have m20 : M1 20 q = R 20 q &&& (((1 : Int32) <<< (nI p &&& 31)) ^^^ (-1)) := by rw [← hM1, mu_same, hk 20 (by omega)]
  have m20o : ∀ x, x ≠ q → M1 20 x = R 20 x := fun x hx => by rw [← hM1, mu_ne2 hx, hk 20 (by omega)]
  have b1 : ∀ i, i < 32 → bt (M1 20 q) i = true → bt (R 20 q) i = true ∧ i ≠ p := fun i hi hb => by
    rw [m20, b_and, b_not _ hi, b_shl1 p (by omega) i hi] at hb
    obtain ⟨h1, h2⟩ := Bool.and_eq_true_iff.mp hb
    refine ⟨h1, fun z => ?_⟩
    rw [decide_eq_true z] at h2; cases h2
  have s12 : M1 12 q = nI o := by rw [m1 12 (by omega), hk 12 (by omega)]; exact o3
  have s13 : M1 13 q = R 13 q := by rw [m1 13 (by omega), hk 13 (by omega)]
  have s15 : M1 15 q = R 15 q := by rw [m1 15 (by omega), hk 15 (by omega)]
  have fin : ∀ (M2 : rv_Mem) (y : Int32), (∀ j, j < 53 → M2 j = M1 j) → rv_z (M2 64 0) = false → M' = rv_u M2 20 q (gvT (M2 13 q) (M2 15 q) (M2 20 q) y) → (∀ i, i < 32 → bt y i = true → i ≠ p ∧ (R 12 q = nI i ∨ bt (rvS R q) i = true) ∧ (R 12 q = nI p → bt (rvS R q) i = true)) → (∀ j, j < 53 → j ≠ 20 → M' j = M j) ∧ rv_z (M' 64 0) = false ∧ (∀ x, x ≠ q → M' 20 x = R 20 x) ∧ (∀ i, i < 32 → bt (M' 20 q) i = true → (bt (R 20 q) i = true ∧ i ≠ p) ∨ (R 13 q = nI 0 ∧ rv_z (R 15 q) = false ∧ i ≠ p ∧ (R 12 q = nI i ∨ bt (rvS R q) i = true) ∧ (R 12 q = nI p → bt (rvS R q) i = true))) := fun M2 y e1 e64 e2 e3 => by
    refine ⟨fun j hj h20 => by rw [e2, mu_ne h20, e1 j hj, m1 j h20], by rw [e2, mu_ne (by omega)]; exact e64, fun x hx => by rw [e2, mu_ne2 hx, e1 20 (by omega), m20o x hx], fun i hi hb => ?_⟩
    rw [e2, mu_same, e1 13 (by omega), e1 15 (by omega), e1 20 (by omega), s13, s15] at hb
    unfold gvT at hb
    split at hb
    · rename_i hcond
      rw [b_or] at hb
      rcases Bool.or_eq_true_iff.mp hb with z | z
      · exact Or.inl (b1 i hi z)
      · exact Or.inr ⟨hcond.1, hcond.2, e3 i hi z⟩
    · exact Or.inl (b1 i hi hb)
  rw [s12] at h
  by_cases e : p = o
  · subst e
    rw [if_neg (fun z => z rfl)] at h
    cases w with
    | true =>
      rw [if_neg (by simp)] at h
      injection h with h
      subst h
      refine ⟨fun j hj h20 => m1 j h20, by rw [m1 64 (by omega)]; exact h64, m20o, fun i hi hb => Or.inl (b1 i hi hb)⟩
    | false =>
      rw [if_pos rfl] at h
      obtain ⟨r5, M6, e5, h⟩ := o2_inv h
      obtain ⟨M8, e8, h⟩ := o1_inv h
      injection h with h
      subst h
      obtain ⟨x, M7, a1, a2, a3⟩ := hR.asked (M := M1) (fun j hj => by rw [m1 j (by omega), hk j (by omega)]) (by rw [m1 64 (by omega)]; exact h64) hq k4 k2
      rw [a1] at e5
      injection e5 with e5
      injection e5 with e5 e6
      subst e5; subst e6
      refine fin M7 x (fun j hj => a2 j (by omega)) (by rw [a2 64 (by omega), m1 64 (by omega)]; exact h64) (T_gv hq20 e8) (fun i hi hb => ?_)
      rw [a3 i hi, rvS_eq hR hq] at hb
      have hb1 := (Bool.and_eq_true_iff.mp hb).1
      refine ⟨fun z => ?_, Or.inr hb1, fun _ => hb1⟩
      rw [rvS_bt hR hq hi] at hb1
      unfold revB at hb1
      rw [z, decide_eq_true o3] at hb1
      simp at hb1
  · rw [if_pos (show ¬ nI p = nI o by rw [q_eq (by omega) (by omega)]; exact e), if_pos hin] at h
    obtain ⟨M3, e3, h⟩ := o1_inv h
    injection h with h
    subst h
    refine fin M1 _ (fun _ _ => rfl) (by rw [m1 64 (by omega)]; exact h64) (T_gv hq20 e3) (fun i hi hb => ?_)
    rw [b_shl1 o (by omega) i hi] at hb
    have io : i = o := of_decide_eq_true hb
    exact ⟨fun z => e (by omega), Or.inl (by rw [o3, io]), fun z => by rw [o3, q_eq (by omega) (by omega)] at z; omega⟩
theorem T_on (hR : Rn n gh C R) (hk : ∀ k, k ≤ 15 ∨ (19 ≤ k ∧ k ≤ 20) ∨ (22 ≤ k ∧ k ≤ 32) → M k = R k) (h64 : rv_z (M 64 0) = false) {q p : Nat} (hq : q < gh.1 0) (hp : p < 6) {w : Bool} (h : f12_turnsOn M (nI q) (nI p) w = some M') :
    (∀ j, j < 53 → j ≠ 20 → M' j = M j) ∧ rv_z (M' 64 0) = false ∧ (∀ x, x ≠ q → M' 20 x = R 20 x) ∧ (∀ i, i < 32 → bt (M' 20 q) i = true → (bt (R 20 q) i = true ∧ i ≠ p) ∨ (R 13 q = nI 0 ∧ rv_z (R 15 q) = false ∧ (R 12 q = nI i ∨ bt (rvS R q) i = true))) := by
  obtain ⟨g1, g2, g3, g4⟩ := T_onB hR hk h64 hq hp h
  refine ⟨g1, g2, g3, fun i hi hb => ?_⟩
  rcases g4 i hi hb with z | z
  · exact Or.inl z
  · exact Or.inr ⟨z.1, z.2.1, z.2.2.2.1⟩
theorem revB_mono {cm : Nat} {r5 r12 r19 r22 r25 r26 r32 r22' r32' r19' : Nat → Int32} {h i : Nat} (h19 : ∀ j, bt (r19 h) j = true → bt (r19' h) j = true) (h22 : ∀ c l p, c < n → p < 6 → l < 2 → r22 (12 * c + 2 * p + l) ≠ 0 → r22' (12 * c + 2 * p + l) ≠ 0) (h32 : ∀ k, k < cm → rv_z (r32 k) = false → rv_z (r32' k) = false) (hb : revB n cm r5 r12 r19 r22 r25 r26 r32 h i = true) : revB n cm r5 r12 r19' r22' r25 r26 r32' h i = true := by
  unfold revB at hb ⊢
  obtain ⟨b1, b2⟩ := Bool.and_eq_true_iff.mp hb
  refine Bool.and_eq_true_iff.mpr ⟨b1, ?_⟩
  rcases Bool.or_eq_true_iff.mp b2 with b2 | b2
  · rcases Bool.or_eq_true_iff.mp b2 with b2 | b2
    · rw [h19 i b2]; simp
    · obtain ⟨k, hk, b3⟩ := List.any_eq_true.mp b2
      have hk2 := List.mem_range.mp hk
      obtain ⟨b4, b5⟩ := Bool.and_eq_true_iff.mp b3
      obtain ⟨b6, b7⟩ := Bool.and_eq_true_iff.mp b4
      have b8 : rv_z (r32 k) = false := by cases z : rv_z (r32 k) with
        | false => rfl
        | true => rw [z] at b7; cases b7
      have : (List.range cm).any (fun k => decide (r26 k = nI h) && !rv_z (r32' k) && decide (r25 k = nI i)) = true := List.any_eq_true.mpr ⟨k, hk, by rw [b6, h32 k hk2 b8, b5]; rfl⟩
      rw [this]; simp
  · obtain ⟨c, hc, b3⟩ := List.any_eq_true.mp b2
    have hc2 := List.mem_range.mp hc
    obtain ⟨b4, b5⟩ := Bool.and_eq_true_iff.mp b3
    obtain ⟨b6, b7⟩ := Bool.and_eq_true_iff.mp b4
    have hi6 := of_decide_eq_true b7
    have : (List.range n).any (fun c => decide (r5 c = nI h) && decide (i < 6) && (decide (r22' (12 * c + 2 * i) ≠ 0) || decide (r22' (12 * c + 2 * i + 1) ≠ 0))) = true := List.any_eq_true.mpr ⟨c, hc, by
      rw [b6, b7]
      rcases Bool.or_eq_true_iff.mp b5 with z | z
      · rw [decide_eq_true (show r22' (12 * c + 2 * i) ≠ 0 from h22 c 0 i hc2 hi6 (by omega) (of_decide_eq_true z))]; rfl
      · rw [decide_eq_true (show r22' (12 * c + 2 * i + 1) ≠ 0 from h22 c 1 i hc2 hi6 (by omega) (of_decide_eq_true z))]; simp⟩
    rw [this]; simp
end
