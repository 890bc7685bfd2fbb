/-! A RULE THAT CANNOT BE -/
section
variable {n : Nat} {gh : rC_gh} {C R A : rv_Mem}
theorem rf_17x (hR : Rn n gh C R) {nr : Nat} (h45 : R 45 0 = nI nr) (hnr : nr < 20) {c d : Int32} : ∃ C', gp_act gh C A 17 9 0 512 c d = some (-1263, gh, C') ∧ Rn n gh C' R := by
  obtain ⟨nr', a1, a2, a3, a4, a5, a6, a7, m, b1, b2, b3⟩ := hR.rules'
  have e : nr' = nr := by rw [h45, q_eq (by omega) (by omega)] at a4; exact a4.symm
  subst e
  have hd := rul_heads a2 a5
  generalize hC5 : rv_u (rv_u (rv_u (rv_u (rv_u C 43 nr' 9) 44 nr' 0) 45 nr' 512) 46 nr' (rv_i false)) 4 6 (nI (nr' + 1)) = C5
  have eC5 : f8_tryAdd gh C 9 0 512 = rv_o2 (f8_findLevels gh C5) (fun r7 M8 => (if r7 = false then rv_lt (rv_u M8 4 6 ((M8 4 6) - 1)) (fun M9 => rv_o2 (f8_findLevels gh M9) (fun r11 M12 => (some ((-1), M12)))) else (some (nI nr', M8)))) := by
    unfold f8_tryAdd
    rw [if_neg (by rw [a3, q_20, q_le (by omega) (by omega)]; omega)]
    simp (disch := omega) only [a3, q_in, if_pos, q_nc, lt_do, mu_ne, q_succ, hC5]
  have g : ∀ k i, k ≠ 4 → i < nr' → C5 k i = C k i := fun k i hk hi => by
    rw [← hC5, mu_ne hk, mu_ne2 (by omega), mu_ne2 (by omega), mu_ne2 (by omega), mu_ne2 (by omega)]
  have go : ∀ k, k ≠ 4 → (k < 43 ∨ 46 < k) → C5 k = C k := fun k h1 h2 => by
    rw [← hC5, mu_ne h1, mu_ne (by omega), mu_ne (by omega), mu_ne (by omega), mu_ne (by omega)]
  have s43 : C5 43 nr' = 9 := by rw [← hC5, mu_ne (by omega), mu_ne (by omega), mu_ne (by omega), mu_ne (by omega), mu_same]
  have s44 : C5 44 nr' = 0 := by rw [← hC5, mu_ne (by omega), mu_ne (by omega), mu_ne (by omega), mu_same]
  have s45 : C5 45 nr' = 512 := by rw [← hC5, mu_ne (by omega), mu_ne (by omega), mu_same]
  have s46 : C5 46 nr' = rv_i false := by rw [← hC5, mu_ne (by omega), mu_same]
  have g6 : C5 4 6 = nI (nr' + 1) := by rw [← hC5, mu_same]
  have hru : rules (nr' + 1) C5 (C5 43) (C5 44) (C5 45) (C5 46) := ⟨g6, fun i hi => ⟨rfl, rfl, rfl, rfl⟩⟩
  have hhe : heads (nr' + 1) (C5 43) := ⟨by omega, fun i hi => by
    by_cases e : i = nr'
    · rw [e, s43]; exact ⟨9, by omega, by omega, rfl⟩
    · rw [g 43 i (by omega) (by omega)]
      obtain ⟨⟨s, s1, s2, s3, -⟩, -⟩ := a5 i (by omega)
      exact ⟨s, s1, s2, s3⟩⟩
  obtain ⟨b, C6, c1, c2, c3, c4, -⟩ := s8_findLevels (gh := gh) hru hhe
  have nf : ¬ found (nr' + 1) (C5 43) (C5 44) (C5 45) (C5 46) := fun hf => by
    have h1 := pre_iff.mp (fix_pre hf) nr' (by omega) (by rw [s46]; rfl)
    have h2 := rlh_le.mp h1 9 (by omega) (by omega)
    unfold tm at h2
    rw [s43, s45, if_pos (by decide), show (9 : Int32).toNatClampNeg = 9 from rfl] at h2
    omega
  have hb : b = false := by
    cases b with
    | true => exact absurd (c4.mp rfl) nf
    | false => rfl
  subst hb
  have e6 : C6 4 6 = nI (nr' + 1) := by rw [c3 6 (by omega)]; exact g6
  have em : nI (nr' + 1) - 1 = nI nr' := by rw [q_1, q_sub (by omega)]; rfl
  have k6 : ∀ k, k ≠ 4 → k ≠ 47 → (rv_u C6 4 6 (nI nr')) k = C5 k := fun k h1 h2 => by rw [mu_ne h1, c2 k h2 h1]
  have old : rules nr' (rv_u C6 4 6 (nI nr')) (R 46) (R 47) (R 48) (R 49) := by
    refine ⟨mu_same _ _ _ _, fun i hi => ?_⟩
    rw [k6 43 (by omega) (by omega), k6 44 (by omega) (by omega), k6 45 (by omega) (by omega), k6 46 (by omega) (by omega), g 43 i (by omega) hi, g 44 i (by omega) hi, g 45 i (by omega) hi, g 46 i (by omega) hi]
    exact (rul_rules a3 a5).2 i hi
  obtain ⟨b2, C7, x1, x2, x3, x4, x5⟩ := s8_findLevels (gh := gh) old hd
  have hb2 : b2 = true := x4.mpr a6
  refine ⟨C7, ?_, Rn_rul hR (fun k h1 h2 => by rw [x2 k (by omega) h1, k6 k h1 (by omega), go k h1 (by omega)]) (fun _ _ => rfl) hR.h64 (rul_of a1 a2 (by rw [x3 6 (by omega), mu_same]) h45 (fun i hi => ?_) a6 (x5 hb2).1 (x5 hb2).2)⟩
  · rw [ga_17]; unfold f11_addRule
    rw [if_pos (show (8 : Int32) ≤ 9 by decide), if_neg (show ¬ (16 : Int32) ≤ 9 by decide), if_pos (show (0 : Int32) ≤ 0 by decide), if_pos (show (0 : Int32) < 65536 by decide), if_pos (show (0 : Int32) ≤ 512 by decide), if_neg (show ¬ (65536 : Int32) ≤ 512 by decide), eC5, c1, o2_some, if_pos rfl, lt_do, e6, em, x1, o2_some, o2_some, if_pos rfl, x3e, hh3]
  · have := a5 i hi
    unfold rrow at this ⊢
    rw [x2 43 (by omega) (by omega), x2 44 (by omega) (by omega), x2 45 (by omega) (by omega), x2 46 (by omega) (by omega), k6 43 (by omega) (by omega), k6 44 (by omega) (by omega), k6 45 (by omega) (by omega), k6 46 (by omega) (by omega), g 43 i (by omega) hi, g 44 i (by omega) hi, g 45 i (by omega) hi, g 46 i (by omega) hi]
    exact this
end
