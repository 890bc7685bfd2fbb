/-! THE FIXED FILE, the reference -/
theorem gcs_skip {md : Nat → Option (Nat × List Int32)} {O : List Int32} {X : Nat} {out : List Int32} : ∀ d q, (∀ j, q ≤ j → j < q + d → md j = none ∧ j < X) → up (gcs md O) d q (X, out) = (X, out)
  | 0, _, _ => rfl
  | d + 1, q, h => by
    have e : gcs md O q (X, out) = (X, out) := by
      unfold gcs gcs1
      rw [(h q (Nat.le_refl _) (by omega)).1]
      show (X, out ++ (if q < O.length ∧ X ≤ q then [O.getD q 0] else [])) = _
      rw [if_neg (fun z => by have := (h q (Nat.le_refl _) (by omega)).2; omega), List.append_nil]
    show up (gcs md O) d (q + 1) (gcs md O q (X, out)) = _
    rw [e]
    exact gcs_skip d (q + 1) (fun j h1 h2 => h j (by omega) (by omega))
theorem vis_cong {M R : rv_Mem} (h14 : M 14 = R 14) (h35 : M 35 = R 35) (h36 : M 36 = R 36) : visq M = visq R := by
  funext h u
  unfold visq
  rw [h14, h35, h36]
theorem isFx_cong {M R : rv_Mem} (e : ∀ k, 14 ≤ k → k ≤ 40 → M k = R k) {h : Nat} {x : Int32} {f p u : Nat} : isFx M h x f p u ↔ isFx R h x f p u := by
  unfold isFx chs pos ff fa
  rw [vis_cong (e 14 (by omega) (by omega)) (e 35 (by omega) (by omega)) (e 36 (by omega) (by omega)), e 37 (by omega) (by omega), e 38 (by omega) (by omega)]
theorem s12_fixes {M R : rv_Mem} {h F f c : Nat} {x : Int32} {O : List Int32} (hM : ∀ k, 14 ≤ k → k ≤ 40 → M k = R k) (h64 : rv_z (M 64 0) = false) (hf : ∀ u, u < F → R 37 u = nI (ff R u) ∧ R 38 u = nI (fa R u) ∧ R 39 u = nI (fk R u) ∧ ff R u < 4 ∧ fa R u + fk R u ≤ 10) (hh : h < 20) (hF : F ≤ 40) (h34 : R 34 0 = nI F) (hf4 : f < 4) (hc : c < 82) (hO : fileR M c f O) (hcur : f12_current M (nI h) = some (nI c)) (hsz : ∀ u, u < F → chs R h x u = true → ff R u = f → fa R u + fk R u ≤ O.length) (hn : ¬ someT R h F x) :
    ∃ M', f12_fixes M (nI h) x (nI f) = some (nI (ggd (fmd R h F x f) O).length, M') ∧ rowst M' (ggd (fmd R h F x f) O) ∧ f63 M' M ∧ (ggd (fmd R h F x f) O).length ≤ 22 := by
  have lO := hO.1
  have start : f12_fixes M (nI h) x (nI f) = f12_fixes_15 rv_FU (rv_u M 63 0 0) (nI h) x (nI f) (nI c) 0 := by
    unfold f12_fixes
    rw [hcur, o1_some, lt_do]
  rw [start]
  have fO : ∀ M1, f63 M1 M → fileR M1 c f O := fun M1 h1 => fileR_of (h1 3 (by omega) (by omega)) (h1 4 (by omega) (by omega)) hO
  -- the own line
  have own : ∀ (t : rv_Mem → Int32 → Int32 → Int32 → Int32 → Int32 → Option (Int32 × rv_Mem)) M1 p out, f63 M1 M → rowst M1 out → p ≤ O.length → out.length ≤ 22 → ∃ M2, f12_fixes_100 t M1 (nI h) x (nI f) (nI c) (nI p) 0 = t M2 (nI h) x (nI f) (nI c) (nI (p + 1)) ∧ f63 M2 M ∧ rowst M2 (out ++ (if p < O.length then [O.getD p 0] else [])) := by
    intro t M1 p out h1 h2 hp hl
    unfold f12_fixes_100 f12_fixes_127 f12_fixes_140
    rw [if_pos rfl, s12_sizeOf hc hf4, (fO M1 h1).2.1, o1_some]
    simp only [eq_self, if_true, q_succ]
    by_cases c1 : p < O.length
    · rw [if_pos (show nI p < nI O.length by rw [q_lt (by omega) (by omega)]; exact c1), if_pos c1]
      obtain ⟨M2, m1, m2, m3⟩ := s12_fills (M := M1) (a := p) (n := 1) (by rw [h1 64 (by omega) (by omega)]; exact h64) hc hf4 (fO M1 h1) h2 (by omega) (by omega)
      rw [show (1 : Int32) = nI 1 from rfl, m1, o1_some]
      refine ⟨M2, rfl, fun q q1 q2 => by rw [m3 q q1 q2, h1 q q1 q2], ?_⟩
      rw [sl_succ (by omega), sl_0, List.nil_append, Nat.add_zero] at m2
      exact m2
    · rw [if_neg (show ¬ nI p < nI O.length by rw [q_lt (by omega) (by omega)]; exact c1), if_neg c1, List.append_nil]
      exact ⟨M1, rfl, h1, h2⟩
  -- a pushed line
  have push : ∀ (t : rv_Mem → Int32 → Int32 → Int32 → Int32 → Int32 → Option (Int32 × rv_Mem)) M1 p out u s0, f63 M1 M → rowst M1 out → u < F → out.length ≤ 20 → ∃ M2, f12_fixes_55 t M1 (nI h) x (nI f) (nI c) (nI p) (nI u) s0 = f12_fixes_100 t M2 (nI h) x (nI f) (nI c) (nI p) s0 ∧ f63 M2 M ∧ rowst M2 (out ++ (if R 40 u = NO then [] else [R 40 u])) := by
    intro t M1 p out u s0 h1 h2 hu hl
    have u40 : rv_in (nI u) 40 = true := q_inb (by omega) (by omega)
    have e40 : M1 40 u = R 40 u := by rw [h1 40 (by omega) (by omega), hM 40 (by omega) (by omega)]
    unfold f12_fixes_55
    rw [q_no, if_pos (show ¬ nI u = NO by rw [q_no_eq (by omega)]; exact fun z => z), if_pos u40, q_nc (by omega), e40]
    by_cases c1 : R 40 u = NO
    · rw [if_neg (fun z => z c1), if_pos c1, List.append_nil]
      exact ⟨M1, rfl, h1, h2⟩
    · rw [if_pos c1, if_neg c1, if_pos u40, h2.1, if_pos (q_inb (show out.length < 24 by omega) (by omega)), q_nc (by omega), lt_do, mu_ne (by omega), h2.1, q_succ, lt_do]
      refine ⟨_, rfl, fun q q1 q2 => by rw [mu_ne q2, mu_ne q1, h1 q q1 q2], ?_, fun p hp => ?_⟩
      · rw [mu_same]; simp
      · rw [mu_ne (by omega)]
        by_cases e : p = out.length
        · subst e
          rw [mu_same]; simp
        · have hp : p < out.length := by simp at hp; omega
          rw [mu_ne2 e, getD_app hp]
          exact h2.2 p hp
  refine rv_ux (z := (fun _ _ _ _ _ _ => none)) (F := f12_fixes_15_s) (fun t (_ : Nat) (s : rv_Mem × Nat) => t s.1 (nI h) x (nI f) (nI c) (nI s.2)) (O.length + 2) (fun m s => m ≤ s.2 ∧ s.2 ≤ O.length + 1 ∧ f63 s.1 M ∧ ∃ x2 out, up (gcs (fmd R h F x f) O) s.2 0 (0, []) = (x2, out) ∧ x2 ≤ s.2 ∧ rowst s.1 out ∧ out.length ≤ 2 * s.2 ∧ (s.2 = O.length + 1 → out.length ≤ 22)) (fun r => ∃ M', r = some (nI (ggd (fmd R h F x f) O).length, M') ∧ rowst M' (ggd (fmd R h F x f) O) ∧ f63 M' M ∧ (ggd (fmd R h F x f) O).length ≤ 22) ?_ ?_ rv_FU 0 (rv_u M 63 0 0, 0) (Nat.zero_le _) (FU_lt (by omega)) ⟨Nat.zero_le _, Nat.zero_le _, fun q q1 q2 => mu_ne q2, 0, [], rfl, Nat.le_refl _, ⟨(by show rv_u M 63 0 0 63 0 = nI 0; rw [mu_same]; rfl), fun p hp => absurd hp (Nat.not_lt_zero _)⟩, by simp, fun _ => by simp⟩
  · rintro t m ⟨M1, p⟩ hm ⟨k1, k2, k3, x2, out, k4, k5, k6, k7, k8⟩
    have k1 : m ≤ p := k1
    have k2 : p ≤ O.length + 1 := k2
    have k3 : f63 M1 M := k3
    have k4 : up (gcs (fmd R h F x f) O) p 0 (0, []) = (x2, out) := k4
    have k5 : x2 ≤ p := k5
    have k6 : rowst M1 out := k6
    have k7 : out.length ≤ 2 * p := k7
    have k8 : p = O.length + 1 → out.length ≤ 22 := k8
    show (∃ M', f12_fixes_15_s t M1 (nI h) x (nI f) (nI c) (nI p) = some (_, M') ∧ _) ∨ ∃ a' : rv_Mem × Nat, (m + 1 ≤ a'.2 ∧ a'.2 ≤ O.length + 1 ∧ f63 a'.1 M ∧ ∃ x2 out, up (gcs (fmd R h F x f) O) a'.2 0 (0, []) = (x2, out) ∧ x2 ≤ a'.2 ∧ rowst a'.1 out ∧ out.length ≤ 2 * a'.2 ∧ (a'.2 = O.length + 1 → out.length ≤ 22)) ∧ f12_fixes_15_s t M1 (nI h) x (nI f) (nI c) (nI p) = t a'.1 (nI h) x (nI f) (nI c) (nI a'.2)
    unfold f12_fixes_15_s
    rw [s12_sizeOf hc hf4, (fO M1 k3).2.1, o1_some]
    by_cases cp : p ≤ O.length
    · right
      rw [if_pos (show nI p ≤ nI O.length by rw [q_le (by omega) (by omega)]; exact cp)]
      have eM : ∀ k, 14 ≤ k → k ≤ 40 → M1 k = R k := fun k h1 h2 => by rw [k3 k (by omega) (by omega), hM k h1 h2]
      have hfM : ∀ u, u < F → M1 37 u = nI (ff M1 u) ∧ M1 38 u = nI (fa M1 u) ∧ M1 39 u = nI (fk M1 u) ∧ ff M1 u < 4 ∧ fa M1 u + fk M1 u ≤ 10 := fun u hu => by
        unfold ff fa fk
        rw [eM 37 (by omega) (by omega), eM 38 (by omega) (by omega), eM 39 (by omega) (by omega)]
        exact hf u hu
      have hup : up (gcs (fmd R h F x f) O) (p + 1) 0 (0, []) = gcs (fmd R h F x f) O p (x2, out) := by rw [up_snoc, k4, Nat.zero_add]
      rcases s12_fixAt (R := M1) (p := p) (x := x) hfM hh hF (by rw [eM 34 (by omega) (by omega)]; exact h34) hf4 (by omega) with ⟨u, u1, u2, u3⟩ | ⟨u1, u2⟩
      · have u2 := (isFx_cong eM).mp u2
        obtain ⟨a1, a2, a3, a4, a5⟩ := hf u u1
        have hs := hsz u u1 u2.1 u2.2.1
        rw [u2.2.2] at hs
        have u40 : rv_in (nI u) 40 = true := q_inb (by omega) (by omega)
        have hmd := fmd_some hn u1 u2
        have ll : (if R 40 u = NO then [] else [R 40 u]).length ≤ 1 := by
          by_cases c : R 40 u = NO
          · rw [if_pos c]; simp
          · rw [if_neg c]; simp
        rw [u3, o1_some, q_no, if_neg (show ¬ nI u = NO by rw [q_no_eq (by omega)]; exact fun z => z), if_pos u40, q_nc (by omega), eM 39 (by omega) (by omega), a3]
        obtain ⟨M2, m1, m2, m3⟩ := push t M1 p out u (nI (fk R u)) k3 k6 u1 (by omega)
        rw [m1]
        by_cases ck : fk R u = 0
        · rw [ck] at hmd ⊢
          obtain ⟨M3, w1, w2, w3⟩ := own t M2 p _ m2 m3 cp (by rw [List.length_append]; omega)
          have e1 : gcs (fmd R h F x f) O p (x2, out) = (p, (out ++ (if R 40 u = NO then [] else [R 40 u])) ++ (if p < O.length then [O.getD p 0] else [])) := by
            unfold gcs gcs1
            rw [hmd]
            show (p + 0, (out ++ (if R 40 u = NO then [] else [R 40 u])) ++ (if p < O.length ∧ p + 0 ≤ p then [O.getD p 0] else [])) = _
            have hif : (if p < O.length ∧ p + 0 ≤ p then [O.getD p 0] else []) = (if p < O.length then [O.getD p 0] else []) := by
              by_cases c : p < O.length
              · rw [if_pos ⟨c, Nat.le_refl _⟩, if_pos c]
              · rw [if_neg (fun z => c z.1), if_neg c]
            rw [hif]; rfl
          have lo : (if p < O.length then [O.getD p 0] else []).length ≤ (if p < O.length then 1 else 0) := by
            by_cases c : p < O.length
            · rw [if_pos c, if_pos c]; simp
            · rw [if_neg c, if_neg c]; simp
          refine ⟨(M3, p + 1), ⟨by show m + 1 ≤ p + 1; omega, by show p + 1 ≤ _; omega, w2, p, _, by rw [hup, e1], by show p ≤ p + 1; omega, w3, ?_, ?_⟩, w1⟩
          · show _ ≤ 2 * (p + 1)
            rw [List.length_append, List.length_append]
            have : (if p < O.length then 1 else 0) ≤ 1 := by by_cases c : p < O.length <;> simp [c]
            omega
          · intro _
            rw [List.length_append, List.length_append]
            have : (if p < O.length then 1 else 0) ≤ 1 := by by_cases c : p < O.length <;> simp [c]
            omega
        · have e100 : f12_fixes_100 t M2 (nI h) x (nI f) (nI c) (nI p) (nI (fk R u)) = t M2 (nI h) x (nI f) (nI c) (nI (p + fk R u)) := by
            unfold f12_fixes_100 f12_fixes_127 f12_fixes_140
            have z : ¬ nI (fk R u) = 0 := by rw [q_0, q_eq (by omega) (by omega)]; exact ck
            rw [if_neg z, if_neg z, q_add]
          have e1 : gcs (fmd R h F x f) O p (x2, out) = (p + fk R u, out ++ (if R 40 u = NO then [] else [R 40 u])) := by
            unfold gcs gcs1
            rw [hmd]
            show (p + fk R u, (out ++ (if R 40 u = NO then [] else [R 40 u])) ++ (if p < O.length ∧ p + fk R u ≤ p then [O.getD p 0] else [])) = _
            have hif : (if p < O.length ∧ p + fk R u ≤ p then [O.getD p 0] else []) = [] := if_neg (by omega)
            rw [hif, List.append_nil]
          have e2 : up (gcs (fmd R h F x f) O) (p + fk R u) 0 (0, []) = (p + fk R u, out ++ (if R 40 u = NO then [] else [R 40 u])) := by
            rw [show p + fk R u = (p + 1) + (fk R u - 1) by omega, up_add, hup, e1, Nat.zero_add, show p + 1 + (fk R u - 1) = p + fk R u by omega]
            refine gcs_skip (fk R u - 1) (p + 1) (fun j h1 h2 => ⟨fmd_none (fun v hv hfx => ?_), by omega⟩)
            apply hn
            have tuv : tch R u v = true ∧ tch R v u = true := by
              unfold tch
              rw [u2.2.1, hfx.2.1, u2.2.2, hfx.2.2, decide_eq_true (show f = f from rfl), decide_eq_true (show p ≤ j + fk R v by omega), decide_eq_true (show j ≤ p + fk R u by omega)]
              exact ⟨rfl, rfl⟩
            have huv : u ≠ v := fun z => by
              subst z
              have := u2.2.2
              rw [hfx.2.2] at this; omega
            rcases Nat.lt_or_gt_of_ne huv with c | c
            · exact ⟨v, u, c, hv, hfx.1, u2.1, tuv.2⟩
            · exact ⟨u, v, c, u1, u2.1, hfx.1, tuv.1⟩
          refine ⟨(M2, p + fk R u), ⟨by show m + 1 ≤ p + fk R u; omega, by show p + fk R u ≤ _; omega, m2, _, _, e2, by show p + fk R u ≤ p + fk R u; omega, m3, ?_, ?_⟩, e100⟩
          · show _ ≤ 2 * (p + fk R u)
            rw [List.length_append]; omega
          · intro _
            rw [List.length_append]; omega
      · rw [u2, o1_some, q_no, if_pos rfl]
        have u1' : ∀ u, u < F → ¬ isFx R h x f p u := fun u hu z => u1 u hu ((isFx_cong eM).mpr z)
        have e55 : f12_fixes_55 t M1 (nI h) x (nI f) (nI c) (nI p) NO 0 = f12_fixes_100 t M1 (nI h) x (nI f) (nI c) (nI p) 0 := by
          unfold f12_fixes_55
          rw [q_no, if_neg (fun z => z rfl)]
        rw [e55]
        obtain ⟨M3, w1, w2, w3⟩ := own t M1 p out k3 k6 cp (by omega)
        have e1 : gcs (fmd R h F x f) O p (x2, out) = (x2, out ++ (if p < O.length then [O.getD p 0] else [])) := by
          unfold gcs gcs1
          rw [fmd_none u1']
          show (x2, out ++ (if p < O.length ∧ x2 ≤ p then [O.getD p 0] else [])) = _
          by_cases c : p < O.length
          · rw [if_pos ⟨c, k5⟩, if_pos c]
          · rw [if_neg (fun z => c z.1), if_neg c]
        have lo : (if p < O.length then [O.getD p 0] else []).length ≤ 1 := by
          by_cases c : p < O.length
          · rw [if_pos c]; simp
          · rw [if_neg c]; simp
        refine ⟨(M3, p + 1), ⟨by show m + 1 ≤ p + 1; omega, by show p + 1 ≤ _; omega, w2, x2, _, by rw [hup, e1], by show x2 ≤ p + 1; omega, w3, ?_, ?_⟩, w1⟩
        · show _ ≤ 2 * (p + 1)
          rw [List.length_append]; omega
        · intro _
          rw [List.length_append]; omega
    · left
      have hp : p = O.length + 1 := by omega
      subst hp
      rw [if_neg (show ¬ nI (O.length + 1) ≤ nI O.length by rw [q_le (by omega) (by omega)]; omega)]
      have eg : ggd (fmd R h F x f) O = out := by
        unfold ggd
        rw [k4]
      rw [eg]
      have k6 : rowst M1 out := k6
      exact ⟨M1, by rw [k6.1], k6, k3, k8 rfl⟩
  · rintro t ⟨M1, p⟩ ⟨k1, k2, -⟩
    have k1 : O.length + 2 ≤ p := k1
    have k2 : p ≤ O.length + 1 := k2
    omega
