/-! LANDING: merging in the middle -/
theorem Rn.mergeG {n : Nat} {gh : rC_gh} {C R M S : rv_Mem} (hR : Rn n gh C R) (e14 : M 14 = C 14) (e15 : M 15 = C 15) (e3 : S 3 = R 3) (e4 : S 4 = R 4) (h64 : rv_z (S 64 0) = false) {c0 c1 c2 : Nat} (h0 : c0 < n) (h1 : c1 < n) (h2 : c2 < n) : ∃ ok M' S', f2_mergeRows gh M (nI c0) (nI c1) (nI c2) = some (ok, M') ∧ f12_merges S (nI c0) (nI c1) (nI c2) = some (ok, S') ∧ m8 M' M ∧ m9 S' S ∧ (ok = true → rowOK 81 81 M' S') := by
  have hn := hR.n80
  have fl1 : ∀ c, c < n → ∀ f, f < 4 → fileC M c f (fl R c f) ∧ fileR S c f (fl R c f) ∧ ∀ p, p < (fl R c f).length → ∃ v, v < 400 ∧ (fl R c f).getD p 0 = nI v := fun c hc f hf => by
    obtain ⟨x1, x2, x3⟩ := fil_files hR.fil (Or.inl hc) hf
    exact ⟨fileC_of e15 e14 x1, fileR_of e3 e4 x2, x3⟩
  obtain ⟨ok, C', a1, a2, a3, a4⟩ := s2_mergeRows (gh := gh) (C := M) (c0 := c0) (c1 := c1) (c2 := c2) (O := fl R c0) (A := fl R c1) (B := fl R c2) (by omega) (by omega) (by omega) (fun f hf => (fl1 c0 h0 f hf).1) (fun f hf => (fl1 c1 h1 f hf).1) (fun f hf => (fl1 c2 h2 f hf).1)
  obtain ⟨ok', R', b1, b2, b3, b4⟩ := s12_merges (R := S) (c0 := c0) (c1 := c1) (c2 := c2) (O := fl R c0) (A := fl R c1) (B := fl R c2) h64 (by omega) (by omega) (by omega) (fun f hf => (fl1 c0 h0 f hf).2.1) (fun f hf => (fl1 c1 h1 f hf).2.1) (fun f hf => (fl1 c2 h2 f hf).2.1)
  have e : ok' = ok := by
    cases ok with
    | true => exact b3.mpr (a3.mp rfl)
    | false =>
      cases ok' with
      | false => rfl
      | true => have := a3.mpr (b3.mp rfl); cases this
  subst e
  refine ⟨ok', C', R', a1, b1, a2, b2, fun z f hf => ?_⟩
  obtain ⟨x1, x2, x3⟩ := a4 z f hf
  obtain ⟨y1, y2, y3⟩ := b4 z f hf
  have pv : ∀ c, c < n → ∀ x, x ∈ fl R c f → ∃ v, v < 400 ∧ x = nI v := fun c hc x hx => by
    obtain ⟨p, hp, e⟩ := List.mem_iff_getElem.mp hx
    obtain ⟨v, v1, v2⟩ := (fl1 c hc f hf).2.2 p hp
    rw [List.getD_eq_getElem?_getD, List.getElem?_eq_getElem hp] at v2
    exact ⟨v, v1, by rw [← e]; exact v2⟩
  refine ⟨(mgd (fl R c0 f) (fl R c1 f) (fl R c2 f)).length, x1, x2, y2, fun p hp => ?_⟩
  obtain ⟨v, v1, v2⟩ := mgd_all (P := fun x => ∃ v, v < 400 ∧ x = nI v) (pv c0 h0) (pv c1 h1) (pv c2 h2) _ (List.getElem_mem hp)
  have e : (mgd (fl R c0 f) (fl R c1 f) (fl R c2 f)).getD p 0 = nI v := by
    rw [List.getD_eq_getElem?_getD, List.getElem?_eq_getElem hp]; exact v2
  exact ⟨v, v1, by rw [x3 p hp, e], by rw [y3 p hp, e]⟩
/-- one merge on both sides, up to the new tip -/
theorem Rn.landMerge {n : Nat} {gh : rC_gh} {C R M S : rv_Mem} (hR : Rn n gh C R) (hC : ∀ q, q = 1 ∨ (14 ≤ q ∧ q ≤ 19) → M q = C q) (hS : ∀ q, q ≤ 5 ∨ q = 8 → S q = R q) (h64 : rv_z (S 64 0) = false) {c0 c1 t r : Nat} (h0 : c0 < n) (h1 : c1 < n) (h2 : t < n) (hr : r < 2) (hrt : R 1 t = nI r) :
    (∃ M' S', (rv_o1 (f9_isFull gh M) (fun r17 => (if r17 = false then rv_o2 (f2_mergeRows gh M (nI c0) (nI c1) (nI t)) (fun r21 M22 => (if r21 = false then (some (false, M22)) else rv_o2 (f9_addCommit gh M22 81 (nI r) (nI t)) (fun r24 M25 => rv_o1 (f9_write gh M25 22 (nI r) r24) (fun M27 => some (true, M27))))) else (some (false, M)))) : Option (Bool × rv_Mem)) = some (false, M') ∧ f12_landsOne_161 S (nI r) (nI t) (nI c1) (nI c0) = some (-2, S') ∧ m8 M' M ∧ m9 S' S) ∨
    ∃ M1 S1, (rv_o1 (f9_isFull gh M) (fun r17 => (if r17 = false then rv_o2 (f2_mergeRows gh M (nI c0) (nI c1) (nI t)) (fun r21 M22 => (if r21 = false then (some (false, M22)) else rv_o2 (f9_addCommit gh M22 81 (nI r) (nI t)) (fun r24 M25 => rv_o1 (f9_write gh M25 22 (nI r) r24) (fun M27 => some (true, M27))))) else (some (false, M)))) : Option (Bool × rv_Mem)) = some (true, rv_u M1 22 r (nI n)) ∧ f12_landsOne_161 S (nI r) (nI t) (nI c1) (nI c0) = some (nI n, rv_u S1 9 r (nI n)) ∧ n < 80 ∧ (∀ k, k ≠ 1 → k ≠ 7 → k ≠ 8 → ¬ (14 ≤ k ∧ k ≤ 19) → (k < 24 ∨ 40 < k) → M1 k = M k) ∧ (∀ k, k = 6 ∨ k = 7 ∨ (9 ≤ k ∧ k < 53) ∨ 63 < k → S1 k = S k) ∧ (∀ C' R' : rv_Mem, (∀ k, k = 1 ∨ (14 ≤ k ∧ k ≤ 19) → C' k = M1 k) → (∀ k, k ≠ 1 → k ≠ 7 → k ≠ 8 → ¬ (14 ≤ k ∧ k ≤ 19) → (k < 24 ∨ 40 < k) → C' k = C k) → (∀ k, k ≤ 5 ∨ k = 8 → R' k = S1 k) → (∀ k, k = 6 ∨ k = 7 ∨ (9 ≤ k ∧ k ≤ 52) → R' k = R k) → rv_z (R' 64 0) = false → Rn (n + 1) gh C' R' ∧ ∀ x, x < gh.1 0 → parS (n + 1) R' x = parS n R x) ∧ S1 5 n = NO ∧ S1 1 n = nI r ∧ (∀ q c, q = 1 ∨ q = 2 ∨ q = 5 ∨ q = 8 → c ≠ n → S1 q c = S q c) ∧ (∀ k, 16 ≤ k → k ≤ 19 → ∀ c, c ≠ n → M1 k c = M k c) ∧ (∀ c, c < n ∨ c = 80 → ∀ f, f < 4 → M1 15 (4 * c + f) = C 15 (4 * c + f) ∧ S1 3 (4 * c + f) = R 3 (4 * c + f) ∧ ∀ p, p < 10 → M1 14 (10 * (4 * c + f) + p) = C 14 (10 * (4 * c + f) + p) ∧ S1 4 (10 * (4 * c + f) + p) = R 4 (10 * (4 * c + f) + p)) := by
  have hn := hR.n80
  have r2 : rv_in (nI r) 2 = true := q_inb hr (by omega)
  have hm : M 1 10 = nI n := by rw [hC 1 (by omega)]; exact hR.cnt.2.1
  have hs : S 0 0 = nI n := by rw [hS 0 (by omega)]; exact hR.cnt.2.2.1
  by_cases cf : n = 80
  · left
    refine ⟨M, S, ?_, ?_, ⟨fun _ _ _ _ _ _ => rfl, fun _ _ => rfl, fun _ _ => rfl⟩, ⟨fun _ _ _ _ => rfl, fun _ _ => rfl, fun _ _ => rfl⟩⟩
    · have : f9_isFull gh M = some true := by unfold f9_isFull; rw [hm, cf]; rfl
      rw [this, o1_some, if_neg (by simp)]
    · unfold f12_landsOne_161
      rw [hs, cf, if_neg (show ¬ ¬ nI 80 = 80 from fun z => z rfl)]
  · have full : f9_isFull gh M = some false := by
      unfold f9_isFull
      rw [hm, q_80, if_neg (by rw [q_le (by omega) (by omega)]; omega)]
    have n80 : ¬ nI n = 80 := by rw [q_80, q_eq (by omega) (by omega)]; exact cf
    obtain ⟨ok, M', S', m1, m2, m3, m4, m5⟩ := hR.mergeG (M := M) (S := S) (hC 14 (by omega)) (hC 15 (by omega)) (hS 3 (by omega)) (hS 4 (by omega)) h64 h0 h1 h2
    rw [full, o1_some, if_pos rfl, m1, o2_some]
    have e161 : f12_landsOne_161 S (nI r) (nI t) (nI c1) (nI c0) = (if ok = false then (some ((-2), S')) else rv_o2 (f12_makes S' (nI r) (nI t)) (fun r5 M6 => if rv_in (nI r) 2 = true then rv_lt (rv_u M6 9 ((nI r)).toNatClampNeg r5) (fun M7 => if rv_in (nI r) 2 = true then (some ((M7 9 ((nI r)).toNatClampNeg), M7)) else none) else none)) := by
      unfold f12_landsOne_161
      rw [hs, if_pos n80, m2, o2_some]
    rw [e161]
    cases ok with
    | false =>
      left
      rw [if_pos rfl, if_pos rfl]
      exact ⟨M', S', rfl, rfl, m3, m4⟩
    | true =>
      right
      have hR2 : Rn n gh (fun k => if k = 1 ∨ (14 ≤ k ∧ k ≤ 19) then M' k else C k) (fun k => if k ≤ 5 ∨ k = 8 then S' k else R k) := by
        refine Rn_81 hR ⟨fun k a b c d e => ?_, fun i hi => ?_, fun i hi => ?_⟩ ⟨fun q a b c => ?_, fun i hi => ?_, fun i hi => ?_⟩
        · show (if k = 1 ∨ (14 ≤ k ∧ k ≤ 19) then M' k else C k) = C k
          by_cases z : k = 1 ∨ (14 ≤ k ∧ k ≤ 19)
          · rw [if_pos z, m3.1 k a b c d e, hC k z]
          · rw [if_neg z]
        · show M' 15 i = C 15 i
          rw [m3.2.1 i hi, hC 15 (by omega)]
        · show M' 14 i = C 14 i
          rw [m3.2.2 i hi, hC 14 (by omega)]
        · show (if q ≤ 5 ∨ q = 8 then S' q else R q) = R q
          by_cases z : q ≤ 5 ∨ q = 8
          · rw [if_pos z, m4.1 q a b c, hS q z]
          · rw [if_neg z]
        · show S' 3 i = R 3 i
          rw [m4.2.1 i hi, hS 3 (by omega)]
        · show S' 4 i = R 4 i
          rw [m4.2.2 i hi, hS 4 (by omega)]
      obtain ⟨M1, S1, y1, y2, y3, y4, y5, y6, y7, y8, y9, y10⟩ := Rn_makeG (gh0 := gh) (C0 := M') (R0 := S') (s := 81) (b := t) (r := r) hR2 (by omega) (by omega) (by omega) h2 hr (by
        show (if 1 ≤ 5 ∨ 1 = 8 then S' 1 else R 1) t = nI r
        rw [if_pos (by omega), m4.1 1 (by omega) (by omega) (by omega), hS 1 (by omega)]; exact hrt) (fun k hk => (if_pos hk).symm) (fun k hk => by
          show S' k = (if k ≤ 5 ∨ k = 8 then S' k else R k)
          rw [if_pos (by omega)]) (fun i _ => rfl) (fun i _ => rfl) (m5 rfl)
      refine ⟨M1, S1, ?_, ?_, by omega, fun k a b c d e => by rw [y2 k a d, m3.1 k b c (by omega) (by omega) e], fun k hk => by rw [y4 k (by omega), m4.1 k (by omega) (by omega) (by omega)], fun C' R' z1 z2 z3 z4 z5 => ?_, y6, y7, fun q c hq hc => by rw [y8 q c hq hc, m4.1 q (by omega) (by omega) (by omega)], fun k h16 h19 c hc => ?_, fun c hc f hf => ?_⟩
      · rw [if_neg (by simp), show (81 : Int32) = nI 81 from rfl, y1, o2_some, s9_write (L := 2) hr rfl rfl (by omega), o1_some]
      · rw [if_neg (by simp), y3, o2_some, if_pos r2, q_nc (by omega), lt_do, if_pos r2, mu_same]
      · have mixR2 : ∀ k, k = 2 ∨ k = 5 → (if k ≤ 5 ∨ k = 8 then S' k else R k) = R k := fun k hk => by
          rw [if_pos (by omega), m4.1 k (by omega) (by omega) (by omega), hS k (by omega)]
        obtain ⟨w1, w2⟩ := y5 (fun k => if k = 7 ∨ k = 8 ∨ (24 ≤ k ∧ k ≤ 40) then C k else C' k) R' (fun k hk => by
          show (if k = 7 ∨ k = 8 ∨ (24 ≤ k ∧ k ≤ 40) then C k else C' k) = _
          rw [if_neg (by omega)]; exact z1 k hk) (fun k h1 h2 => by
          show (if k = 7 ∨ k = 8 ∨ (24 ≤ k ∧ k ≤ 40) then C k else C' k) = (if k = 1 ∨ (14 ≤ k ∧ k ≤ 19) then M' k else C k)
          rw [if_neg (show ¬ (k = 1 ∨ (14 ≤ k ∧ k ≤ 19)) by omega)]
          by_cases c : k = 7 ∨ k = 8 ∨ (24 ≤ k ∧ k ≤ 40)
          · rw [if_pos c]
          · rw [if_neg c]; exact z2 k h1 (by omega) (by omega) h2 (by omega)) z3 (fun k hk => by
          show R' k = (if k ≤ 5 ∨ k = 8 then S' k else R k)
          rw [if_neg (by omega)]; exact z4 k hk) z5
        refine ⟨Rn_cmp w1 (fun k a b c => by
          show C' k = (if k = 7 ∨ k = 8 ∨ (24 ≤ k ∧ k ≤ 40) then C k else C' k)
          rw [if_neg (by omega)]), fun x hx => ?_⟩
        rw [w2 x hx]
        unfold parS curS
        show (if 5 ≤ 5 ∨ 5 = 8 then S' 5 else R 5) ((if 2 ≤ 5 ∨ 2 = 8 then S' 2 else R 2) (mAt n (if 5 ≤ 5 ∨ 5 = 8 then S' 5 else R 5) (if 6 ≤ 5 ∨ 6 = 8 then S' 6 else R 6) (nI x) ((if 14 ≤ 5 ∨ 14 = 8 then S' 14 else R 14) x - 1)).toNatClampNeg).toNatClampNeg = _
        rw [mixR2 5 (by omega), mixR2 2 (by omega), if_neg (show ¬ (6 ≤ 5 ∨ 6 = 8) by omega), if_neg (show ¬ (14 ≤ 5 ∨ 14 = 8) by omega)]
      · rw [y9 k h16 h19 c hc, m3.1 k (by omega) (by omega) (by omega) (by omega) (by omega)]
      · obtain ⟨u1, u2, u3⟩ := y10 c hc f hf
        have v1 : M1 15 (4 * c + f) = M' 15 (4 * c + f) := u1
        have v2 : S1 3 (4 * c + f) = S' 3 (4 * c + f) := u2
        refine ⟨by rw [v1, m3.2.1 _ (by omega), hC 15 (by omega)], by rw [v2, m4.2.1 _ (by omega), hS 3 (by omega)], fun p hp => ?_⟩
        have v3 : M1 14 (10 * (4 * c + f) + p) = M' 14 (10 * (4 * c + f) + p) := (u3 p hp).1
        have v4 : S1 4 (10 * (4 * c + f) + p) = S' 4 (10 * (4 * c + f) + p) := (u3 p hp).2
        exact ⟨by rw [v3, m3.2.2 _ (by omega), hC 14 (by omega)], by rw [v4, m4.2.2 _ (by omega), hS 4 (by omega)]⟩
