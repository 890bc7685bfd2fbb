/-! areFacts: votes, people, files -/
theorem bs6 : ∀ p, p < 64 → bs (nI p) 6 = bs (nI p) 20 := by decide +kernel
section
variable {n : Nat} {gh : rC_gh} {C R A : rv_Mem}
theorem af_23 (hR : Rn n gh C R) {h k : Nat} (hh : h < gh.1 0) (k4 : R 14 h = nI k) (k1 : 1 ≤ k) (k2 : k ≤ 80) : ∀ d p fuel (two : Int32) (low yes no : Nat), p + d = 6 → d < fuel → low ≤ p → yes ≤ p → no ≤ p →
    (∀ i, i < 32 → bt two i = (decide (i < p) && decide (wI (wP n R h i 0 k) = 2))) → (low = 0 ↔ ∀ i, i < p → ¬ wI (wP n R h i 0 k) = -2) → (yes = 0 ↔ ∀ i, i < p → ¬ wI (wP n R h i 1 k) = 1) → (no = 0 ↔ ∀ i, i < p → ¬ wI (wP n R h i 1 k) = -1) →
    ∃ (two' : Int32) (low' yes' no' : Nat), low' ≤ 6 ∧ yes' ≤ 6 ∧ no' ≤ 6 ∧ (∀ i, i < 32 → bt two' i = (decide (i < 6) && decide (wI (wP n R h i 0 k) = 2))) ∧ (low' = 0 ↔ ∀ i, i < 6 → ¬ wI (wP n R h i 0 k) = -2) ∧ (yes' = 0 ↔ ∀ i, i < 6 → ¬ wI (wP n R h i 1 k) = 1) ∧ (no' = 0 ↔ ∀ i, i < 6 → ¬ wI (wP n R h i 1 k) = -1) ∧
    gp_areFacts_23 gh A fuel C (nI h) two (nI low) (nI yes) (nI no) (nI (k - 1)) (nI p) = rv_o2 (gp_now gh C A (nI h)) (fun r10 M11 => rv_o2 (gp_repo gh M11 A r10) (fun r13 M14 => gp_areFacts_151 gh A rv_FU M14 (nI h) two' (nI low') (nI yes') (nI no') r13 0 9 63))
  | d, p, 0, _, _, _, _, _, h2, _, _, _, _, _, _, _ => absurd h2 (Nat.not_lt_zero _)
  | 0, p, fuel + 1, two, low, yes, no, h1, _, l1, l2, l3, a1, a2, a3, a4 => by
    have e : p = 6 := by omega
    subst e
    refine ⟨two, low, yes, no, l1, l2, l3, a1, a2, a3, a4, ?_⟩
    show gp_areFacts_23_s gh A (gp_areFacts_23 gh A fuel) C (nI h) two (nI low) (nI yes) (nI no) (nI (k - 1)) (nI 6) = _
    unfold gp_areFacts_23_s
    rw [if_neg (by decide)]
  | d + 1, p, fuel + 1, two, low, yes, no, h1, h2, l1, l2, l3, a1, a2, a3, a4 => by
    have st := af_step (A := A) hR hh k4 k1 k2 (show p < 6 by omega) (gp_areFacts_23 gh A fuel) two (nI low) (nI yes) (nI no)
    have addb : ∀ (v : Nat) (b : Bool), nI v + rv_i b = nI (v + if b = true then 1 else 0) := fun v b => by
      cases b
      · rw [rvi_f, q_add, if_neg (by simp)]
      · rw [rvi_t, q_add, if_pos rfl]
    rw [addb, addb, addb] at st
    have nz : ∀ (f : Nat → Int32) (v : Int32) (c : Nat), (c = 0 ↔ ∀ i, i < p → ¬ f i = v) → ((c + if decide (f p = v) = true then 1 else 0) = 0 ↔ ∀ i, i < p + 1 → ¬ f i = v) := fun f v c hc => by
      by_cases q : f p = v
      · rw [if_pos (decide_eq_true q)]
        exact ⟨fun z => by omega, fun z => absurd q (z p (by omega))⟩
      · rw [if_neg (by rw [decide_eq_false q]; simp), Nat.add_zero, hc]
        refine ⟨fun z i hi => ?_, fun z i hi => z i (by omega)⟩
        by_cases e : i = p
        · rw [e]; exact q
        · exact z i (by omega)
    have le1 : ∀ (c : Nat) (b : Bool), c ≤ p → (c + if b = true then 1 else 0) ≤ p + 1 := fun c b hc => by split <;> omega
    obtain ⟨two', low', yes', no', r1, r2, r3, r4, r5, r6, r7, r8⟩ := af_23 hR hh k4 k1 k2 d (p + 1) fuel (two ||| (if wI (wP n R h p 0 k) = 2 then (1 : Int32) <<< (nI p &&& 31) else 0)) (low + if decide (wI (wP n R h p 0 k) = -2) = true then 1 else 0) (yes + if decide (wI (wP n R h p 1 k) = 1) = true then 1 else 0) (no + if decide (wI (wP n R h p 1 k) = -1) = true then 1 else 0) (by omega) (by omega) (le1 low _ l1) (le1 yes _ l2) (le1 no _ l3) (fun i hi => by
      rw [b_or, a1 i hi]
      by_cases q : wI (wP n R h p 0 k) = 2
      · rw [if_pos q, b_shl1 p (by omega) i hi]
        by_cases e : i = p
        · subst e
          rw [decide_eq_true (rfl : i = i), decide_eq_true q, decide_eq_true (show i < i + 1 by omega)]; simp
        · rw [decide_eq_false e, Bool.or_false]
          congr 1
          exact decide_eq_decide.mpr (by omega)
      · rw [if_neg q, b_0, Bool.or_false]
        by_cases e : i = p
        · subst e
          rw [decide_eq_false q, Bool.and_false, Bool.and_false]
        · congr 1
          exact decide_eq_decide.mpr (by omega)) (nz (fun i => wI (wP n R h i 0 k)) (-2) low a2) (nz (fun i => wI (wP n R h i 1 k)) 1 yes a3) (nz (fun i => wI (wP n R h i 1 k)) (-1) no a4)
    exact ⟨two', low', yes', no', r1, r2, r3, r4, r5, r6, r7, st.trans r8⟩
/-- whether people are enough for the files from f on -/
def suf (R : rv_Mem) (c b r : Nat) (x : Int32) : Nat → Bool := fun f => decide (fl R c f = fl R b f) || !decide (ownS R r f &&& x = 0)
theorem af_165 (hR : Rn n gh C R) {h c b r : Nat} (hh : h < gh.1 0) (ec : curS n R h = nI c) (hc : c < n) (eb : R 2 c = nI b) (hb : b < n) (hr : r < 2) (k151 : rv_Mem → Int32 → Int32 → Int32 → Int32 → Int32 → Int32 → Int32 → Int32 → Int32 → Option (Bool × rv_Mem)) (x3 x4 x5 x6 x10 x11 x12 : Int32) : ∀ d f fuel (w : Bool), f + d = 4 → d < fuel →
    gp_areFacts_165 gh A k151 fuel C (nI h) x3 x4 x5 x6 (nI r) x10 x11 x12 w (nI f) = gp_areFacts_216 gh A k151 rv_FU C (nI h) x3 x4 x5 x6 (nI r) x10 x11 x12 (w && ar (suf R c b r x12) f d) 0 0
  | d, f, 0, w, _, h2 => absurd h2 (Nat.not_lt_zero _)
  | 0, f, fuel + 1, w, h1, _ => by
    show gp_areFacts_165_s gh A k151 (gp_areFacts_165 gh A k151 fuel) C (nI h) x3 x4 x5 x6 (nI r) x10 x11 x12 w (nI f) = _
    unfold gp_areFacts_165_s
    rw [if_neg (by rw [q_4, q_lt (by omega) (by omega)]; omega)]
    show _ = gp_areFacts_216 gh A k151 rv_FU C (nI h) x3 x4 x5 x6 (nI r) x10 x11 x12 (w && true) 0 0
    rw [Bool.and_true]
  | d + 1, f, fuel + 1, w, h1, h2 => by
    have hn := hR.n80
    have ih := fun w => af_165 hR hh ec hc eb hb hr k151 x3 x4 x5 x6 x10 x11 x12 d (f + 1) fuel w (by omega) (by omega)
    show gp_areFacts_165_s gh A k151 (gp_areFacts_165 gh A k151 fuel) C (nI h) x3 x4 x5 x6 (nI r) x10 x11 x12 w (nI f) = gp_areFacts_216 gh A k151 rv_FU C (nI h) x3 x4 x5 x6 (nI r) x10 x11 x12 (w && (suf R c b r x12 f && ar (suf R c b r x12) (f + 1) d)) 0 0
    unfold gp_areFacts_165_s gp_areFacts_200 gp_areFacts_204 gp_areFacts_205
    rw [if_pos (by rw [q_4, q_lt (by omega) (by omega)]; omega), q_succ]
    cases w with
    | false => rw [if_neg (by simp), ih]; rfl
    | true =>
      rw [if_pos rfl, ak_owners hR hr (by omega), x1k]
      unfold suf
      rw [Int32.and_comm (ownS R r f) x12]
      by_cases q : x12 &&& ownS R r f = 0
      · rw [if_pos q, ak_changed hR hh (by omega) ec hc eb hb, o2_some, decide_eq_true q]
        cases decide (fl R c f = fl R b f)
        · rw [if_neg (by simp), ih]; rfl
        · rw [if_pos (show (!true) = false from rfl), ih]; rfl
      · rw [if_neg q, ih, decide_eq_false q]
        cases decide (fl R c f = fl R b f) <;> rfl
theorem af_216 (k151 : rv_Mem → Int32 → Int32 → Int32 → Int32 → Int32 → Int32 → Int32 → Int32 → Int32 → Option (Bool × rv_Mem)) (x2 x3 x4 x5 x6 x8 x10 : Int32) (w : Bool) {P ls : Nat} (hP : P < 64) (hl : ls ≤ 9) : ∀ d q fuel, q + d = 6 → d < fuel →
    gp_areFacts_216 gh A k151 fuel C x2 x3 x4 x5 x6 x8 x10 (nI ls) (nI P) w (nI (bs (nI P) q)) (nI q) = if w = true ∧ bs (nI P) 20 ≤ ls then k151 C x2 x3 x4 x5 x6 x8 (nI P) (nI (bs (nI P) 20)) (nI P + (-1)) else k151 C x2 x3 x4 x5 x6 x8 x10 (nI ls) (nI P + (-1))
  | d, q, 0, _, h2 => absurd h2 (Nat.not_lt_zero _)
  | 0, q, fuel + 1, h1, _ => by
    have e : q = 6 := by omega
    subst e
    have hb := bs_le (nI P) 20
    show gp_areFacts_216_s gh A k151 (gp_areFacts_216 gh A k151 fuel) C x2 x3 x4 x5 x6 x8 x10 (nI ls) (nI P) w (nI (bs (nI P) 6)) (nI 6) = _
    unfold gp_areFacts_216_s gp_areFacts_258 gp_areFacts_260 gp_areFacts_279 gp_areFacts_281
    rw [if_neg (by decide), bs6 P hP]
    cases w with
    | false => rw [if_neg (by simp), if_neg (by simp), if_neg (fun z => by simp at z)]
    | true =>
      rw [if_pos rfl]
      by_cases q : bs (nI P) 20 ≤ ls
      · rw [if_pos (by rw [q_le (by omega) (by omega)]; exact q), if_pos rfl, if_pos (show true = true ∧ bs (nI P) 20 ≤ ls from ⟨rfl, q⟩)]
        by_cases q2 : bs (nI P) 20 < ls
        · rw [if_pos (by rw [q_lt (by omega) (by omega)]; exact q2)]
        · rw [if_neg (by rw [q_lt (by omega) (by omega)]; exact q2), show ls = bs (nI P) 20 by omega]
      · rw [if_neg (by rw [q_le (by omega) (by omega)]; exact q), if_pos rfl, if_neg (show ¬ nI (bs (nI P) 20) < nI ls by rw [q_lt (by omega) (by omega)]; omega), if_neg (show ¬ (true = true ∧ bs (nI P) 20 ≤ ls) from fun z => q z.2)]
  | d + 1, q, fuel + 1, h1, h2 => by
    show gp_areFacts_216_s gh A k151 (gp_areFacts_216 gh A k151 fuel) C x2 x3 x4 x5 x6 x8 x10 (nI ls) (nI P) w (nI (bs (nI P) q)) (nI q) = _
    unfold gp_areFacts_216_s
    rw [if_pos (by rw [q_6, q_lt (by omega) (by omega)]; omega), b_and1 (by omega), q_add, q_succ]
    exact af_216 k151 x2 x3 x4 x5 x6 x8 x10 w hP hl d (q + 1) fuel (by omega) (by omega)
/-- the fewest people -/
theorem af_151 (hR : Rn n gh C R) {h c b r : Nat} (hh : h < gh.1 0) (ec : curS n R h = nI c) (hc : c < n) (eb : R 2 c = nI b) (hb : b < n) (hr : r < 2) (hr1 : R 1 c = nI r) (x3 x4 x5 x6 : Int32) : ∀ P fuel (t : Option Nat) (fw : Int32) (ls : Nat), P ≤ 64 → P < fuel → dnI 64 P (fun k => okS n R h (nI k)) t → (t = none ∧ ls = 9 ∨ ∃ m, m < 64 ∧ t = some m ∧ fw = nI m ∧ ls = bs (nI m) 20) →
    ∃ t' fw', dnI 64 0 (fun k => okS n R h (nI k)) t' ∧ (t' = none ∨ ∃ m, t' = some m ∧ fw' = nI m) ∧ gp_areFacts_151 gh A fuel C (nI h) x3 x4 x5 x6 (nI r) fw (nI ls) (dn P) = gp_areFacts_292 gh A rv_FU C (nI h) x3 x4 x5 x6 (nI r) true fw' 0
  | P, 0, _, _, _, _, h2, _, _ => absurd h2 (Nat.not_lt_zero _)
  | 0, fuel + 1, t, fw, ls, _, _, hd, ht => by
    refine ⟨t, fw, hd, ?_, ?_⟩
    · rcases ht with ⟨e, -⟩ | ⟨m, -, e, e2, -⟩
      · exact Or.inl e
      · exact Or.inr ⟨m, e, e2⟩
    · show gp_areFacts_151_s gh A (gp_areFacts_151 gh A fuel) C (nI h) x3 x4 x5 x6 (nI r) fw (nI ls) NO = _
      unfold gp_areFacts_151_s
      rw [if_neg (by rw [q_0, q_le_no (by omega)]; exact id)]
  | P + 1, fuel + 1, t, fw, ls, h64, h2, hd, ht => by
    have hn := hR.n80
    have hls : ls ≤ 9 := by
      rcases ht with ⟨-, e⟩ | ⟨m, hm, -, -, e⟩
      · omega
      · rw [e, ← bs6 m hm]; have := bs_le (nI m) 6; omega
    have edn : dn (P + 1) = nI P := by unfold dn; rw [if_neg (by omega)]; rfl
    have edn2 : nI P + (-1) = dn P := dn_m1 P
    have eok : okS n R h (nI P) = ar (suf R c b r (nI P)) 0 4 := by
      unfold okS suf
      rw [ec, q_nc (by omega), eb, q_nc (by omega), hr1, q_nc (by omega)]
    have L1 := af_165 (A := A) hR hh ec hc eb hb hr (gp_areFacts_151 gh A fuel) x3 x4 x5 x6 fw (nI ls) (nI P) 4 0 rv_FU true rfl (FU_lt (by omega))
    have L2 := af_216 (gh := gh) (A := A) (C := C) (gp_areFacts_151 gh A fuel) (nI h) x3 x4 x5 x6 (nI r) fw (ar (suf R c b r (nI P)) 0 4) (show P < 64 by omega) hls 6 0 rv_FU rfl (FU_lt (by omega))
    have e0 : gp_areFacts_151 gh A (fuel + 1) C (nI h) x3 x4 x5 x6 (nI r) fw (nI ls) (dn (P + 1)) = if okS n R h (nI P) = true ∧ bs (nI P) 20 ≤ ls then gp_areFacts_151 gh A fuel C (nI h) x3 x4 x5 x6 (nI r) (nI P) (nI (bs (nI P) 20)) (dn P) else gp_areFacts_151 gh A fuel C (nI h) x3 x4 x5 x6 (nI r) fw (nI ls) (dn P) := by
      rw [edn, eok, ← edn2]
      show gp_areFacts_151_s gh A (gp_areFacts_151 gh A fuel) C (nI h) x3 x4 x5 x6 (nI r) fw (nI ls) (nI P) = _
      unfold gp_areFacts_151_s
      rw [if_pos (by rw [q_0, q_le (by omega) (by omega)]; omega)]
      exact L1.trans L2
    rw [e0]
    have hst := dnI_step (ok := fun k => okS n R h (nI k)) (show P < 64 by omega) hd
    by_cases q : okS n R h (nI P) = true ∧ bs (nI P) 20 ≤ ls
    · rw [if_pos q]
      refine af_151 hR hh ec hc eb hb hr hr1 x3 x4 x5 x6 P fuel (some P) (nI P) _ (by omega) (by omega) ?_ (Or.inr ⟨P, by omega, rfl, rfl, rfl⟩)
      rcases ht with ⟨e, -⟩ | ⟨m, hm, e, -, e3⟩
      · rw [e] at hst
        unfold dnM at hst
        simp only [q.1, if_true] at hst
        exact hst
      · rw [e] at hst
        unfold dnM at hst
        have q2 : okS n R h (nI P) = true ∧ bs (nI P) 20 ≤ bs (nI m) 20 := ⟨q.1, by rw [← e3]; exact q.2⟩
        simp only [q2, and_self, if_true] at hst
        exact hst
    · rw [if_neg q]
      refine af_151 hR hh ec hc eb hb hr hr1 x3 x4 x5 x6 P fuel t fw ls (by omega) (by omega) ?_ ht
      rcases ht with ⟨e, e2⟩ | ⟨m, hm, e, -, e3⟩
      · rw [e] at hst ⊢
        unfold dnM at hst
        have q2 : ¬ okS n R h (nI P) = true := fun z => q ⟨z, by rw [e2, ← bs6 P (by omega)]; have := bs_le (nI P) 6; omega⟩
        simp only [q2, if_false] at hst
        exact hst
      · rw [e] at hst ⊢
        unfold dnM at hst
        have q2 : ¬ (okS n R h (nI P) = true ∧ bs (nI P) 20 ≤ bs (nI m) 20) := by rw [← e3]; exact q
        simp only [q2, if_false] at hst
        exact hst
end
