/-! takeFixes, its parts -/
theorem ggd_all {md : Nat → Option (Nat × List Int32)} {O : List Int32} {P : Int32 → Prop} (hO : ∀ x, x ∈ O → P x) (hm : ∀ k y, md k = some y → ∀ x, x ∈ y.2 → P x) : ∀ x, x ∈ ggd md O → P x := by
  have key := up_inv (g := gcs md O) (fun _ s => ∀ x, x ∈ s.2 → P x) (O.length + 1) 0 (0, []) (fun x hx => by cases hx) (fun j s _ _ hs x hx => by
    have h1 : ∀ x, x ∈ (gcs1 md j s).2 → P x := by
      unfold gcs1
      cases h : md j with
      | some y =>
        intro x hx
        rcases List.mem_append.mp hx with h' | h'
        · exact hs x h'
        · exact hm j y h x h'
      | none => exact hs
    unfold gcs at hx
    rcases List.mem_append.mp hx with h | h
    · exact h1 x h
    · by_cases c : j < O.length ∧ (gcs1 md j s).1 ≤ j
      · rw [if_pos c, List.mem_singleton] at h
        rw [h, List.getD_eq_getElem?_getD, List.getElem?_eq_getElem c.1]
        exact hO _ (List.getElem_mem c.1)
      · rw [if_neg c] at h; cases h)
  exact key
def m81 (M C : rv_Mem) : Prop := (∀ q, q ≠ 14 → q ≠ 15 → M q = C q) ∧ (∀ i, i < 324 → M 15 i = C 15 i) ∧ ∀ i, i < 3240 → M 14 i = C 14 i
theorem s11_take47 {n : Nat} {gh : rC_gh} {C R : rv_Mem} (hR : Rn n gh C R) {h c : Nat} {x : Int32} {L : Int64} (hc : c < n) (hL : ∀ u, u < 40 → (bl L u = true ↔ u < gh.1 2 ∧ chs R h x u = true)) (hn : ¬ someT R h (gh.1 2) x) :
    (∃ M, f11_takeFixes_47 gh rv_FU C x (nI c) L 0 = some (.inr (3, M)) ∧ m81 M C ∧ ¬ ∀ f, f < 4 → (ggd (fmd R h (gh.1 2) x f) (fl R c f)).length ≤ 10) ∨ (∃ M, f11_takeFixes_47 gh rv_FU C x (nI c) L 0 = rv_o1 (f9_copyFiles gh M 81 80) (fun M5 => rv_o1 (f9_baseOf gh M5 (nI c)) (fun r7 => rv_o2 (f11_moveDesk gh M5 r7) (fun r9 M10 => rv_o1 (fJ_bits x) (fun r12 => (some (.inl (r12, M10))))))) ∧ m81 M C ∧ (∀ f, f < 4 → (ggd (fmd R h (gh.1 2) x f) (fl R c f)).length ≤ 10) ∧ ∀ f, f < 4 → fileC M 81 f (ggd (fmd R h (gh.1 2) x f) (fl R c f))) := by
  have hn80 := hR.n80
  have fC : ∀ M, m81 M C → ∀ f, f < 4 → fileC M c f (fl R c f) := fun M hM f hf => by
    obtain ⟨x1, x2, x3⟩ := (fil_files hR.fil (Or.inl hc) hf).1
    exact ⟨x1, by rw [hM.2.1 _ (by omega)]; exact x2, fun p hp => by rw [hM.2.2 _ (by omega)]; exact x3 p hp⟩
  refine rv_ux (z := (fun _ _ _ _ _ => none)) (F := f11_takeFixes_47_s gh) (fun t f M => t M x (nI c) L (nI f)) 4 (fun f M => m81 M C ∧ ∀ g, g < f → (ggd (fmd R h (gh.1 2) x g) (fl R c g)).length ≤ 10 ∧ fileC M 81 g (ggd (fmd R h (gh.1 2) x g) (fl R c g))) (fun r => (∃ M, r = some (.inr (3, M)) ∧ m81 M C ∧ ¬ ∀ f, f < 4 → (ggd (fmd R h (gh.1 2) x f) (fl R c f)).length ≤ 10) ∨ (∃ M, r = rv_o1 (f9_copyFiles gh M 81 80) (fun M5 => rv_o1 (f9_baseOf gh M5 (nI c)) (fun r7 => rv_o2 (f11_moveDesk gh M5 r7) (fun r9 M10 => rv_o1 (fJ_bits x) (fun r12 => (some (.inl (r12, M10))))))) ∧ m81 M C ∧ (∀ f, f < 4 → (ggd (fmd R h (gh.1 2) x f) (fl R c f)).length ≤ 10) ∧ ∀ f, f < 4 → fileC M 81 f (ggd (fmd R h (gh.1 2) x f) (fl R c f)))) ?_ ?_ rv_FU 0 C (Nat.zero_le _) (FU_lt (by omega)) ⟨⟨fun _ _ _ => rfl, fun _ _ => rfl, fun _ _ => rfl⟩, fun g hg => absurd hg (Nat.not_lt_zero _)⟩
  · rintro t f M hf ⟨i1, i2⟩
    obtain ⟨ok, M1, m1, m2, m3, m4⟩ := s11_fixedFile (M0 := M) hR (fun k hk => i1.1 k (by omega) (by omega)) hf (show c < 81 by omega) (fC M i1 f hf) hL hn
    have k1 : m81 M1 C := ⟨fun q a b => by rw [m2.1 q a b, i1.1 q a b], fun i hi => by rw [m2.2.1 i (by omega)]; exact i1.2.1 i hi, fun i hi => by rw [m2.2.2 i (by omega)]; exact i1.2.2 i hi⟩
    have e0 : f11_takeFixes_47_s gh t M x (nI c) L (nI f) = if ok = false then some (.inr (3, M1)) else t M1 x (nI c) L (nI (f + 1)) := by
      unfold f11_takeFixes_47_s
      rw [q_4, if_pos (by rw [q_lt (by omega) (by omega)]; exact hf), m1, o2_some, q_succ]
    cases ok with
    | false =>
      left; left
      exact ⟨M1, by rw [e0, if_pos rfl], k1, fun z => by have := m3.mpr (z f hf); cases this⟩
    | true =>
      right
      refine ⟨M1, ⟨k1, fun g hg => ?_⟩, by rw [e0, if_neg (by simp)]⟩
      by_cases e : g = f
      · subst e; exact ⟨m3.mp rfl, m4 rfl⟩
      · obtain ⟨g1, g2, g3, g4⟩ := i2 g (by omega)
        refine ⟨g1, g2, ?_, fun p hp => ?_⟩
        · rw [m2.2.1 _ (by omega)]; exact g3
        · rw [m2.2.2 _ (by omega)]; exact g4 p hp
  · rintro t M ⟨i1, i2⟩
    right
    refine ⟨M, ?_, i1, fun f hf => (i2 f hf).1, fun f hf => (i2 f hf).2⟩
    show f11_takeFixes_47_s gh t M x (nI c) L (nI 4) = _
    unfold f11_takeFixes_47_s
    rw [if_neg (by decide)]
/-- the reference's fixes, wherever rows from 80 on, and scratch, were written -/
def m80 (M R : rv_Mem) : Prop := (∀ q, q ≠ 3 → q ≠ 4 → q ≠ 62 → q ≠ 63 → M q = R q) ∧ (∀ i, i < 320 → M 3 i = R 3 i) ∧ ∀ i, i < 3200 → M 4 i = R 4 i
theorem Rn.fixes {n : Nat} {gh : rC_gh} {C R M : rv_Mem} (hR : Rn n gh C R) (hM : m80 M R) {h c k : Nat} {x : Int32} (hc : c < n) (hk : 1 ≤ k) (hk2 : k ≤ 80) (hh : h < gh.1 0) (h14 : R 14 h = nI k) (h5 : R 5 c = nI h) (h6 : R 6 c = nI (k - 1)) (hcur : curS n R h = nI c) (hn : ¬ someT R h (gh.1 2) x) {f : Nat} (hf : f < 4) :
    ∃ M', f12_fixes M (nI h) x (nI f) = some (nI (ggd (fmd R h (gh.1 2) x f) (fl R c f)).length, M') ∧ rowst M' (ggd (fmd R h (gh.1 2) x f) (fl R c f)) ∧ f63 M' M ∧ (ggd (fmd R h (gh.1 2) x f) (fl R c f)).length ≤ 22 := by
  have hn80 := hR.n80
  have hc20 := hR.ch20
  have e14 : R 14 h - 1 = nI (k - 1) := by rw [h14, q_1, q_sub hk]
  have hfile : fileR M c f (fl R c f) := by
    obtain ⟨x1, x2, x3⟩ := (fil_files hR.fil (Or.inl hc) hf).2.1
    exact ⟨x1, by rw [hM.2.1 _ (by omega)]; exact x2, fun p hp => by rw [hM.2.2 _ (by omega)]; exact x3 p hp⟩
  have hcu : f12_current M (nI h) = some (nI c) := by
    unfold f12_current
    rw [if_pos (q_inb (show h < 20 by omega) (by omega)), q_nc (by omega), hM.1 14 (by omega) (by omega) (by omega) (by omega), e14, s12_commitAt (by rw [hM.1 0 (by omega) (by omega) (by omega) (by omega)]; exact hR.cnt.2.2.1) hn80, hM.1 5 (by omega) (by omega) (by omega) (by omega), hM.1 6 (by omega) (by omega) (by omega) (by omega)]
    unfold curS at hcur
    rw [e14] at hcur
    rw [hcur, o1_some]
  refine s12_fixes (R := R) (c := c) (fun k h1 h2 => hM.1 k (by omega) (by omega) (by omega) (by omega)) (by rw [hM.1 64 (by omega) (by omega) (by omega) (by omega)]; exact hR.h64) (fun u hu => ?_) (by omega) hR.cnt.2.2.2.2.2.2.2.1 hR.cnt.2.2.2.2.2.2.2.2.1 hf (by omega) hfile hcu (fun u hu hcs hff => ?_) hn
  · obtain ⟨a1, a2, a3, a4, a5, a6, a7, a8, a9, a10⟩ := hR.fnd1 hu
    exact ⟨a1, a2, a3, a8, a9⟩
  · have hv : visq R h u = true := by
      unfold chs at hcs
      rw [Bool.and_eq_true] at hcs; exact hcs.1
    obtain ⟨q, s, f', a, k', d1, d2, d3, d4, d5, d6, d7, d8, d9, d10, d11, d12, d13, d14, d15, d16, d17⟩ := hR.fnd u hu
    have hv2 := hv
    unfold visq at hv2
    rw [Bool.and_eq_true, decide_eq_true_iff, decide_eq_true_iff, e14] at hv2
    obtain ⟨y1, y2⟩ := hv2
    rw [← d5, y1, ← d7, y2] at d15
    unfold curS at hcur
    rw [e14] at hcur
    rw [hcur, q_nc (by omega)] at d15
    have e1 : ff R u = f' := by unfold ff; rw [d9, q_nc (by omega)]
    have e2 : fa R u = a := by unfold fa; rw [d11, q_nc (by
      obtain ⟨z, z1, -, z3, -⟩ := hR.fil c (Or.inl hc) f' d3
      rw [z3, q_nc (by omega)] at d15; omega)]
    have e3 : fk R u = k' := by unfold fk; rw [d13, q_nc (by
      obtain ⟨z, z1, -, z3, -⟩ := hR.fil c (Or.inl hc) f' d3
      rw [z3, q_nc (by omega)] at d15; omega)]
    rw [e1] at hff
    subst hff
    rw [e2, e3, fl_len]
    exact d15
theorem Rn.short {n : Nat} {gh : rC_gh} {C R : rv_Mem} (hR : Rn n gh C R) {h c k : Nat} {x : Int32} (hc : c < n) (hk : 1 ≤ k) (hk2 : k ≤ 80) (hh : h < gh.1 0) (h14 : R 14 h = nI k) (h5 : R 5 c = nI h) (h6 : R 6 c = nI (k - 1)) (hcur : curS n R h = nI c) (hn : ¬ someT R h (gh.1 2) x) :
    ∃ b M, f12_areShort R (nI h) x = some (b, M) ∧ f63 M R ∧ (b = true ↔ ∀ f, f < 4 → (ggd (fmd R h (gh.1 2) x f) (fl R c f)).length ≤ 10) := by
  have go : ∀ M, f63 M R → ∀ f, f < 4 → ∃ M', f12_fixes M (nI h) x (nI f) = some (nI (ggd (fmd R h (gh.1 2) x f) (fl R c f)).length, M') ∧ f63 M' R ∧ (ggd (fmd R h (gh.1 2) x f) (fl R c f)).length ≤ 22 := fun M hM f hf => by
    obtain ⟨M', m1, -, m3, m4⟩ := hR.fixes (M := M) ⟨fun q a b c d => hM q c d, fun i _ => by rw [hM 3 (by omega) (by omega)], fun i _ => by rw [hM 4 (by omega) (by omega)]⟩ hc hk hk2 hh h14 h5 h6 hcur hn hf
    exact ⟨M', m1, fun q a b => by rw [m3 q a b, hM q a b], m4⟩
  obtain ⟨M0, a1, a2, a3⟩ := go R (fun _ _ _ => rfl) 0 (by omega)
  obtain ⟨M1, b1, b2, b3⟩ := go M0 a2 1 (by omega)
  obtain ⟨M2, c1, c2, c3⟩ := go M1 b2 2 (by omega)
  obtain ⟨M3, d1, d2, d3⟩ := go M2 c2 3 (by omega)
  have le : ∀ m, m ≤ 22 → (nI m ≤ 10) = (m ≤ 10) := fun m hm => by rw [q_10, q_le (by omega) (by omega)]
  unfold f12_areShort
  rw [show (0 : Int32) = nI 0 from rfl, a1, o2_some]
  simp only [le _ a3]
  by_cases e0 : (ggd (fmd R h (gh.1 2) x 0) (fl R c 0)).length ≤ 10
  · rw [if_pos e0, show (1 : Int32) = nI 1 from rfl, b1, o2_some]
    simp only [le _ b3]
    by_cases e1 : (ggd (fmd R h (gh.1 2) x 1) (fl R c 1)).length ≤ 10
    · rw [if_pos e1, show (2 : Int32) = nI 2 from rfl, c1, o2_some]
      simp only [le _ c3]
      by_cases e2 : (ggd (fmd R h (gh.1 2) x 2) (fl R c 2)).length ≤ 10
      · rw [if_pos e2, show (3 : Int32) = nI 3 from rfl, d1, o2_some]
        simp only [le _ d3]
        by_cases e3 : (ggd (fmd R h (gh.1 2) x 3) (fl R c 3)).length ≤ 10
        · rw [if_pos e3]
          refine ⟨true, M3, rfl, d2, fun _ f hf => ?_, fun _ => rfl⟩
          rcases (show f = 0 ∨ f = 1 ∨ f = 2 ∨ f = 3 by omega) with rfl | rfl | rfl | rfl
          · exact e0
          · exact e1
          · exact e2
          · exact e3
        · rw [if_neg e3]
          exact ⟨false, M3, rfl, d2, fun z => (by cases z), fun z => absurd (z 3 (by omega)) e3⟩
      · rw [if_neg e2]
        exact ⟨false, M2, rfl, c2, fun z => (by cases z), fun z => absurd (z 2 (by omega)) e2⟩
    · rw [if_neg e1]
      exact ⟨false, M1, rfl, b2, fun z => (by cases z), fun z => absurd (z 1 (by omega)) e1⟩
  · rw [if_neg e0]
    exact ⟨false, M0, rfl, a2, fun z => (by cases z), fun z => absurd (z 0 (by omega)) e0⟩
theorem s12_take156 {M : rv_Mem} {x : Int32} : f12_takeFixes_156 rv_FU M x 0 0 = some (nI (cn (bt x) 0 31), M) := by
  have L := rv_ui (z := (fun _ _ _ _ => none)) (F := f12_takeFixes_156_s) (fun S t (a : Nat) => S M x (nI a) (nI t)) 31 (fun t a => a = cn (bt x) 0 t) (fun a => some (nI a, M)) ?_ ?_ rv_FU 0 0 (Nat.zero_le _) (FU_lt (by omega)) rfl
  · obtain ⟨a, x1, x2⟩ := L
    have x1 : a = cn (bt x) 0 31 := x1
    rw [x1] at x2
    exact x2
  · rintro S t a ht hI
    have hI : a = cn (bt x) 0 t := hI
    rw [hI]
    refine ⟨cn (bt x) 0 (t + 1), rfl, ?_⟩
    show f12_takeFixes_156_s S M x (nI (cn (bt x) 0 t)) (nI t) = S M x (nI (cn (bt x) 0 (t + 1))) (nI (t + 1))
    unfold f12_takeFixes_156_s f12_takeFixes_179
    rw [if_pos (show nI t < 31 by rw [q_31, q_lt (by omega) (by omega)]; exact ht), s12_isTaken ht, o1_some, q_succ, cn_snoc, Nat.zero_add]
    cases bt x t with
    | true => rw [if_pos rfl, if_pos rfl, rvi_t, q_add]
    | false => rw [if_neg (by simp), if_neg (by simp), rvi_f, q_add]
  · intro S a _
    show f12_takeFixes_156_s S M x (nI a) (nI 31) = _
    unfold f12_takeFixes_156_s
    rw [if_neg (show ¬ nI 31 < 31 by decide)]
theorem Rn.take65 {n : Nat} {gh : rC_gh} {C R : rv_Mem} (hR : Rn n gh C R) {h c k b : Nat} {x : Int32} (hc : c < n) (hk : 1 ≤ k) (hk2 : k ≤ 80) (hh : h < gh.1 0) (h14 : R 14 h = nI k) (h5 : R 5 c = nI h) (h6 : R 6 c = nI (k - 1)) (hcur : curS n R h = nI c) (hn : ¬ someT R h (gh.1 2) x) (hb : R 2 c = nI b) (hall : ∀ f, f < 4 → (ggd (fmd R h (gh.1 2) x f) (fl R c f)).length ≤ 10) :
    ∃ M, f12_takeFixes_65 rv_FU R (nI h) x 0 = some (nI (cn (bt x) 0 31), rv_u M 2 80 (nI b)) ∧ m80 M R ∧ ∀ f, f < 4 → fileR M 80 f (ggd (fmd R h (gh.1 2) x f) (fl R c f)) := by
  have hn80 := hR.n80
  have hc20 := hR.ch20
  have e14 : R 14 h - 1 = nI (k - 1) := by rw [h14, q_1, q_sub hk]
  refine rv_ux (z := (fun _ _ _ _ => none)) (F := f12_takeFixes_65_s) (fun t f M => t M (nI h) x (nI f)) 4 (fun f M => m80 M R ∧ ∀ g, g < f → fileR M 80 g (ggd (fmd R h (gh.1 2) x g) (fl R c g))) (fun r => ∃ M, r = some (nI (cn (bt x) 0 31), rv_u M 2 80 (nI b)) ∧ m80 M R ∧ ∀ f, f < 4 → fileR M 80 f (ggd (fmd R h (gh.1 2) x f) (fl R c f))) ?_ ?_ rv_FU 0 R (Nat.zero_le _) (FU_lt (by omega)) ⟨⟨fun _ _ _ _ _ => rfl, fun _ _ => rfl, fun _ _ => rfl⟩, fun g hg => absurd hg (Nat.not_lt_zero _)⟩
  · rintro t f M hf ⟨i1, i2⟩
    right
    obtain ⟨M1, m1, m2, m3, m4⟩ := hR.fixes i1 hc hk hk2 hh h14 h5 h6 hcur hn hf
    have hl := hall f hf
    have i1' := i2
    generalize hX : ggd (fmd R h (gh.1 2) x f) (fl R c f) = X at m1 m2 hl
    have e320 : (320 : Int32) + nI f = nI (320 + f) := q_add 320 f
    have L := rv_ui (z := (fun _ _ _ _ _ => none)) (F := f12_takeFixes_90_s t) (fun T p M' => T M' (nI h) x (nI f) (nI p)) X.length (fun p M' => (∀ q, q ≠ 4 → M' q = rv_u M1 3 (320 + f) (nI X.length) q) ∧ (∀ i, i < 10 * (320 + f) ∨ 10 * (320 + f) + 10 ≤ i → M' 4 i = M1 4 i) ∧ ∀ p', p' < p → M' 4 (10 * (320 + f) + p') = X.getD p' 0) (fun M' => t M' (nI h) x (nI (f + 1))) ?_ ?_ rv_FU 0 (rv_u M1 3 (320 + f) (nI X.length)) (Nat.zero_le _) (FU_lt (by omega)) ⟨fun _ _ => rfl, fun i _ => by rw [mu_ne (by omega)], fun p hp => absurd hp (Nat.not_lt_zero _)⟩
    · obtain ⟨M2, ⟨w1, w2, w3⟩, w4⟩ := L
      refine ⟨M2, ⟨⟨fun q a b c d => ?_, fun i hi => ?_, fun i hi => ?_⟩, fun g hg => ?_⟩, ?_⟩
      · rw [w1 q b, mu_ne a, m3 q c d, i1.1 q a b c d]
      · rw [w1 3 (by omega), mu_ne2 (by omega), m3 3 (by omega) (by omega)]; exact i1.2.1 i hi
      · rw [w2 i (by omega), m3 4 (by omega) (by omega)]; exact i1.2.2 i hi
      · by_cases e : g = f
        · subst e
          rw [hX]
          refine ⟨hl, ?_, fun p hp => ?_⟩
          · rw [w1 3 (by omega), show 4 * 80 + g = 320 + g by omega, mu_same]
          · rw [show 10 * (4 * 80 + g) + p = 10 * (320 + g) + p by omega]; exact w3 p hp
        · obtain ⟨g1, g2, g3⟩ := i2 g (by omega)
          refine ⟨g1, ?_, fun p hp => ?_⟩
          · rw [w1 3 (by omega), mu_ne2 (by omega), m3 3 (by omega) (by omega)]; exact g2
          · rw [w2 _ (by omega), m3 4 (by omega) (by omega)]; exact g3 p hp
      · show f12_takeFixes_65_s t M (nI h) x (nI f) = _
        unfold f12_takeFixes_65_s
        rw [q_4, if_pos (by rw [q_lt (by omega) (by omega)]; exact hf), m1, o2_some, e320, if_pos (q_inb (show 320 + f < 328 by omega) (by omega)), q_nc (by omega), lt_do]
        exact w4
    · rintro T p M' hp ⟨w1, w2, w3⟩
      have e1 : (10 : Int32) * ((320 : Int32) + nI f) + nI p = nI (10 * (320 + f) + p) := by rw [e320, q_10, q_mul, q_add]
      refine ⟨rv_u M' 4 (10 * (320 + f) + p) (X.getD p 0), ⟨fun q hq => by rw [mu_ne hq]; exact w1 q hq, fun i hi => by rw [mu_ne2 (by omega)]; exact w2 i hi, fun p' hp' => ?_⟩, ?_⟩
      · by_cases e : p' = p
        · subst e; rw [mu_same]
        · rw [mu_ne2 (by omega)]; exact w3 p' (by omega)
      · show f12_takeFixes_90_s t T M' (nI h) x (nI f) (nI p) = _
        unfold f12_takeFixes_90_s
        rw [w1 63 (by omega), mu_ne (by omega), m2.1, if_pos (by rw [q_lt (by omega) (by omega)]; exact hp), if_pos (q_inb (show p < 24 by omega) (by omega)), e1, if_pos (q_inb (by omega) (by omega)), q_nc (by omega), q_nc (by omega), w1 62 (by omega), mu_ne (by omega), m2.2 p hp, lt_do, q_succ]
    · rintro T M' ⟨w1, w2, w3⟩
      show f12_takeFixes_90_s t T M' (nI h) x (nI f) (nI X.length) = _
      unfold f12_takeFixes_90_s
      rw [w1 63 (by omega), mu_ne (by omega), m2.1, if_neg (by rw [q_lt (by omega) (by omega)]; omega), q_succ]
  · rintro t M ⟨i1, i2⟩
    refine ⟨M, ?_, i1, i2⟩
    have hcu : f12_current M (nI h) = some (nI c) := by
      unfold f12_current
      rw [if_pos (q_inb (show h < 20 by omega) (by omega)), q_nc (by omega), i1.1 14 (by omega) (by omega) (by omega) (by omega), e14, s12_commitAt (by rw [i1.1 0 (by omega) (by omega) (by omega) (by omega)]; exact hR.cnt.2.2.1) hn80, i1.1 5 (by omega) (by omega) (by omega) (by omega), i1.1 6 (by omega) (by omega) (by omega) (by omega)]
      unfold curS at hcur
      rw [e14] at hcur
      rw [hcur, o1_some]
    show f12_takeFixes_65_s t M (nI h) x (nI 4) = _
    unfold f12_takeFixes_65_s
    rw [if_neg (by decide), hcu, o1_some, if_pos (q_inb (show c < 82 by omega) (by omega)), if_pos (show rv_in (80 : Int32) 82 = true from rfl), q_nc (by omega), i1.1 2 (by omega) (by omega) (by omega) (by omega), hb, lt_do, s12_take156]
    rfl
