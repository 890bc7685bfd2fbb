/-! publish -/
/-- whether a comment is a draft of the person for the change -/
def pd (R : rv_Mem) (p h j : Nat) : Bool := rv_z (R 32 j) && decide (R 25 j = nI p) && decide (R 26 j = nI h)
def pn (R : rv_Mem) (p h : Nat) : Nat → Nat
  | 0 => 0
  | j + 1 => if pd R p h j = true then pn R p h j + 1 else pn R p h j
theorem pn_le (R : rv_Mem) (p h : Nat) : ∀ j, pn R p h j ≤ j := by
  intro j
  induction j with
  | zero => exact Nat.le_refl _
  | succ j ih =>
    have e : pn R p h (j + 1) = if pd R p h j = true then pn R p h j + 1 else pn R p h j := rfl
    rw [e]
    split <;> omega
theorem pn_pos {R : rv_Mem} {p h : Nat} : ∀ {j}, 0 < pn R p h j → ∃ i, i < j ∧ pd R p h i = true := by
  intro j
  induction j with
  | zero => intro hp; exact absurd hp (Nat.lt_irrefl _)
  | succ j ih =>
    intro hp
    by_cases e : pd R p h j = true
    · exact ⟨j, by omega, e⟩
    · have hp : 0 < (if pd R p h j = true then pn R p h j + 1 else pn R p h j) := hp
      rw [if_neg e] at hp
      obtain ⟨i, i1, i2⟩ := ih hp
      exact ⟨i, by omega, i2⟩
theorem s12_draftsOf {M R : rv_Mem} {cm p h : Nat} (h24 : M 24 0 = nI cm) (hcm : cm ≤ 60) (e25 : M 25 = R 25) (e26 : M 26 = R 26) (e32 : M 32 = R 32) : f12_draftsOf M (nI p) (nI h) = some (nI (pn R p h cm)) := by
  have L := rv_ui (z := (fun _ _ _ _ => none)) (F := f12_draftsOf_5_s M) (fun t j (a : Nat) => t (nI p) (nI h) (nI a) (nI j)) cm (fun j a => a = pn R p h j) (fun a => some (nI a)) ?_ ?_ rv_FU 0 0 (Nat.zero_le _) (FU_lt (by omega)) rfl
  · obtain ⟨a, rfl, x2⟩ := L
    exact x2
  · rintro t j a hj rfl
    refine ⟨pn R p h (j + 1), rfl, ?_⟩
    show f12_draftsOf_5_s M t (nI p) (nI h) (nI (pn R p h j)) (nI j) = t (nI p) (nI h) (nI (if pd R p h j = true then pn R p h j + 1 else pn R p h j)) (nI (j + 1))
    unfold f12_draftsOf_5_s f12_draftsOf_51 f12_draftsOf_52 pd
    rw [if_pos (by rw [h24, q_lt (by omega) (by omega)]; exact hj), if_pos (q_inb (show j < 60 by omega) (by omega)), q_nc (by omega), e25, e26, e32, if_pos (q_inb (show j < 60 by omega) (by omega)), if_pos (q_inb (show j < 60 by omega) (by omega)), q_succ]
    have ef : nI (pn R p h j) + rv_i false = nI (pn R p h j) := by rw [rvi_f, q_add]; rfl
    have et : nI (pn R p h j) + rv_i true = nI (pn R p h j + 1) := by rw [rvi_t, q_add]
    rw [ef, et]
    by_cases c1 : R 26 j = nI h
    · rw [if_pos c1, decide_eq_true c1]
      by_cases c2 : R 25 j = nI p
      · rw [if_pos c2, decide_eq_true c2]
        cases rv_z (R 32 j) <;> rfl
      · rw [if_neg c2, decide_eq_false c2]
        cases rv_z (R 32 j) <;> rfl
    · rw [if_neg c1, decide_eq_false c1]
      simp
  · intro t a ha
    show f12_draftsOf_5_s M t (nI p) (nI h) (nI a) (nI cm) = _
    unfold f12_draftsOf_5_s
    rw [if_neg (by rw [h24, q_lt (by omega) (by omega)]; omega)]
/-- the class's loop over the comments -/
theorem Rn.pubC {n : Nat} {gh : rC_gh} {C R : rv_Mem} (hR : Rn n gh C R) {p h : Nat} (hp : p < 6) (hh : h < gh.1 0) :
    ∃ C1, (∀ q, (q < 200 ∨ 200 + gh.1 1 ≤ q) → C1 q = C q) ∧ (∀ j, j < gh.1 1 → ∀ x, C1 (200 + j) x = if x = 4 ∧ pd R p h j = true then rv_i true else C (200 + j) x) ∧
      f11_publish_21 gh rv_FU C (nI p) (nI h) (100 + h) 0 0 = (if nI (pn R p h (gh.1 1)) = 0 then (some (.inr (3, C1))) else rv_o1 (f0_takePart gh C1 (100 + h) (nI p)) (fun M6 => rv_o1 (f11_passTurns gh M6 (nI p) (100 + h) true) (fun M8 => rv_o1 (f11_noteAct gh M8 (nI p) (100 + h)) (fun M10 => (some (.inl (nI (pn R p h (gh.1 1)), M10))))))) := by
  have hcm := hR.cnt.2.2.2.2.2.1
  have hc := hR.ch20
  have L := rv_ui (z := (fun _ _ _ _ _ _ => none)) (F := f11_publish_21_s gh) (fun t j (s : rv_Mem × Nat) => t s.1 (nI p) (nI h) (100 + h) (nI s.2) (nI j)) (gh.1 1) (fun j s => (∀ q, (q < 200 ∨ 200 + j ≤ q) → s.1 q = C q) ∧ (∀ i, i < j → ∀ x, s.1 (200 + i) x = if x = 4 ∧ pd R p h i = true then rv_i true else C (200 + i) x) ∧ s.2 = pn R p h j) (fun s => if nI s.2 = 0 then (some (.inr (3, s.1))) else rv_o1 (f0_takePart gh s.1 (100 + h) (nI p)) (fun M6 => rv_o1 (f11_passTurns gh M6 (nI p) (100 + h) true) (fun M8 => rv_o1 (f11_noteAct gh M8 (nI p) (100 + h)) (fun M10 => (some (.inl (nI s.2, M10))))))) ?_ ?_ rv_FU 0 (C, 0) (Nat.zero_le _) (FU_lt (by omega)) ⟨fun _ _ => rfl, fun i hi => absurd hi (Nat.not_lt_zero _), rfl⟩
  · obtain ⟨⟨C1, a⟩, ⟨x1, x2, x3⟩, x4⟩ := L
    have x3 : a = pn R p h (gh.1 1) := x3
    subst x3
    exact ⟨C1, x1, x2, x4⟩
  · rintro t j ⟨M, a⟩ hj ⟨i1, i2, i3⟩
    have i1 : ∀ q, (q < 200 ∨ 200 + j ≤ q) → M q = C q := i1
    have i2 : ∀ i, i < j → ∀ x, M (200 + i) x = if x = 4 ∧ pd R p h i = true then rv_i true else C (200 + i) x := i2
    have i3 : a = pn R p h j := i3
    subst i3
    obtain ⟨⟨pa, o1, o2, o3⟩, -, -, o6, o7, q, s, f, b, k, q1, q2, q3, q4, q5, q6, -⟩ := hR.cmt j hj
    have ge := ok_pl2 o7
    have eM : M (200 + j) = C (200 + j) := i1 _ (by omega)
    have eG : M (gh.2 (200 + j)) = C (gh.2 (200 + j)) := i1 _ (by omega)
    have ed : pd R p h j = (!rv_z (C (200 + j) 4) && decide (C (200 + j) 0 = nI p) && decide (C (gh.2 (200 + j)) 0 = nI h)) := by
      unfold pd
      rw [o6, o2, o3, q5, q6, Bool.not_not]
    have step : f11_publish_21_s gh t M (nI p) (nI h) (100 + h) (nI (pn R p h j)) (nI j) = if pd R p h j = true then t (rv_u M (200 + j) 4 (rv_i true)) (nI p) (nI h) (100 + h) (nI (pn R p h j + 1)) (nI (j + 1)) else t M (nI p) (nI h) (100 + h) (nI (pn R p h j)) (nI (j + 1)) := by
      unfold f11_publish_21_s f11_publish_85
      rw [if_pos (by rw [q_lt (by omega) (by omega)]; exact hj), if_pos (q_inb hj (by omega)), q_nc (by omega), if_pos (is2 hj hcm), if_pos o7, eM, eG, q_succ, q_succ, ed]
      cases c0 : rv_z (C (200 + j) 4) with
      | true =>
        rw [if_neg (by simp)]
        rfl
      | false =>
        rw [if_pos rfl]
        by_cases c1 : C (200 + j) 0 = nI p
        · rw [if_pos c1, decide_eq_true c1]
          by_cases c2 : C (gh.2 (200 + j)) 0 = nI h
          · rw [if_pos c2, decide_eq_true c2]; rfl
          · rw [if_neg c2, decide_eq_false c2]; rfl
        · rw [if_neg c1, decide_eq_false c1]; rfl
    by_cases c : pd R p h j = true
    · refine ⟨(rv_u M (200 + j) 4 (rv_i true), pn R p h (j + 1)), ⟨fun q hq => by show rv_u M (200 + j) 4 (rv_i true) q = C q; rw [mu_ne (by omega)]; exact i1 q (by omega), fun i hi x => ?_, rfl⟩, ?_⟩
      · show rv_u M (200 + j) 4 (rv_i true) (200 + i) x = _
        by_cases e : i = j
        · subst e
          by_cases ex : x = 4
          · subst ex; rw [mu_same, if_pos ⟨rfl, c⟩]
          · rw [mu_ne2 ex, eM, if_neg (fun z => ex z.1)]
        · rw [mu_ne (by omega)]; exact i2 i (by omega) x
      · show f11_publish_21_s gh t M (nI p) (nI h) (100 + h) (nI (pn R p h j)) (nI j) = t _ _ _ _ (nI (if pd R p h j = true then pn R p h j + 1 else pn R p h j)) _
        rw [step, if_pos c, if_pos c]
    · refine ⟨(M, pn R p h (j + 1)), ⟨fun q hq => i1 q (by omega), fun i hi x => ?_, rfl⟩, ?_⟩
      · show M (200 + i) x = _
        by_cases e : i = j
        · subst e; rw [eM, if_neg (fun z => c z.2)]
        · exact i2 i (by omega) x
      · show f11_publish_21_s gh t M (nI p) (nI h) (100 + h) (nI (pn R p h j)) (nI j) = t _ _ _ _ (nI (if pd R p h j = true then pn R p h j + 1 else pn R p h j)) _
        rw [step, if_neg c, if_neg c]
  · rintro t ⟨M, a⟩ hI
    show f11_publish_21_s gh t M (nI p) (nI h) (100 + h) (nI a) (nI (gh.1 1)) = _
    unfold f11_publish_21_s
    rw [if_neg (by rw [q_lt (by omega) (by omega)]; omega)]
    by_cases c : nI a = 0
    · rw [if_pos c]
      exact (if_pos c).symm
    · rw [if_neg c, if_pos (is1 hh hc)]
      exact (if_neg c).symm
/-- the reference's loop over the comments -/
theorem s12_pubLoop {M R : rv_Mem} {cm p h : Nat} {x3 : Int32} (h24 : M 24 0 = nI cm) (hcm : cm ≤ 60) (e25 : M 25 = R 25) (e26 : M 26 = R 26) (e32 : M 32 = R 32) :
    ∃ M1, (∀ q, q ≠ 32 → M1 q = M q) ∧ (∀ j, j < cm → rv_z (M1 32 j) = (rv_z (R 32 j) && !pd R p h j)) ∧ f12_publish_52 rv_FU M (nI p) (nI h) x3 0 = rv_o1 (f12_tells M1 (nI h) (nI p)) (fun M2 => rv_o1 (f12_turnsOn M2 (nI h) (nI p) false) (fun M4 => (some (x3, M4)))) := by
  have L := rv_ui (z := (fun _ _ _ _ _ => none)) (F := f12_publish_52_s) (fun t j (s : rv_Mem) => t s (nI p) (nI h) x3 (nI j)) cm (fun j s => (∀ q, q ≠ 32 → s q = M q) ∧ (∀ i, i < j → rv_z (s 32 i) = (rv_z (R 32 i) && !pd R p h i)) ∧ ∀ i, j ≤ i → s 32 i = R 32 i) (fun s => rv_o1 (f12_tells s (nI h) (nI p)) (fun M2 => rv_o1 (f12_turnsOn M2 (nI h) (nI p) false) (fun M4 => (some (x3, M4))))) ?_ ?_ rv_FU 0 M (Nat.zero_le _) (FU_lt (by omega)) ⟨fun _ _ => rfl, fun i hi => absurd hi (Nat.not_lt_zero _), fun i _ => by rw [e32]⟩
  · obtain ⟨M1, ⟨x1, x2, -⟩, x4⟩ := L
    exact ⟨M1, x1, x2, x4⟩
  · intro t j M1 hj ⟨i1, i2, i3⟩
    have step : f12_publish_52_s t M1 (nI p) (nI h) x3 (nI j) = t (rv_u M1 32 j (rv_i (rv_z (R 32 j) && !pd R p h j))) (nI p) (nI h) x3 (nI (j + 1)) := by
      unfold f12_publish_52_s f12_publish_99 f12_publish_103 f12_publish_104 pd
      have hin : rv_in (nI j) 60 = true := q_inb (by omega) (by omega)
      rw [if_pos (by rw [i1 24 (by omega), h24, q_lt (by omega) (by omega)]; exact hj), i1 25 (by omega), i1 26 (by omega), e25, e26]
      simp only [hin, if_true, q_nc (show j < 2147483648 by omega), lt_do, i3 j (Nat.le_refl _), q_succ]
      cases rv_z (R 32 j) with
      | false => rfl
      | true =>
        rw [if_pos rfl]
        by_cases c1 : R 26 j = nI h
        · rw [if_pos c1, decide_eq_true c1]
          by_cases c2 : R 25 j = nI p
          · rw [if_neg (fun z => z c2), decide_eq_true c2]; rfl
          · rw [if_pos c2, decide_eq_false c2]; rfl
        · rw [if_neg c1, decide_eq_false c1]
          simp
    refine ⟨_, ⟨fun q hq => by rw [mu_ne hq]; exact i1 q hq, fun i hi => ?_, fun i hi => by rw [mu_ne2 (by omega)]; exact i3 i (by omega)⟩, step⟩
    by_cases e : i = j
    · subst e; rw [mu_same, rvz_i]
    · rw [mu_ne2 e]; exact i2 i (by omega)
  · intro t M1 ⟨i1, i2, i3⟩
    show f12_publish_52_s t M1 (nI p) (nI h) x3 (nI cm) = _
    unfold f12_publish_52_s
    rw [if_neg (by rw [i1 24 (by omega), h24, q_lt (by omega) (by omega)]; omega)]
theorem h_publish : ∀ gh MC MR, Rel gh MC MR → ∀ p1 p2, rS_publish Rel gh MC MR p1 p2 := fun gh C R h p1 p2 => by
  obtain ⟨n, hR⟩ := h
  have hn := hR.n80
  have hc := hR.ch20
  have hcm := hR.cnt.2.2.2.2.2.1
  have h24 := hR.cnt.2.2.2.2.2.2.1
  unfold rS_publish
  have hR1 : Rn n gh C (rv_u R 66 0 0) := Rn_66 hR
  rcases hR.dwrong p1 p2 with ⟨p, h, hp, hh, rfl, rfl, e1, e2, e3⟩ | ⟨e1, e2⟩
  · obtain ⟨C1, x1, x2, x3⟩ := hR.pubC hp hh
    have ed : f12_draftsOf (rv_u R 66 0 0) (nI p) (nI h) = some (nI (pn R p h (gh.1 1))) := s12_draftsOf (by rw [mu_ne (by omega)]; exact h24) hcm (mu_ne (by omega)) (mu_ne (by omega)) (mu_ne (by omega))
    have eC : f11_publish gh C (nI p) (nI h) = rv_x2 (f11_needSeen gh C (nI p) (100 + h)) C (fun r10 => f11_publish_21 gh rv_FU C (nI p) (nI h) (100 + h) 0 0) := by
      unfold f11_publish
      rw [e1]; simp only [x2_inl]
      rw [e2]; simp only [x2_inl]
    have eR : f12_publish R (nI p) (nI h) = rv_o1 (f12_canSee (rv_u R 66 0 0) (nI p) (nI h)) (fun r9 => (if r9 = true then (if nI (pn R p h (gh.1 1)) = 0 then f12_publish_36 (rv_u R 66 0 0) (nI p) (nI h) (nI (pn R p h (gh.1 1))) else f12_publish_41 (rv_u R 66 0 0) (nI p) (nI h) (nI (pn R p h (gh.1 1))) 0) else f12_publish_36 (rv_u R 66 0 0) (nI p) (nI h) (nI (pn R p h (gh.1 1))))) := by
      unfold f12_publish
      rw [e3, o1_some]
      show rv_o1 (f12_draftsOf (rv_u R 66 0 0) (nI p) (nI h)) _ = _
      rw [ed, o1_some]
      rfl
    have e36 : ∀ x, f12_publish_36 (rv_u R 66 0 0) (nI p) (nI h) x = some (0, rv_u (rv_u R 66 0 0) 66 0 2) := fun x => rfl
    rcases hR1.seen hh hp with ⟨s1, s2⟩ | ⟨s1, s2⟩
    · rw [s1] at eC
      simp only [x2_inl] at eC
      rw [s2, o1_some, if_pos rfl] at eR
      have hp60 := pn_le R p h (gh.1 1)
      by_cases h0 : pn R p h (gh.1 1) = 0
      · right; right
        rw [h0] at x3 eR
        refine ⟨C1, _, _, by rw [eC, x3, if_pos (show nI 0 = 0 from rfl)], by rw [eR, if_pos (show nI 0 = 0 from rfl), e36], mu_same _ _ _ _, ⟨n, ?_⟩⟩
        have same : C1 = C := by
          funext q
          by_cases hq : q < 200 ∨ 200 + gh.1 1 ≤ q
          · exact x1 q hq
          · obtain ⟨j, rfl⟩ : ∃ j, q = 200 + j := ⟨q - 200, by omega⟩
            funext x
            rw [x2 j (by omega) x]
            have : ¬ pd R p h j = true := by
              intro z
              have : ∀ d, j + 1 + d ≤ gh.1 1 → 0 < pn R p h (j + 1 + d) := by
                intro d
                induction d with
                | zero =>
                  intro _
                  have e : pn R p h (j + 1) = if pd R p h j = true then pn R p h j + 1 else pn R p h j := rfl
                  show 0 < pn R p h (j + 1)
                  rw [e, if_pos z]; omega
                | succ d ih =>
                  intro hd
                  have := ih (by omega)
                  have e : pn R p h (j + 1 + d + 1) = if pd R p h (j + 1 + d) = true then pn R p h (j + 1 + d) + 1 else pn R p h (j + 1 + d) := rfl
                  show 0 < pn R p h (j + 1 + d + 1)
                  rw [e]
                  split <;> omega
              have := this (gh.1 1 - (j + 1)) (by omega)
              rw [show j + 1 + (gh.1 1 - (j + 1)) = gh.1 1 by omega] at this
              omega
            rw [if_neg (fun z => this z.2)]
        rw [same]
        exact Rn_66 hR1
      · left
        have hn0 : ¬ nI (pn R p h (gh.1 1)) = 0 := by rw [q_0, q_eq (by omega) (by omega)]; exact h0
        rw [if_neg hn0] at x3 eR
        obtain ⟨o, o1, o2, o3⟩ := (hR.chg h hh).2.1
        obtain ⟨C2, t1, t2, t3, t4⟩ := s0_takePart (gh := gh) (C := C1) hh hc hp o1 (by rw [x1 _ (by omega)]; exact o2)
        have y : ∀ k, k ≠ 66 → (rv_u (rv_u R 66 0 0) 66 0 0) k = R k := fun k hk => by rw [mu_ne hk, mu_ne hk]
        obtain ⟨M1, m1, m2, m3⟩ := s12_pubLoop (M := rv_u (rv_u R 66 0 0) 66 0 0) (R := R) (p := p) (h := h) (x3 := nI (pn R p h (gh.1 1))) (by rw [y 24 (by omega)]; exact h24) hcm (y 25 (by omega)) (y 26 (by omega)) (y 32 (by omega))
        have v : ∀ k, k ≠ 32 → k ≠ 66 → M1 k = R k := fun k h1 h2 => by rw [m1 k h1, y k h2]
        have hmid : Rn n gh C2 M1 := by
          have f : ∀ k, k ≠ 100 + h → (k < 200 ∨ 260 ≤ k) → C2 k = C k := fun k h1 h2 => by rw [t2 k h1, x1 k (by omega)]
          refine Rn_vp hR hh (fun k _ h2 h3 => f k h2 h3) (fun j hj => by rw [t3 j hj, x1 _ (by omega)]) (fun k h1 _ h3 => v k h3 (by omega)) (by rw [v 64 (by omega) (by omega)]; exact hR.h64) ?_ ?_ ?_
          · rw [f 41 (by omega) (by omega), v 22 (by omega) (by omega)]; exact hR.vot
          · intro q hq i hi
            have base := hR.rev q hq i hi
            have C9 : bt (C2 (100 + q) 9) i = (bt (C (100 + q) 9) i || (decide (q = h) && !decide (p = o) && decide (i = p))) := by
              by_cases e : q = h
              · subst e
                rw [t4 i hi, x1 _ (by omega)]
                simp
              · rw [t2 _ (by omega), x1 _ (by omega)]
                simp [e]
            rw [C9, base]
            unfold revB
            rw [v 5 (by omega) (by omega), v 12 (by omega) (by omega), v 19 (by omega) (by omega), v 22 (by omega) (by omega), v 25 (by omega) (by omega), v 26 (by omega) (by omega)]
            by_cases hsame : q = h ∧ i = p
            · obtain ⟨rfl, rfl⟩ := hsame
              rw [o3]
              by_cases eo : i = o
              · subst eo; simp
              · have en : ¬ nI o = nI i := by rw [q_eq (by omega) (by omega)]; exact fun z => eo z.symm
                obtain ⟨j, j1, j2⟩ := pn_pos (show 0 < pn R i q (gh.1 1) by omega)
                have hany : (List.range (gh.1 1)).any (fun k => decide (R 26 k = nI q) && !rv_z (M1 32 k) && decide (R 25 k = nI i)) = true := by
                  rw [List.any_eq_true]
                  refine ⟨j, by simpa using j1, ?_⟩
                  rw [m2 j j1, j2]
                  unfold pd at j2
                  simp only [Bool.and_eq_true, decide_eq_true_iff] at j2
                  rw [decide_eq_true j2.2, decide_eq_true j2.1.2]
                  simp
                rw [hany]
                simp [en, eo]
            · have hex : (decide (q = h) && !decide (p = o) && decide (i = p)) = false := by
                by_cases e1 : q = h
                · have : ¬ i = p := fun z => hsame ⟨e1, z⟩
                  simp [this]
                · simp [e1]
              rw [hex, Bool.or_false]
              congr 2
              congr 1
              apply any_congr
              intro k hk
              rw [m2 k hk]
              by_cases c : pd R p h k = true
              · have c2 := c
                unfold pd at c2
                simp only [Bool.and_eq_true, decide_eq_true_iff] at c2
                rw [c2.2, c2.1.2]
                have hne : ¬ (nI h = nI q ∧ nI p = nI i) := by
                  rintro ⟨z1, z2⟩
                  have : h = q := by rw [q_eq (by omega) (by omega)] at z1; exact z1
                  have zi : p = i := by
                    have hpi := congrArg Int32.toNatClampNeg z2
                    rw [q_nc (by omega), q_nc (by omega)] at hpi
                    exact hpi
                  exact hsame ⟨this.symm, zi.symm⟩
                by_cases z1 : nI h = nI q
                · have z2 : ¬ nI p = nI i := fun z => hne ⟨z1, z⟩
                  simp [z2]
                · simp [z1]
              · rw [show pd R p h k = false by simpa using c]
                simp
          · intro j hj
            obtain ⟨⟨pa, o1', o2', o3'⟩, o4, o5, o6, o7, o8⟩ := hR.cmt j hj
            have ge := ok_pl2 o7
            have fj : ∀ x, x ≠ 4 → C2 (200 + j) x = C (200 + j) x := fun x hx => by rw [t2 _ (by omega), x2 j hj x, if_neg (fun z => hx z.1)]
            have f4 : rv_z (C2 (200 + j) 4) = !rv_z (M1 32 j) := by
              rw [t2 _ (by omega), x2 j hj 4, m2 j hj]
              cases c : pd R p h j with
              | true => rw [if_pos ⟨rfl, rfl⟩, rvz_i]; simp
              | false => rw [if_neg (by simp), o6]; simp
            rw [f (gh.2 (200 + j)) (by omega) (by omega), fj 0 (by omega), fj 1 (by omega), fj 2 (by omega), v 25 (by omega) (by omega), v 31 (by omega) (by omega), v 33 (by omega) (by omega), v 14 (by omega) (by omega), v 26 (by omega) (by omega), v 27 (by omega) (by omega), v 28 (by omega) (by omega), v 29 (by omega) (by omega), v 30 (by omega) (by omega), v 3 (by omega) (by omega), v 5 (by omega) (by omega), v 6 (by omega) (by omega)]
            exact ⟨⟨pa, o1', o2', o3'⟩, o4, o5, f4, o7, o8⟩
        obtain ⟨C3, C4, R3, R4, z1, z2, z3, z4, z5, z6, z7, z8⟩ := Rn_pass hmid hh hp true
        have z4 : f12_turnsOn R3 (nI h) (nI p) false = some R4 := z4
        refine ⟨nI (pn R p h (gh.1 1)), C4, R4, ?_, ?_, ?_, ⟨n, z5⟩⟩
        · rw [eC, x3, t1, o1_some, z1, o1_some, z2, o1_some]
        · rw [eR]
          show f12_publish_52 rv_FU (rv_u (rv_u R 66 0 0) 66 0 0) (nI p) (nI h) (nI (pn R p h (gh.1 1))) 0 = _
          rw [m3, z3, o1_some, z4, o1_some]
        · rw [z6, m1 66 (by omega), mu_same]
    · right; right
      exact ⟨C, _, _, by rw [eC, s1]; rfl, by rw [eR, s2, o1_some, if_neg (by simp), e36], mu_same _ _ _ _, ⟨n, Rn_66 hR1⟩⟩
  · right; left
    refine ⟨C, rv_u R 66 0 1, 0, ?_, ?_, mu_same _ _ _ _, ⟨n, Rn_66 hR⟩⟩
    · unfold f11_publish
      rcases e1 with e1 | ⟨e1, e3⟩
      · rw [e1]; rfl
      · rw [e1]; simp only [x2_inl]; rw [e3]; rfl
    · unfold f12_publish
      rw [e2, o1_some]
      rfl
