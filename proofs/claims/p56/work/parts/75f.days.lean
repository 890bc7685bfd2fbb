/-! DAYS PASS -/
section
variable {n n' : Nat} {gh gh' : rC_gh} {C C' R R' M M' A A' : rv_Mem}
theorem JI_days {day : Nat} {T : Nat → Bool} {R0 : rv_Mem} (hR : Rn n gh C R) (hR' : Rn n gh C' R') (J : JI n gh R A) (h0 : ∀ q, q ≠ 66 → R0 q = R q) (t : tR (gh.1 0) day C R0 R' T) (ho : ∀ h, T h = true → h < gh.1 0 ∧ R 13 h = nI 0) : JI n gh R' A := by
  obtain ⟨t1, t2, t3, -, -⟩ := t
  have hk : ∀ q, q ≠ 13 → q ≠ 20 → q ≠ 21 → q ≠ 51 → q ≠ 52 → q ≠ 66 → R' q = R q := fun q a b c d e f => by rw [t1 q a b c d e, h0 q f]
  have s13 : ∀ h s, s ≠ 2 → s < 3 → (R' 13 h = nI s → R 13 h = nI s) := fun h s hs h3 z => by
    cases e : T h with
    | true =>
      rw [(t2 h e).1, q_eq (by omega) (by omega)] at z
      exact absurd z.symm hs
    | false => rw [(t3 h e).1, h0 13 (by omega)] at z; exact z
  refine JI_new J (fun q hq => hk q (by omega) (by omega) (by omega) (by omega) (by omega) (by omega)) (fun g _ z => ?_) (fun h _ z => ⟨s13 h 1 (by omega) (by omega) z, by rw [hk 18 (by omega) (by omega) (by omega) (by omega) (by omega) (by omega)]⟩) (fun h hh i hi hb => ?_) (fun h hh => ?_) (fun _ _ => rfl) (fun h hh => ?_) (fun h hh => ?_) (fun h h1 h2 => J.cN h h1 h2) (fun _ _ => rfl)
  · cases e : T g with
    | true =>
      have := (ho g e).2
      rw [this, q_eq (by omega) (by omega)] at z
      omega
    | false => rw [(t3 g e).1, h0 13 (by omega)]; exact z
  · rw [hk 12 (by omega) (by omega) (by omega) (by omega) (by omega) (by omega), rvS_keys hR hR' (fun q hq => hk q (by omega) (by omega) (by omega) (by omega) (by omega) (by omega)) hh]
    cases e : T h with
    | true =>
      rw [(t2 h e).2.1] at hb
      rw [b_0] at hb; exact absurd hb (by decide)
    | false =>
      rw [(t3 h e).2.1, h0 20 (by omega)] at hb
      exact J.turnA h hh i hi hb
  · cases e : T h with
    | true => exact Or.inl (t2 h e).2.1
    | false =>
      rw [(t3 h e).2.1, (t3 h e).1, h0 20 (by omega), h0 13 (by omega), hk 15 (by omega) (by omega) (by omega) (by omega) (by omega) (by omega)]
      exact J.turnB h hh
  · rw [J.cA1 h hh]; unfold flN; rw [hk 15 (by omega) (by omega) (by omega) (by omega) (by omega) (by omega), hk 16 (by omega) (by omega) (by omega) (by omega) (by omega) (by omega)]
  · rw [J.cA2 h hh, hk 17 (by omega) (by omega) (by omega) (by omega) (by omega) (by omega)]
theorem t_days (hR : Rn n gh C R) {d D : Nat} (h1 : 1 ≤ d) (h100 : d ≤ 100) (hD : R 52 0 = nI D) (hb : D + d ≤ 10000) : ∃ (v : Nat) (C' R' : rv_Mem) (T : Nat → Bool), f11_advance gh C (nI d) = some (.inl (nI v, C')) ∧ v ≤ 20 ∧ Rn n gh C' R' ∧ tR (gh.1 0) (D + d) C (rv_u R 66 0 0) R' T ∧ ∀ h, T h = true → h < gh.1 0 ∧ R 13 h = nI 0 := by
  have hc := hR.ch20
  have D3 := hD
  have D2 : C 0 11 = nI D := by
    obtain ⟨D', E1, E2, E3⟩ := hR.mis.2.2
    rw [E2, ← E3, hD]
  have D1 : D ≤ 10000 := by omega
  have hR1 : Rn n gh C (rv_u R 66 0 0) := Rn_66 hR
  have hd : d < 2147483648 := by omega
  have hr : 1 ≤ d ∧ d ≤ 100 := ⟨h1, h100⟩
  have hin : f12_isIn (nI d) 1 100 = some (decide (1 ≤ d ∧ d ≤ 100)) := s12_isIn (a := 1) (b := 100) hd (by omega) (by omega)
  rw [decide_eq_true hr] at hin
  have eC : f11_advance gh C (nI d) = if 10000 < nI (D + d) then some (.inr (3, C)) else f11_advance_59 gh rv_FU (rv_u C 0 11 (nI (D + d))) 0 0 := by
    unfold f11_advance
    rw [if_pos (by rw [q_1, q_le (by omega) hd]; exact hr.1), if_neg (by rw [q_100, q_lt (by omega) hd]; omega), D2, q_add]
    rfl
  have eR : f12_advance R (nI d) = if 10000 < nI (D + d) then f12_advance_32 R (nI d) 2 else f12_advance_32 R (nI d) 0 := by
    unfold f12_advance
    rw [hin, o1_some, if_neg (by simp), D3, q_add]
  have e10000 : ((10000 : Int32) < nI (D + d)) = (10000 < D + d) := q_lt (a := 10000) (by omega) (by omega)
  have hbig : ¬ 10000 < D + d := by omega
  rw [if_neg (by rw [e10000]; exact hbig)] at eC eR
  have ad : ∀ h, h < gh.1 0 → ∃ a s, a ≤ D ∧ s < 3 ∧ R 21 h = nI a ∧ R 13 h = nI s ∧ C (100 + h) 5 = nI s ∧ (s ≠ 2 → C (100 + h) 11 = nI a) := fun h hh => by
    obtain ⟨-, -, -, ⟨s, s1, s2, s3⟩, -, -, -, -, a, a1, a2, a3⟩ := hR.chg h hh
    rw [D3, q_nc (by omega)] at a1
    exact ⟨a, s, a1, s1, a2, s3, s2, fun hs => a3 (by rw [s3, ne_eq, q_eq (by omega) (by omega)]; exact hs)⟩
  have cnle : ∀ (p : Nat → Bool), cn p 0 (gh.1 0) ≤ 20 := fun p => by have := cn_le p (gh.1 0) 0; omega
  -- the class
  have LC := rv_ui (z := (fun _ _ _ => none)) (F := f11_advance_59_s gh) (fun t h (s : rv_Mem × Nat) => t s.1 (nI s.2) (nI h)) (gh.1 0) (fun h s => tC (gh.1 0) C s.1 (fun x => due (gh.1 0) D (R 13) (R 21) d x && decide (x < h)) ∧ s.1 0 = (rv_u C 0 11 (nI (D + d))) 0 ∧ s.2 = cn (due (gh.1 0) D (R 13) (R 21) d) 0 h) (fun s => some (.inl (nI s.2, s.1))) ?_ ?_ rv_FU 0 (rv_u C 0 11 (nI (D + d)), 0) (Nat.zero_le _) (FU_lt (by omega)) ⟨⟨fun k h1 _ _ => mu_ne h1, fun h _ j _ _ _ => by show rv_u C 0 11 (nI (D + d)) (100 + h) j = _; rw [mu_ne (by omega)], fun h _ z => ?_, fun h _ _ j => by show rv_u C 0 11 (nI (D + d)) (100 + h) j = _; rw [mu_ne (by omega)], fun p _ => ?_⟩, rfl, rfl⟩
  · -- the reference, day by day
    have LR := rv_ui (z := (fun _ _ _ _ => none)) (F := f12_advance_44_s) (fun t i (s : rv_Mem × Nat) => t s.1 (nI d) (nI s.2) (nI i)) d (fun i s => tR (gh.1 0) (D + i) C (rv_u R 66 0 0) s.1 (due (gh.1 0) D (R 13) (R 21) i) ∧ s.2 = cn (due (gh.1 0) D (R 13) (R 21) i) 0 (gh.1 0)) (fun s => some (nI s.2, s.1)) ?_ ?_ rv_FU 0 (rv_u R 66 0 0, 0) (Nat.zero_le _) (FU_lt (by omega)) ⟨⟨fun _ _ _ _ _ _ => rfl, fun h z => ?_, fun h _ => ⟨rfl, rfl, rfl⟩, fun p _ => ?_, by show rv_u R 66 0 0 52 0 = nI D; rw [mu_ne (by omega)]; exact D3⟩, ?_⟩
    · obtain ⟨⟨C', a⟩, ⟨x1, x2, x3⟩, x4⟩ := LC
      obtain ⟨⟨R', b⟩, ⟨z1, z3⟩, z4⟩ := LR
      have x3 : a = cn (due (gh.1 0) D (R 13) (R 21) d) 0 (gh.1 0) := x3
      have z3 : b = cn (due (gh.1 0) D (R 13) (R 21) d) 0 (gh.1 0) := z3
      have x2 : C' 0 = (rv_u C 0 11 (nI (D + d))) 0 := x2
      have x1 : tC (gh.1 0) C C' (fun x => due (gh.1 0) D (R 13) (R 21) d x && decide (x < gh.1 0)) := x1
      have z1 : tR (gh.1 0) (D + d) C (rv_u R 66 0 0) R' (due (gh.1 0) D (R 13) (R 21) d) := z1
      have eT : (fun x => due (gh.1 0) D (R 13) (R 21) d x && decide (x < gh.1 0)) = due (gh.1 0) D (R 13) (R 21) d := by
        funext x
        unfold due
        by_cases hx : x < gh.1 0
        · rw [decide_eq_true hx, Bool.and_true]
        · rw [decide_eq_false (fun z => hx z.1)]; rfl
      rw [eT] at x1
      have eba : b = a := z3.trans x3.symm
      rw [eba] at z4
      have ow : ∀ h, due (gh.1 0) D (R 13) (R 21) d h = true → h < gh.1 0 ∧ R 13 h = nI 0 := fun h hT => by
        unfold due at hT
        rw [decide_eq_true_iff] at hT
        exact ⟨hT.1, hT.2.1⟩
      refine ⟨a, C', R', _, by rw [eC]; exact x4, by rw [x3]; exact cnle _, ?_, z1, ow⟩
      refine Rn_end hR1 x1 z1 (fun h hT => ⟨(ow h hT).1, by rw [mu_ne (by omega)]; exact (ow h hT).2⟩) (by omega) ?_ ?_
      · rw [mu_ne (by omega), D3, q_nc (by omega)]; omega
      · rw [x2, mu_same]
    · rintro t i ⟨M, a⟩ hi ⟨i1, i2⟩
      have i1 : tR (gh.1 0) (D + i) C (rv_u R 66 0 0) M (due (gh.1 0) D (R 13) (R 21) i) := i1
      have i2 : a = cn (due (gh.1 0) D (R 13) (R 21) i) 0 (gh.1 0) := i2
      have al := cnle (due (gh.1 0) D (R 13) (R 21) i)
      -- a day's pass
      have J := rv_ui (z := (fun _ _ _ _ _ => none)) (F := f12_advance_62_s t) (fun T h (s : rv_Mem × Nat) => T s.1 (nI d) (nI s.2) (nI i) (nI h)) (gh.1 0) (fun h s => tR (gh.1 0) (D + i + 1) C (rv_u R 66 0 0) s.1 (fun x => if x < h then due (gh.1 0) D (R 13) (R 21) (i + 1) x else due (gh.1 0) D (R 13) (R 21) i x) ∧ s.2 = cn (fun x => if x < h then due (gh.1 0) D (R 13) (R 21) (i + 1) x else due (gh.1 0) D (R 13) (R 21) i x) 0 (gh.1 0)) (fun s => t s.1 (nI d) (nI s.2) (nI (i + 1))) ?_ ?_ rv_FU 0 (rv_u M 52 0 (nI (D + i + 1)), a) (Nat.zero_le _) (FU_lt (by omega)) ⟨?_, ?_⟩
      · obtain ⟨⟨M', a'⟩, ⟨j1, j2⟩, j3⟩ := J
        have j1 : tR (gh.1 0) (D + i + 1) C (rv_u R 66 0 0) M' (fun x => if x < gh.1 0 then due (gh.1 0) D (R 13) (R 21) (i + 1) x else due (gh.1 0) D (R 13) (R 21) i x) := j1
        have j2 : a' = cn (fun x => if x < gh.1 0 then due (gh.1 0) D (R 13) (R 21) (i + 1) x else due (gh.1 0) D (R 13) (R 21) i x) 0 (gh.1 0) := j2
        have eT : (fun x => if x < gh.1 0 then due (gh.1 0) D (R 13) (R 21) (i + 1) x else due (gh.1 0) D (R 13) (R 21) i x) = due (gh.1 0) D (R 13) (R 21) (i + 1) := by
          funext x
          by_cases hx : x < gh.1 0
          · rw [if_pos hx]
          · rw [if_neg hx]
            unfold due
            rw [decide_eq_false (fun z => hx z.1), decide_eq_false (fun z => hx z.1)]
        rw [eT] at j1 j2
        refine ⟨(M', a'), ⟨by rw [show D + (i + 1) = D + i + 1 by omega]; exact j1, j2⟩, ?_⟩
        show f12_advance_44_s t M (nI d) (nI a) (nI i) = _
        unfold f12_advance_44_s
        rw [if_pos (by rw [q_lt (by omega) (by omega)]; exact hi), i1.2.2.2.2, q_succ]
        exact j3
      · rintro T h ⟨M1, b⟩ hh ⟨k1, k2⟩
        have k1 : tR (gh.1 0) (D + i + 1) C (rv_u R 66 0 0) M1 (fun x => if x < h then due (gh.1 0) D (R 13) (R 21) (i + 1) x else due (gh.1 0) D (R 13) (R 21) i x) := k1
        have k2 : b = cn (fun x => if x < h then due (gh.1 0) D (R 13) (R 21) (i + 1) x else due (gh.1 0) D (R 13) (R 21) i x) 0 (gh.1 0) := k2
        have bl := cnle (fun x => if x < h then due (gh.1 0) D (R 13) (R 21) (i + 1) x else due (gh.1 0) D (R 13) (R 21) i x)
        obtain ⟨a0, s, a1, s1, a2, s2, s3, a3⟩ := ad h hh
        have h20 : rv_in (nI h) 20 = true := q_inb (by omega) (by omega)
        have m11 : M1 11 0 = nI (gh.1 0) := by rw [k1.1 11 (by omega) (by omega) (by omega) (by omega) (by omega), mu_ne (by omega)]; exact hR.cnt.2.2.2.2.1
        have same : due (gh.1 0) D (R 13) (R 21) (i + 1) h = due (gh.1 0) D (R 13) (R 21) i h → (fun x => if x < h + 1 then due (gh.1 0) D (R 13) (R 21) (i + 1) x else due (gh.1 0) D (R 13) (R 21) i x) = (fun x => if x < h then due (gh.1 0) D (R 13) (R 21) (i + 1) x else due (gh.1 0) D (R 13) (R 21) i x) := fun e => by
          funext x
          by_cases hx : x = h
          · subst hx; rw [if_pos (by omega), if_neg (by omega), e]
          · by_cases hx2 : x < h
            · rw [if_pos (by omega), if_pos hx2]
            · rw [if_neg (by omega), if_neg hx2]
        have step : f12_advance_62_s t T M1 (nI d) (nI b) (nI i) (nI h) = if M1 13 h = 0 then (if 30 ≤ (nI (D + i + 1) - M1 21 h) then rv_o1 (f12_abandons M1 (nI h) (-1)) (fun M2 => T M2 (nI d) (nI (b + 1)) (nI i) (nI (h + 1))) else T M1 (nI d) (nI b) (nI i) (nI (h + 1))) else T M1 (nI d) (nI b) (nI i) (nI (h + 1)) := by
          unfold f12_advance_62_s f12_advance_108
          rw [if_pos (by rw [m11, q_lt (by omega) (by omega)]; exact hh), if_pos h20, if_pos h20, q_nc (by omega), k1.2.2.2.2, q_succ, q_succ]
        show ∃ a' : rv_Mem × Nat, _ ∧ f12_advance_62_s t T M1 (nI d) (nI b) (nI i) (nI h) = _
        rw [step]
        cases hdi : due (gh.1 0) D (R 13) (R 21) i h with
        | true =>
          have e13 := (k1.2.1 h (by show (if h < h then _ else due (gh.1 0) D (R 13) (R 21) i h) = true; rw [if_neg (Nat.lt_irrefl _), hdi])).1
          have hs := same (by rw [hdi, due_mono hdi])
          rw [e13, if_neg (by decide)]
          refine ⟨(M1, b), ⟨?_, ?_⟩, rfl⟩
          · rw [hs]; exact k1
          · rw [hs]; exact k2
        | false =>
          have hT : (fun x => if x < h then due (gh.1 0) D (R 13) (R 21) (i + 1) x else due (gh.1 0) D (R 13) (R 21) i x) h = false := by
            show (if h < h then _ else due (gh.1 0) D (R 13) (R 21) i h) = false
            rw [if_neg (Nat.lt_irrefl _), hdi]
          obtain ⟨e13, -, e21⟩ := k1.2.2.1 h hT
          rw [e13, e21, mu_ne (show 13 ≠ 66 by omega), mu_ne (show 21 ≠ 66 by omega), s2, a2, q_sub (show a0 ≤ D + i + 1 by omega)]
          by_cases hdn : due (gh.1 0) D (R 13) (R 21) (i + 1) h = true
          · have hdn' := hdn
            unfold due at hdn'
            rw [decide_eq_true_iff, s2, a2, q_nc (by omega)] at hdn'
            have es : nI s = 0 := hdn'.2.1
            rw [if_pos es, if_pos (by rw [q_30, q_le (by omega) (by omega)]; omega)]
            obtain ⟨M2, g1, g2⟩ := tR_step hR1 hh k1 hT
            have eT : (fun x => (fun x => if x < h then due (gh.1 0) D (R 13) (R 21) (i + 1) x else due (gh.1 0) D (R 13) (R 21) i x) x || decide (x = h)) = (fun x => if x < h + 1 then due (gh.1 0) D (R 13) (R 21) (i + 1) x else due (gh.1 0) D (R 13) (R 21) i x) := by
              funext x
              show ((if x < h then due (gh.1 0) D (R 13) (R 21) (i + 1) x else due (gh.1 0) D (R 13) (R 21) i x) || decide (x = h)) = _
              by_cases hx : x = h
              · subst hx; rw [if_pos (show x < x + 1 by omega), hdn]; simp
              · rw [decide_eq_false hx, Bool.or_false]
                by_cases hx2 : x < h
                · rw [if_pos (by omega), if_pos (by omega)]
                · rw [if_neg (by omega), if_neg (by omega)]
            rw [eT] at g2
            have key := cn_add (p := fun x => if x < h then due (gh.1 0) D (R 13) (R 21) (i + 1) x else due (gh.1 0) D (R 13) (R 21) i x) (q := fun x => if x < h + 1 then due (gh.1 0) D (R 13) (R 21) (i + 1) x else due (gh.1 0) D (R 13) (R 21) i x) (h := h) (gh.1 0) 0 (Nat.zero_le _) (by omega) (fun x hx => by
              show (if x < h then _ else _) = (if x < h + 1 then _ else _)
              by_cases hx2 : x < h
              · rw [if_pos (by omega), if_pos (by omega)]
              · rw [if_neg (by omega), if_neg (by omega)]) hT
            refine ⟨(M2, b + 1), ⟨g2, ?_⟩, by rw [g1, o1_some]⟩
            show b + 1 = _
            rw [key, k2, if_pos (by show (if h < h + 1 then _ else _) = true; rw [if_pos (by omega)]; exact hdn)]
          · have hs := same (by rw [hdi]; simpa using hdn)
            have hno : ¬ (nI s = 0 ∧ 30 ≤ nI (D + i + 1 - a0)) := by
              rintro ⟨z1, z2⟩
              rw [q_30, q_le (by omega) (by omega)] at z2
              apply hdn
              unfold due
              rw [decide_eq_true_iff, s2, a2, q_nc (by omega)]
              exact ⟨hh, z1, by omega, by omega⟩
            have eq : (if nI s = 0 then (if 30 ≤ nI (D + i + 1 - a0) then rv_o1 (f12_abandons M1 (nI h) (-1)) (fun M2 => T M2 (nI d) (nI (b + 1)) (nI i) (nI (h + 1))) else T M1 (nI d) (nI b) (nI i) (nI (h + 1))) else T M1 (nI d) (nI b) (nI i) (nI (h + 1))) = T M1 (nI d) (nI b) (nI i) (nI (h + 1)) := by
              by_cases z1 : nI s = 0
              · rw [if_pos z1, if_neg (fun z2 => hno ⟨z1, z2⟩)]
              · rw [if_neg z1]
            rw [eq]
            refine ⟨(M1, b), ⟨?_, ?_⟩, rfl⟩
            · rw [hs]; exact k1
            · rw [hs]; exact k2
      · rintro T ⟨M1, b⟩ ⟨k1, k2⟩
        have k1 : tR (gh.1 0) (D + i + 1) C (rv_u R 66 0 0) M1 (fun x => if x < gh.1 0 then due (gh.1 0) D (R 13) (R 21) (i + 1) x else due (gh.1 0) D (R 13) (R 21) i x) := k1
        have m11 : M1 11 0 = nI (gh.1 0) := by rw [k1.1 11 (by omega) (by omega) (by omega) (by omega) (by omega), mu_ne (by omega)]; exact hR.cnt.2.2.2.2.1
        show f12_advance_62_s t T M1 (nI d) (nI b) (nI i) (nI (gh.1 0)) = _
        unfold f12_advance_62_s
        rw [if_neg (by rw [m11, q_lt (by omega) (by omega)]; omega), q_succ]
      · have e : (fun x => if x < 0 then due (gh.1 0) D (R 13) (R 21) (i + 1) x else due (gh.1 0) D (R 13) (R 21) i x) = due (gh.1 0) D (R 13) (R 21) i := by funext x; rw [if_neg (Nat.not_lt_zero _)]
        rw [e]
        refine ⟨fun k h1 h2 h3 h4 h5 => by show rv_u M 52 0 (nI (D + i + 1)) k = _; rw [mu_ne h5]; exact i1.1 k h1 h2 h3 h4 h5, fun h hT => ?_, fun h hT => ?_, fun p hp => by show rv_u M 52 0 (nI (D + i + 1)) 51 p = _; rw [mu_ne (by omega)]; exact i1.2.2.2.1 p hp, (mu_same M 52 0 (nI (D + i + 1)) : rv_u M 52 0 (nI (D + i + 1)) 52 0 = nI (D + i + 1))⟩
        · obtain ⟨x1, x2, t', x3, x4⟩ := i1.2.1 h hT
          show rv_u M 52 0 (nI (D + i + 1)) 13 h = _ ∧ rv_u M 52 0 (nI (D + i + 1)) 20 h = _ ∧ ∃ t, t ≤ D + i + 1 ∧ rv_u M 52 0 (nI (D + i + 1)) 21 h = _
          rw [mu_ne (by omega), mu_ne (by omega), mu_ne (by omega)]
          exact ⟨x1, x2, t', by omega, x4⟩
        · show rv_u M 52 0 (nI (D + i + 1)) 13 h = _ ∧ rv_u M 52 0 (nI (D + i + 1)) 20 h = _ ∧ rv_u M 52 0 (nI (D + i + 1)) 21 h = _
          rw [mu_ne (by omega), mu_ne (by omega), mu_ne (by omega)]
          exact i1.2.2.1 h hT
      · have e : (fun x => if x < 0 then due (gh.1 0) D (R 13) (R 21) (i + 1) x else due (gh.1 0) D (R 13) (R 21) i x) = due (gh.1 0) D (R 13) (R 21) i := by funext x; rw [if_neg (Nat.not_lt_zero _)]
        rw [e]; exact i2
    · rintro t ⟨M, a⟩ _
      show f12_advance_44_s t M (nI d) (nI a) (nI d) = _
      unfold f12_advance_44_s
      rw [if_neg (by rw [q_lt (by omega) (by omega)]; omega)]
    · unfold due at z
      rw [decide_eq_true_iff] at z
      omega
    · have e : (fun h => due (gh.1 0) D (R 13) (R 21) 0 h && bt (rc C h) p) = fun _ => false := by
        funext x
        unfold due
        rw [decide_eq_false (fun z => by omega)]; rfl
      rw [e]
      have : ∀ d k, cn (fun _ => false) k d = 0 := by
        intro d
        induction d with
        | zero => intro k; rfl
        | succ d ih => intro k; rw [cn_s, ih]; rfl
      rw [this]
      exact (Int32.add_zero _).symm
    · have e : due (gh.1 0) D (R 13) (R 21) 0 = fun _ => false := by
        funext x
        unfold due
        rw [decide_eq_false (fun z => by omega)]
      rw [e]
      have : ∀ d k, cn (fun _ => false) k d = 0 := by
        intro d
        induction d with
        | zero => intro k; rfl
        | succ d ih => intro k; rw [cn_s, ih]; rfl
      rw [this]
  · rintro t h ⟨M, a⟩ hh ⟨i1, i2, i3⟩
    have i1 : tC (gh.1 0) C M (fun x => due (gh.1 0) D (R 13) (R 21) d x && decide (x < h)) := i1
    have i2 : M 0 = (rv_u C 0 11 (nI (D + d))) 0 := i2
    have i3 : a = cn (due (gh.1 0) D (R 13) (R 21) d) 0 h := i3
    have al : a ≤ 20 := by rw [i3]; have := cn_le (due (gh.1 0) D (R 13) (R 21) d) h 0; omega
    obtain ⟨a0, s, a1, s1, a2, s2, s3, a3⟩ := ad h hh
    have hT : (fun x => due (gh.1 0) D (R 13) (R 21) d x && decide (x < h)) h = false := by
      show (due (gh.1 0) D (R 13) (R 21) d h && decide (h < h)) = false
      rw [decide_eq_false (Nat.lt_irrefl _), Bool.and_false]
    have er := i1.2.2.2.1 h (by omega) hT
    have step : f11_advance_59_s gh t M (nI a) (nI h) = if nI s = 0 then (if 30 ≤ (nI (D + d) - C (100 + h) 11) then rv_o1 (f11_endChange gh M (100 + h) 2 (-1)) (fun M3 => t M3 (nI (a + 1)) (nI (h + 1))) else t M (nI a) (nI (h + 1))) else t M (nI a) (nI (h + 1)) := by
      unfold f11_advance_59_s f11_advance_117
      rw [if_pos (by rw [q_lt (by omega) (by omega)]; exact hh), if_pos (q_inb hh (by omega)), q_nc (by omega), if_pos (is1 hh hc), er 5, er 11, i2, mu_same, s3, q_succ, q_succ]
    have dsame : due (gh.1 0) D (R 13) (R 21) d h = decide (s = 0 ∧ a0 + 30 ≤ D + d) := by
      unfold due
      have es : (nI s = nI 0) = (s = 0) := q_eq (by omega) (by omega)
      rw [s2, a2, q_nc (by omega)]
      by_cases c : s = 0 ∧ a0 + 30 ≤ D + d
      · rw [decide_eq_true c, decide_eq_true ⟨hh, es.mpr c.1, c.2, hr.1⟩]
      · rw [decide_eq_false c, decide_eq_false (fun z => c ⟨es.mp z.2.1, z.2.2.1⟩)]
    have ecn : cn (due (gh.1 0) D (R 13) (R 21) d) 0 (h + 1) = cn (due (gh.1 0) D (R 13) (R 21) d) 0 h + (if due (gh.1 0) D (R 13) (R 21) d h = true then 1 else 0) := by rw [cn_snoc, Nat.zero_add]
    show ∃ a' : rv_Mem × Nat, _ ∧ f11_advance_59_s gh t M (nI a) (nI h) = _
    rw [step]
    by_cases c : s = 0 ∧ a0 + 30 ≤ D + d
    · obtain ⟨C', g1, g2, g3⟩ := tC_step hR hh i1 hT
      have ed : due (gh.1 0) D (R 13) (R 21) d h = true := by rw [dsame, decide_eq_true c]
      have eT : (fun x => (fun x => due (gh.1 0) D (R 13) (R 21) d x && decide (x < h)) x || decide (x = h)) = (fun x => due (gh.1 0) D (R 13) (R 21) d x && decide (x < h + 1)) := by
        funext x
        show ((due (gh.1 0) D (R 13) (R 21) d x && decide (x < h)) || decide (x = h)) = _
        by_cases hx : x = h
        · subst hx; rw [ed]; simp
        · by_cases hx2 : x < h
          · simp [hx, hx2, show x < h + 1 by omega]
          · simp [hx, hx2, show ¬ x < h + 1 by omega]
      rw [eT] at g2
      have e0 : nI s = 0 := by rw [c.1]; rfl
      rw [if_pos e0, a3 (by omega), q_sub (by omega), if_pos (by rw [q_30, q_le (by omega) (by omega)]; omega), g1, o1_some]
      refine ⟨(C', a + 1), ⟨g2, by show C' 0 = _; rw [g3, i2], ?_⟩, rfl⟩
      show a + 1 = _
      rw [ecn, if_pos ed, i3]
    · have ed : ¬ due (gh.1 0) D (R 13) (R 21) d h = true := by rw [dsame, decide_eq_false c]; simp
      have eT : (fun x => due (gh.1 0) D (R 13) (R 21) d x && decide (x < h + 1)) = (fun x => due (gh.1 0) D (R 13) (R 21) d x && decide (x < h)) := by
        funext x
        by_cases hx : x = h
        · subst hx
          rw [show due (gh.1 0) D (R 13) (R 21) d x = false by simpa using ed]; rfl
        · by_cases hx2 : x < h
          · simp [hx2, show x < h + 1 by omega]
          · simp [hx2, show ¬ x < h + 1 by omega]
      have eq : (if nI s = 0 then (if 30 ≤ (nI (D + d) - C (100 + h) 11) then rv_o1 (f11_endChange gh M (100 + h) 2 (-1)) (fun M3 => t M3 (nI (a + 1)) (nI (h + 1))) else t M (nI a) (nI (h + 1))) else t M (nI a) (nI (h + 1))) = t M (nI a) (nI (h + 1)) := by
        by_cases z1 : nI s = 0
        · have z1' : s = 0 := by rw [q_0, q_eq (by omega) (by omega)] at z1; exact z1
          rw [if_pos z1, a3 (by omega), q_sub (by omega), if_neg (by rw [q_30, q_le (by omega) (by omega)]; exact fun z2 => c ⟨z1', by omega⟩)]
        · rw [if_neg z1]
      rw [eq]
      refine ⟨(M, a), ⟨?_, i2, ?_⟩, rfl⟩
      · rw [eT]; exact i1
      · show a = _
        rw [ecn, if_neg ed, i3]; rfl
  · rintro t ⟨M, a⟩ _
    show f11_advance_59_s gh t M (nI a) (nI (gh.1 0)) = _
    unfold f11_advance_59_s
    rw [if_neg (by rw [q_lt (by omega) (by omega)]; omega)]
  · have z : (due (gh.1 0) D (R 13) (R 21) d h && decide (h < 0)) = true := z
    rw [decide_eq_false (Nat.not_lt_zero _), Bool.and_false] at z
    cases z
  · show rv_u C 0 11 (nI (D + d)) 13 p = _
    rw [mu_ne (by omega)]
    have e : (fun h => (fun x => due (gh.1 0) D (R 13) (R 21) d x && decide (x < 0)) h && bt (rc C h) p) = fun _ => false := by
      funext x
      show ((due (gh.1 0) D (R 13) (R 21) d x && decide (x < 0)) && bt (rc C x) p) = false
      rw [decide_eq_false (Nat.not_lt_zero _), Bool.and_false, Bool.false_and]
    rw [e]
    have : ∀ d k, cn (fun _ => false) k d = 0 := by
      intro d
      induction d with
      | zero => intro k; rfl
      | succ d ih => intro k; rw [cn_s, ih]; rfl
    rw [this]
    exact (Int32.add_zero _).symm
end
