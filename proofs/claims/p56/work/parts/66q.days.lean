/-! advance -/
theorem cn_snoc (p : Nat → Bool) : ∀ d k, cn p k (d + 1) = cn p k d + (if p (k + d) = true then 1 else 0) := by
  intro d
  induction d with
  | zero => intro k; rw [cn_s]; show _ + 0 = 0 + _; rw [Nat.add_zero, Nat.zero_add]; rfl
  | succ d ih =>
    intro k
    rw [cn_s, ih (k + 1), cn_s, show k + 1 + d = k + (d + 1) by omega]
    omega
theorem cn_congr {p q : Nat → Bool} : ∀ d k, (∀ j, k ≤ j → j < k + d → p j = q j) → cn p k d = cn q k d := by
  intro d
  induction d with
  | zero => intro k _; rfl
  | succ d ih =>
    intro k h
    rw [cn_s, cn_s, h k (Nat.le_refl _) (by omega), ih (k + 1) (fun j h1 h2 => h j (by omega) (by omega))]
theorem cn_add {p q : Nat → Bool} {h : Nat} : ∀ d k, k ≤ h → h < k + d → (∀ j, j ≠ h → p j = q j) → p h = false → cn q k d = cn p k d + (if q h = true then 1 else 0) := by
  intro d
  induction d with
  | zero => intro k h1 h2; omega
  | succ d ih =>
    intro k h1 h2 hpq hp
    rw [cn_s, cn_s]
    by_cases e : k = h
    · subst e
      have := cn_congr (p := q) (q := p) d (k + 1) (fun j j1 _ => (hpq j (by omega)).symm)
      rw [hp, this]
      show _ = 0 + _ + _
      omega
    · rw [ih (k + 1) (by omega) (by omega) hpq hp, hpq k e]
      omega
/-- who gets mail of a change -/
def rc (C : rv_Mem) (h : Nat) : Int32 := (C (100 + h) 9 ||| ((1 : Int32) <<< (C (100 + h) 1 &&& 31))) ||| (if rv_z (C (100 + h) 7) = false ∧ rv_z (C (100 + h) 6) = false then C 12 (C (100 + h) 2).toNatClampNeg else 0)
/-- both sides with the changes of T abandoned -/
def tC (ch : Nat) (C0 C : rv_Mem) (T : Nat → Bool) : Prop := (∀ k, k ≠ 0 → k ≠ 13 → (k < 100 ∨ 120 ≤ k) → C k = C0 k) ∧ (∀ h, h < 20 → ∀ j, j ≠ 5 → j ≠ 10 → j ≠ 11 → C (100 + h) j = C0 (100 + h) j) ∧ (∀ h, h < 20 → T h = true → C (100 + h) 5 = nI 2 ∧ C (100 + h) 10 = 0) ∧ (∀ h, h < 20 → T h = false → ∀ j, C (100 + h) j = C0 (100 + h) j) ∧ ∀ p, p < 6 → C 13 p = C0 13 p + nI (cn (fun h => T h && bt (rc C0 h) p) 0 ch)
def tR (ch day : Nat) (C0 R0 R : rv_Mem) (T : Nat → Bool) : Prop := (∀ k, k ≠ 13 → k ≠ 20 → k ≠ 21 → k ≠ 51 → k ≠ 52 → R k = R0 k) ∧ (∀ h, T h = true → R 13 h = nI 2 ∧ R 20 h = 0 ∧ ∃ t, t ≤ day ∧ R 21 h = nI t) ∧ (∀ h, T h = false → R 13 h = R0 13 h ∧ R 20 h = R0 20 h ∧ R 21 h = R0 21 h) ∧ (∀ p, p < 6 → R 51 p = R0 51 p + nI (cn (fun h => T h && bt (rc C0 h) p) 0 ch)) ∧ R 52 0 = nI day
theorem mlU_no {m : Nat → Int32} {S : Int32} {p : Nat} (hp : p < 6) : mlU m S (-1) 6 p = m p + nI (if bt S p = true then 1 else 0) := by
  unfold mlU
  by_cases c : bt S p = true
  · rw [if_pos ⟨hp, hp, by rw [q_no, ne_eq, q_no_eq (by omega)]; exact fun z => z, c⟩, if_pos c]; rfl
  · rw [if_neg (fun z => c z.2.2.2), if_neg c]
    exact (Int32.add_zero _).symm
theorem tC_step {n : Nat} {gh : rC_gh} {C0 R0 C : rv_Mem} {T : Nat → Bool} (hR : Rn n gh C0 R0) {h : Nat} (hh : h < gh.1 0) (hT : tC (gh.1 0) C0 C T) (hf : T h = false) : ∃ C', f11_endChange gh C (100 + h) 2 (-1) = some C' ∧ tC (gh.1 0) C0 C' (fun x => T x || decide (x = h)) ∧ C' 0 = C 0 := by
  have hc := hR.ch20
  obtain ⟨t1, t2, t3, t4, t5⟩ := hT
  obtain ⟨-, -, ⟨r, r1, r2, -⟩, -⟩ := hR.chg h hh
  have e := t4 h (by omega) hf
  obtain ⟨C', c1, c2, c3, c4, c5⟩ := s11_noteAct (gh := gh) (C := rv_u (rv_u C (100 + h) 5 2) (100 + h) 10 0) hh hc r1 (by rw [mu_ne2 (by omega), mu_ne2 (by omega), e]; exact r2) (-1)
  have w : ∀ j, j ≠ 5 → j ≠ 10 → rv_u (rv_u C (100 + h) 5 2) (100 + h) 10 0 (100 + h) j = C0 (100 + h) j := fun j h1 h2 => by rw [mu_ne2 h2, mu_ne2 h1, e]
  have o : ∀ k, k ≠ 13 → k ≠ 100 + h → C' k = C k := fun k h1 h2 => by rw [c2 k h1 h2, mu_ne h2, mu_ne h2]
  refine ⟨C', ?_, ⟨fun k h0 h1 h2 => by rw [o k h1 (by omega)]; exact t1 k h0 h1 h2, fun g hg j h1 h2 h3 => ?_, fun g hg hTg => ?_, fun g hg hTg j => ?_, fun p hp => ?_⟩, o 0 (by omega) (by omega)⟩
  · unfold f11_endChange
    rw [if_pos (is1 hh hc)]
    show rv_o1 (f11_noteAct gh (rv_u (rv_u C (100 + h) 5 2) (100 + h) 10 0) (-1) (100 + h)) (fun M5 => some M5) = _
    rw [c1]; rfl
  · by_cases eg : g = h
    · subst eg
      rw [c3 j h3, w j h1 h2]
    · rw [o _ (by omega) (by omega)]; exact t2 g hg j h1 h2 h3
  · by_cases eg : g = h
    · subst eg
      rw [c3 5 (by omega), c3 10 (by omega), mu_same, mu_ne2 (by omega), mu_same]
      exact ⟨rfl, rfl⟩
    · rw [o _ (by omega) (by omega)]
      refine t3 g hg ?_
      have : (T g || decide (g = h)) = true := hTg
      rw [decide_eq_false eg, Bool.or_false] at this
      exact this
  · have hTg : (T g || decide (g = h)) = false := hTg
    rw [Bool.or_eq_false_iff] at hTg
    have eg : g ≠ h := by simpa using hTg.2
    rw [o _ (by omega) (by omega)]
    exact t4 g hg hTg.1 j
  · have key := cn_add (p := fun x => T x && bt (rc C0 x) p) (q := fun x => (T x || decide (x = h)) && bt (rc C0 x) p) (h := h) (gh.1 0) 0 (Nat.zero_le _) (by omega) (fun j hj => by show _ = ((T j || decide (j = h)) && _); rw [decide_eq_false hj, Bool.or_false]) (by show (T h && _) = false; rw [hf]; rfl)
    rw [key, c5 p, w 9 (by omega) (by omega), w 1 (by omega) (by omega), w 7 (by omega) (by omega), w 6 (by omega) (by omega), mu_ne (show 13 ≠ 100 + h by omega), mu_ne (show 13 ≠ 100 + h by omega), mu_ne (show 12 ≠ 100 + h by omega), mu_ne (show 12 ≠ 100 + h by omega), mlU_no hp, t5 p hp, t1 12 (by omega) (by omega) (by omega), Int32.add_assoc, q_add]
    have er : rc C0 h = (C0 (100 + h) 9 ||| ((1 : Int32) <<< (C0 (100 + h) 1 &&& 31))) ||| (if rv_z (C0 (100 + h) 7) = false ∧ rv_z (C0 (100 + h) 6) = false then C0 12 r else 0) := by
      unfold rc
      rw [r2, q_nc (by omega)]
    rw [← er]
    simp
theorem tR_step {n : Nat} {gh : rC_gh} {C0 R0 R : rv_Mem} {T : Nat → Bool} {day : Nat} (hR : Rn n gh C0 R0) {h : Nat} (hh : h < gh.1 0) (hT : tR (gh.1 0) day C0 R0 R T) (hf : T h = false) : ∃ R', f12_abandons R (nI h) (-1) = some R' ∧ tR (gh.1 0) day C0 R0 R' (fun x => T x || decide (x = h)) := by
  have hc := hR.ch20
  obtain ⟨t1, t2, t3, t4, t5⟩ := hT
  obtain ⟨-, ⟨o, o1, o2, o3⟩, ⟨r, r1, r2, -⟩, -, a5, a6, -⟩ := hR.chg h hh
  have hM : ∀ k, k ≠ 13 → k ≠ 20 → k ≠ 21 → k ≠ 51 → k ≠ 52 → rv_u (rv_u R 13 h 2) 20 h 0 k = R0 k := fun k h1 h2 h3 h4 h5 => by rw [mu_ne h2, mu_ne h1]; exact t1 k h1 h2 h3 h4 h5
  obtain ⟨R', g1, g2, g3, g4, g5⟩ := s12_tells (M := rv_u (rv_u R 13 h 2) 20 h 0) (h := h) (r := r) (by omega) (hR.rvM (fun k hk => hM k (by omega) (by omega) (by omega) (by omega) (by omega)) hh) (hR.repoM (fun k hk => hM k (by omega) (by omega) (by omega) (by omega) (by omega)) hh r2 r1) r1 (-1)
  refine ⟨R', ?_, fun k h1 h2 h3 h4 h5 => by rw [g2 k h4 h3, hM k h1 h2 h3 h4 h5], fun g hTg => ?_, fun g hTg => ?_, fun p hp => ?_, by rw [g2 52 (by omega) (by omega), mu_ne (by omega), mu_ne (by omega)]; exact t5⟩
  · unfold f12_abandons
    have hin : rv_in (nI h) 20 = true := q_inb (by omega) (by omega)
    simp only [hin, if_true, lt_do, q_nc (show h < 2147483648 by omega), g1, o1_some]
  · by_cases eg : g = h
    · subst eg
      rw [g2 13 (by omega) (by omega), g2 20 (by omega) (by omega), g4, mu_ne (by omega), mu_same, mu_same, mu_ne (by omega), mu_ne (by omega), t5]
      exact ⟨rfl, rfl, day, Nat.le_refl _, rfl⟩
    · have hTg : (T g || decide (g = h)) = true := hTg
      rw [decide_eq_false eg, Bool.or_false] at hTg
      rw [g2 13 (by omega) (by omega), g2 20 (by omega) (by omega), g5 g eg, mu_ne (by omega), mu_ne2 eg, mu_ne2 eg, mu_ne (by omega), mu_ne (by omega), mu_ne (by omega)]
      exact t2 g hTg
  · have hTg : (T g || decide (g = h)) = false := hTg
    rw [Bool.or_eq_false_iff] at hTg
    have eg : g ≠ h := by simpa using hTg.2
    rw [g2 13 (by omega) (by omega), g2 20 (by omega) (by omega), g5 g eg, mu_ne (by omega), mu_ne2 eg, mu_ne2 eg, mu_ne (by omega), mu_ne (by omega), mu_ne (by omega)]
    exact t3 g hTg.1
  · have key := cn_add (p := fun x => T x && bt (rc C0 x) p) (q := fun x => (T x || decide (x = h)) && bt (rc C0 x) p) (h := h) (gh.1 0) 0 (Nat.zero_le _) (by omega) (fun j hj => by show _ = ((T j || decide (j = h)) && _); rw [decide_eq_false hj, Bool.or_false]) (by show (T h && _) = false; rw [hf]; rfl)
    have er : rc C0 h = (C0 (100 + h) 9 ||| ((1 : Int32) <<< (R0 12 h &&& 31))) ||| (if rv_z (R0 16 h) = false ∧ rv_z (R0 15 h) = false then R0 50 r else 0) := by
      unfold rc
      rw [r2, q_nc (by omega), a5, a6, o2, o3, hR.mis.1 r r1]
    rw [key, g3 p, hM 12 (by omega) (by omega) (by omega) (by omega) (by omega), hM 16 (by omega) (by omega) (by omega) (by omega) (by omega), hM 15 (by omega) (by omega) (by omega) (by omega) (by omega), hM 50 (by omega) (by omega) (by omega) (by omega) (by omega), ← er, mu_ne (show 51 ≠ 20 by omega), mu_ne (show 51 ≠ 13 by omega), mlU_no hp, t4 p hp, Int32.add_assoc, q_add]
    simp
/-- where both have the same abandoned, they are alike -/
theorem Rn_end {n : Nat} {gh : rC_gh} {C0 R0 C R : rv_Mem} {T : Nat → Bool} {day : Nat} (hR : Rn n gh C0 R0) (hC : tC (gh.1 0) C0 C T) (hT : tR (gh.1 0) day C0 R0 R T) (ho : ∀ h, T h = true → h < gh.1 0 ∧ R0 13 h = nI 0) (hd : day ≤ 10000) (hd0 : (R0 52 0).toNatClampNeg ≤ day) (h0 : C 0 11 = nI day) : Rn n gh C R := by
  have hc20 := hR.ch20
  obtain ⟨c1, c2, c3, c4, c5⟩ := hC
  obtain ⟨r1, r2, r3, r4, r5⟩ := hT
  have e := fun k (h : k ≤ 12 ∨ (14 ≤ k ∧ k ≤ 19) ∨ (22 ≤ k ∧ k ≤ 50) ∨ k = 64) => r1 k (by omega) (by omega) (by omega) (by omega) (by omega)
  have c := fun k (h1 : k ≠ 0) (h2 : k ≠ 13) (h3 : k < 100 ∨ 120 ≤ k) => c1 k h1 h2 h3
  have efl : ∀ c f, fl R c f = fl R0 c f := fun c f => by unfold fl; rw [e 3 (by omega), e 4 (by omega)]
  have eki : ∀ c, kindS n R c = kindS n R0 c := fun c => by unfold kindS; simp only [e 2 (by omega), e 5 (by omega), e 6 (by omega), efl]
  have epa : ∀ q, parS n R q = parS n R0 q := fun q => by unfold parS curS; rw [e 2 (by omega), e 5 (by omega), e 6 (by omega), e 14 (by omega)]
  refine ⟨?_, by rw [c 14 (by omega) (by omega) (by omega), c 15 (by omega) (by omega) (by omega), e 3 (by omega), e 4 (by omega)]; exact hR.fil, by rw [c 16 (by omega) (by omega) (by omega), c 17 (by omega) (by omega) (by omega), c 18 (by omega) (by omega) (by omega), e 1 (by omega), e 2 (by omega), e 8 (by omega)]; exact hR.bas, by rw [c 22 (by omega) (by omega) (by omega), c 51 (by omega) (by omega) (by omega), e 1 (by omega), e 9 (by omega), e 10 (by omega)]; exact hR.tip, ?_, ?_, ?_, ?_, ?_, ?_, ?_, ?_, ?_, ?_, ?_, ?_, ?_, hR.ok⟩
  · obtain ⟨b1, b2, b3, b4, b5, b6, b7, b8, b9, b10⟩ := hR.cnt
    exact ⟨b1, by rw [c 1 (by omega) (by omega) (by omega)]; exact b2, by rw [e 0 (by omega)]; exact b3, b4, by rw [e 11 (by omega)]; exact b5, b6, by rw [e 24 (by omega)]; exact b7, b8, by rw [e 34 (by omega)]; exact b9, by rw [e 64 (by omega)]; exact b10⟩
  · rw [c 19 (by omega) (by omega) (by omega), c 20 (by omega) (by omega) (by omega), e 5 (by omega), e 6 (by omega), e 7 (by omega), e 14 (by omega)]
    intro x hx
    rcases hR.own x hx with a | ⟨q, s, p, a1, a2⟩
    · exact Or.inl a
    · exact Or.inr ⟨q, s, p, a1, by rw [c (120 + q) (by omega) (by omega) (by omega)]; exact a2⟩
  · rw [e 5 (by omega), e 6 (by omega), e 14 (by omega)]
    obtain ⟨s1, s2⟩ := hR.set
    refine ⟨fun q hq => ?_, fun q hq hq2 => by rw [c 23 (by omega) (by omega) (by omega)]; exact s2 q hq hq2⟩
    rw [c (120 + q) (by omega) (by omega) (by omega), c2 q (by omega) 4 (by omega) (by omega) (by omega), c 23 (by omega) (by omega) (by omega)]
    exact s1 q hq
  · rw [chg_iff]
    intro q hq
    obtain ⟨a1, a2, ⟨r, x1, x2, x3, x4⟩, ⟨s, s1, s2, s3⟩, a5, a6, a7, a8, d, d1, d2, d3⟩ := hR.chg q hq
    unfold chg1
    rw [c2 q (by omega) 0 (by omega) (by omega) (by omega), c2 q (by omega) 1 (by omega) (by omega) (by omega), c2 q (by omega) 2 (by omega) (by omega) (by omega), c2 q (by omega) 6 (by omega) (by omega) (by omega), c2 q (by omega) 7 (by omega) (by omega) (by omega), c2 q (by omega) 8 (by omega) (by omega) (by omega), c2 q (by omega) 12 (by omega) (by omega) (by omega), e 12 (by omega), e 5 (by omega), e 1 (by omega), e 18 (by omega), e 15 (by omega), e 16 (by omega), e 17 (by omega), r5, q_nc (by omega)]
    cases hTq : T q with
    | true =>
      obtain ⟨y1, y2, t, y3, y4⟩ := r2 q hTq
      obtain ⟨z1, z2⟩ := c3 q (by omega) hTq
      rw [y1, y2, y4, z1, z2]
      refine ⟨a1, a2, ⟨r, x1, x2, x3, fun z => ?_⟩, ⟨2, by omega, rfl, rfl⟩, a5, a6, a7, rfl, t, y3, rfl, fun z => absurd rfl z⟩
      rw [q_eq (by omega) (by omega)] at z; omega
    | false =>
      obtain ⟨y1, y2, y3⟩ := r3 q hTq
      have z := c4 q (by omega) hTq
      rw [y1, y2, y3, z 5, z 10, z 11]
      exact ⟨a1, a2, ⟨r, x1, x2, x3, x4⟩, ⟨s, s1, s2, s3⟩, a5, a6, a7, a8, d, by omega, d2, d3⟩
  · intro q h1 h2
    have hTq : T q = false := by
      cases hTq : T q with
      | false => rfl
      | true =>
        have := (ho q hTq).1; omega
    obtain ⟨y1, y2, y3⟩ := r3 q hTq
    rw [e 15 (by omega), e 16 (by omega), e 19 (by omega), y2]
    exact hR.nw q h1 h2
  · have a := hR.par
    unfold A_par at a ⊢
    simp only [epa]
    rw [e 5 (by omega), e 9 (by omega)]
    obtain ⟨a1, F, a2, a3⟩ := a
    refine ⟨a1, F, a2, fun g hg => ⟨?_, (a3 g hg).2⟩⟩
    have h1 := (a3 g hg).1
    have hTg : T g = false := by
      cases hTg : T g with
      | false => rfl
      | true =>
        have := (ho g hTg).2
        rw [h1, q_eq (by omega) (by omega)] at this
        omega
    rw [(r3 g hTg).1]; exact h1
  · intro x hx hox
    rw [c 21 (by omega) (by omega) (by omega), eki]
    rw [e 5 (by omega)] at hox
    exact hR.kin x hx hox
  · intro q hq i hi
    rw [c2 q (by omega) 9 (by omega) (by omega) (by omega)]
    have a := hR.rev q hq i hi
    unfold revB at a ⊢
    rw [e 5 (by omega), e 12 (by omega), e 19 (by omega), e 22 (by omega), e 25 (by omega), e 26 (by omega), e 32 (by omega)]
    exact a
  · rw [c 41 (by omega) (by omega) (by omega), c 42 (by omega) (by omega) (by omega), e 22 (by omega), e 23 (by omega)]; exact hR.vot
  · have hcm := hR.cnt.2.2.2.2.2.1
    intro j hj
    have o7 := (hR.cmt j hj).2.2.2.2.1
    have ge := ok_pl2 o7
    rw [c (200 + j) (by omega) (by omega) (by omega), c (gh.2 (200 + j)) (by omega) (by omega) (by omega), e 25 (by omega), e 31 (by omega), e 33 (by omega), e 32 (by omega), e 14 (by omega), e 26 (by omega), e 27 (by omega), e 28 (by omega), e 29 (by omega), e 30 (by omega), e 3 (by omega), e 5 (by omega), e 6 (by omega)]
    exact hR.cmt j hj
  · intro j hj
    rw [c (500 + j) (by omega) (by omega) (by omega), c (400 + j) (by omega) (by omega) (by omega), e 14 (by omega), e 35 (by omega), e 36 (by omega), e 37 (by omega), e 38 (by omega), e 39 (by omega), e 40 (by omega), e 3 (by omega), e 5 (by omega), e 6 (by omega)]
    exact hR.fnd j hj
  · have := hR.ols
    unfold A_ols at this ⊢
    rw [c 48 (by omega) (by omega) (by omega), c 49 (by omega) (by omega) (by omega), c 50 (by omega) (by omega) (by omega), c 5 (by omega) (by omega) (by omega), e 41 (by omega), e 42 (by omega), e 43 (by omega), e 44 (by omega)]; exact this
  · have := hR.rul
    unfold A_rul at this ⊢
    rw [c 4 (by omega) (by omega) (by omega), c 43 (by omega) (by omega) (by omega), c 44 (by omega) (by omega) (by omega), c 45 (by omega) (by omega) (by omega), c 46 (by omega) (by omega) (by omega), c 47 (by omega) (by omega) (by omega), e 45 (by omega), e 46 (by omega), e 47 (by omega), e 48 (by omega), e 49 (by omega)]; exact this
  · refine ⟨fun r hr => by rw [c 12 (by omega) (by omega) (by omega), e 50 (by omega)]; exact hR.mis.1 r hr, fun p hp => ?_, day, hd, h0, r5⟩
    rw [c5 p hp, r4 p hp, hR.mis.2.1 p hp]
