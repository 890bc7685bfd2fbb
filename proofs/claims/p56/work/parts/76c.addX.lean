/-! A NEW PATCH SET, WITH WHAT STANDS BETWEEN -/
theorem Rn_addX {n : Nat} {gh gh' : rC_gh} {C C0 R R0 Rc : rv_Mem} (hR : Rn n gh C R) (hn : n < 80) {s b r h k p d : Nat} {a3 : Int32} (hs : 80 ≤ s) (hs2 : s < 82) (hb : b < n) (hr : r < 2) (hrb : R 1 b = nI r) (hp : p < 6)
    (hC0 : ∀ q, q ≠ 100 + h → q ≠ 120 + h → C0 q = C q) (h120 : ∀ j, j < k → C0 (120 + h) j = C (120 + h) j) (hc4 : C0 (100 + h) 4 = nI k)
    (hR0 : ∀ q, q ≤ 52 → ¬ (q = 11 ∨ q = 12 ∨ q = 13 ∨ q = 14 ∨ q = 17) → R0 q = R q) (hRx : ∀ q x, q = 12 ∨ q = 13 ∨ q = 14 ∨ q = 17 → x ≠ h → R0 q x = R q x) (h14 : R0 14 h = nI k) (h11 : R0 11 0 = nI (gh'.1 0)) (h64 : rv_z (R0 64 0) = false)
    (hcp : f12_copies R0 a3 81 = some Rc) (hRc : ∀ q, q ≠ 3 → q ≠ 4 → Rc q = R0 q) (h3 : ∀ i, i < 324 → Rc 3 i = R 3 i) (h4 : ∀ i, i < 3240 → Rc 4 i = R 4 i) (hrow : rowOK s 81 C0 Rc)
    (hG : putG h k (gh.1 0) (gh'.1 0) R) (g1 : gh'.1 1 = gh.1 1) (g2 : gh'.1 2 = gh.1 2) (g3 : ∀ j, gh'.2 (200 + j) = gh.2 (200 + j)) (g4 : rC_ok gh' = true)
    (f0 : C0 (100 + h) 0 = nI h) (f1 : ∃ o, o < 6 ∧ C0 (100 + h) 1 = nI o ∧ R0 12 h = nI o) (f2 : C0 (100 + h) 2 = nI r) (f5 : C0 (100 + h) 5 = nI 0 ∧ R0 13 h = nI 0) (f6 : rv_z (C0 (100 + h) 6) = rv_z (R0 15 h)) (f7 : rv_z (C0 (100 + h) 7) = rv_z (R0 16 h)) (f8 : C0 (100 + h) 8 = R0 17 h ∧ (R0 17 h = NO ∨ ∃ t, t < 4 ∧ R0 17 h = nI t)) (f10 : C0 (100 + h) 10 = R0 20 h) (f11 : d ≤ (R 52 0).toNatClampNeg ∧ C0 (100 + h) 11 = nI d)
    (hrep : ∀ c, c < n → R 5 c = nI h → R 1 c = nI r) (hrev : ∀ i, i < 32 → bt (C0 (100 + h) 9) i = revB n (gh.1 1) (R 5) (R0 12) (R 19) (R 22) (R 25) (R 26) (R 32) h i) (hop : h < gh.1 0 → R 13 h ≠ nI 1) (h21 : h < gh.1 0 → R 21 h = nI d) (hno : ∀ e, pch (parS n R) (R 5 b) e ≠ nI h) :
    ∃ C2 R2 C3 T E1 Rm, f11_addSet gh' C0 (nI p) (100 + h) (nI s) (nI b) = some (nI k, C2) ∧ f12_uploads R0 (nI p) (nI h) a3 (nI b) = some (nI k, R2) ∧ Rn (n + 1) gh' C2 R2 ∧ R2 66 = R0 66 ∧ Rn (n + 1) gh' C3 T ∧ f12_tells T (nI h) (nI p) = some E1 ∧ f12_turnsOn E1 (nI h) (nI p) (!true) = some R2 ∧ f12_makes Rc (nI r) (nI b) = some (nI n, Rm) ∧ ∀ q, q ≠ 21 → T q = st3R Rm n h p k q := by
  have hn2 := hR.cnt.1.1
  have hc20 := hR.ch20
  have hle : gh.1 0 ≤ gh'.1 0 ∧ gh'.1 0 ≤ 20 ∧ h < gh'.1 0 ∧ k < 80 := by
    rcases hG with ⟨a, b, c, d⟩ | ⟨a, b, c, d⟩
    · have := hR.setsn a c d
      exact ⟨by omega, by omega, by omega, by omega⟩
    · exact ⟨by omega, by omega, by omega, by omega⟩
  obtain ⟨l1, l2, l3, l4⟩ := hle
  -- the commit
  have h64c : rv_z (Rc 64 0) = false := by rw [hRc 64 (by omega) (by omega)]; exact h64
  obtain ⟨C1, R1, m1, m2, m3, m4, m5, m6, m7, m8, m9, m10, m11, m12⟩ := Rn_make (gh0 := gh') (C0 := C0) (R0 := Rc) hR hn (s := s) (b := b) (r := r) hs2 (by omega) hb hr hrb (fun q hq => hC0 q (by omega) (by omega)) (fun q hq hq2 => by rw [hRc q (by omega) (by omega), hR0 q (by omega) hq2]) h3 h4 h64c hrow
  -- rows of files after the commit, and the kind
  have fC1 : ∀ c, c < n + 1 → ∀ f, f < 4 → fileC C1 c f (fl (mixR R1 R) c f) := fun c hc f hf => by
    have := (fil_files m5.fil (Or.inl hc) hf).1
    unfold fileC at this ⊢
    rw [mixC_lt (by omega), mixC_lt (by omega)] at this
    exact this
  have kind : ∃ Ck kd, (rv_o2 (f9_addCommit gh' C0 (nI s) (nI r) (nI b)) (fun r5 M6 => (if C0 23 h = (-1) then f11_addSet_50 gh' M6 (nI p) (100 + h) r5 0 else rv_o2 (f2_kindBetween gh' M6 (C0 23 h) r5) (fun r8 M9 => f11_addSet_50 gh' M9 (nI p) (100 + h) r5 r8)))) = f11_addSet_50 gh' Ck (nI p) (100 + h) (nI n) kd ∧ cfr Ck C1 ∧ (∀ R', (∀ q, q ≤ 4 → R' q = R1 q) → (∀ c, c < n → R' 5 c = R 5 c) → (∀ c, c < n → R' 6 c = R 6 c) → R' 5 n = nI h → R' 6 n = nI k → kd = kindS (n + 1) R' n) := by
    rw [m1, o2_some]
    rcases hG with ⟨a, a2, a3, a4⟩ | ⟨a, a2, a3, a4⟩
    · obtain ⟨k', c, k1, k2, k3, k4, c1, c2, c3, c4, c5, c6, c7, c8⟩ := hR.cur a
      have : k' = k := by
        rw [a4, q_eq (by omega) (by omega)] at k3; exact k3.symm
      subst this
      obtain ⟨x, x1, x2, x3, x4⟩ := hR.base c1 c2
      have e17 : C1 17 c = nI x := by rw [m12 c (by omega), hC0 17 (by omega) (by omega)]; exact x2
      obtain ⟨Ck, s1, s2⟩ := s2_kind (gh := gh') (C := C1) (c1 := c) (c2 := n) (b1 := x) (b2 := b) (by omega) (by omega) (by omega) (by omega) e17 m10 (fC1 c (by omega)) (fC1 n (by omega)) (fC1 x (by omega)) (fC1 b (by omega))
      have e23 : C0 23 h = nI c := by rw [hC0 23 (by omega) (by omega)]; exact c3
      refine ⟨Ck, _, by rw [e23, q_no, if_neg (by rw [q_no_eq (by omega)]; exact fun z => z), s1, o2_some], s2, fun R' y1 y2 y3 y5 y6 => ?_⟩
      have efl : ∀ c f, fl R' c f = fl (mixR R1 R) c f := fun c f => by
        unfold fl
        rw [y1 3 (by omega), y1 4 (by omega), mixR_b (by omega), mixR_b (by omega)]
      obtain ⟨k0, rfl⟩ : ∃ k0, k' = k0 + 1 := ⟨k' - 1, by omega⟩
      have r2c : R' 2 c = nI x := by
        rw [y1 2 (by omega), m11 2 c (by omega) (by omega), hRc 2 (by omega) (by omega), hR0 2 (by omega) (by omega)]; exact x3
      have hm : mAt (n + 1) (R' 5) (R' 6) (nI h) (nI k0) = nI c := by
        rw [mAt_ge y2 y3 (fun z => by
          rw [y6, q_eq (by omega) (by omega)] at z
          omega)]
        have := c7
        unfold curS at this
        rw [a4, q_1, q_sub (by omega), Nat.add_sub_cancel] at this
        exact this
      rw [kindS_new (c := n) (b := c) (x := b) (y := x) (h := h) (s := k0) y5 y6 (by omega) hm (by omega) (by rw [y1 2 (by omega)]; exact m8) r2c (by omega) (by omega)]
      simp only [efl]
    · have e23 : C0 23 h = NO := by rw [hC0 23 (by omega) (by omega)]; exact hR.set.2 h (by omega) (by omega)
      refine ⟨C1, 0, by rw [e23, q_no, if_pos rfl], fun _ _ _ _ => rfl, fun R' y1 y2 y3 y5 y6 => ?_⟩
      unfold kindS
      rw [y6, a3, if_pos (show nI 0 = 0 from rfl)]
  obtain ⟨Ck, kd, t1, t2, t3⟩ := kind
  -- the states before turns
  have kC : ∀ q, 100 ≤ q → Ck q = C0 q := fun q hq => by rw [t2 q (by omega) (by omega) (by omega), m2 q (by omega) (by omega)]
  obtain ⟨pc, pc21, pcj⟩ := st3C_put (n := n) (h := h) (k := k) (ch := gh'.1 0) (p := p) (M := Ck) (kd := kd) (by omega)
  generalize hC3 : st3C Ck n h p k kd = C3 at pc pc21 pcj
  obtain ⟨sr1, sr2, sr3, sr4, sr5, sr6, sr7⟩ := st3R_f (n := n) (h := h) (k := k) (p := p) (M := R1)
  generalize hR3 : st3R R1 n h p k = R3 at sr1 sr2 sr3 sr4 sr5 sr6 sr7
  obtain ⟨pc1, pc2, pc3, pc4, pc5, pc6, pc7, pc8, pc9⟩ := pc
  -- the base state
  have hS0 : Rn (n + 1) gh (mixC Ck C) (mixR R1 R) := Rn_cmp m5 (fun q q1 q2 q3 => by
    by_cases hq : q < 100
    · rw [mixC_lt hq, mixC_lt hq, t2 q q1 q2 q3]
    · rw [mixC_ge hq, mixC_ge hq])
  have hS : Rn (n + 1) gh (mixC Ck C) (rv_u (mixR R1 R) 21 h (nI d)) := by
    refine Rn_21 (fun q hq => mu_ne hq) (fun x hx => ?_) hS0
    by_cases e : x = h
    · subst e
      rw [mu_same, mixR_b (by omega), m4 21 (by omega), hRc 21 (by omega) (by omega), hR0 21 (by omega) (by omega), h21 hx]
    · rw [mu_ne2 e]
  generalize hB : rv_u (mixR R1 R) 21 h (nI d) = B at hS
  have bB : ∀ q, q ≠ 21 → B q = mixR R1 R q := fun q hq => by rw [← hB, mu_ne hq]
  have bR : ∀ q, 9 ≤ q → q ≤ 52 → q ≠ 21 → B q = R q := fun q y1 y2 y3 => by
    rw [bB q y3]
    by_cases hq : q = 11 ∨ q = 12 ∨ q = 13 ∨ q = 14 ∨ q = 17
    · rw [mixR_a hq]
    · rw [mixR_b hq, m4 q (by omega), hRc q (by omega) (by omega), hR0 q (by omega) hq]
  generalize hT : rv_u R3 21 h (nI d) = T
  have tT : ∀ q, q ≠ 21 → T q = R3 q := fun q hq => by rw [← hT, mu_ne hq]
  have t0 : ∀ q, 9 ≤ q → q ≠ 21 → q ≠ 14 → T q = R0 q := fun q y1 y2 y3 => by
    rw [tT q y2, sr1 q (by omega) (by omega) (by omega) y3, m4 q (by omega), hRc q (by omega) (by omega)]
  have hB5 : B 5 n = NO := by rw [bB 5 (by omega), mixR_b (by omega)]; exact m7
  have old5 : ∀ q c, q = 1 ∨ q = 2 ∨ q = 5 ∨ q = 8 → c < n → R1 q c = R q c := fun q c hq hc => by rw [m11 q c hq (by omega), hRc q (by omega) (by omega), hR0 q (by omega) (by omega)]
  have old6 : ∀ q, q = 6 ∨ q = 7 → R1 q = R q := fun q hq => by rw [m4 q (by omega), hRc q (by omega) (by omega), hR0 q (by omega) (by omega)]
  have t5 : ∀ c, c < n → T 5 c = R 5 c := fun c hc => by rw [tT 5 (by omega), sr2 5 c (by omega) (by omega) (by omega), old5 5 c (by omega) hc]
  have t6 : ∀ c, c < n → T 6 c = R 6 c := fun c hc => by rw [tT 6 (by omega), sr2 6 c (by omega) (by omega) (by omega), old6 6 (by omega)]
  have t1' : ∀ c, c < n → T 1 c = R 1 c := fun c hc => by rw [tT 1 (by omega), sr1 1 (by omega) (by omega) (by omega) (by omega), old5 1 c (by omega) hc]
  have hG' : putG h k (gh.1 0) (gh'.1 0) B := by
    unfold putG at hG ⊢
    rw [bR 14 (by omega) (by omega) (by omega)]; exact hG
  have hP : putR n h k (gh'.1 0) B T p := by
    refine ⟨fun q y0 y5 y6 y7 y11 y12 y13 y14 y17 => ?_, fun q c q5 q7 hc => ?_, fun q x hq hx => ?_, by rw [tT 5 (by omega)]; exact sr4, by rw [tT 6 (by omega)]; exact sr5, by rw [tT 7 (by omega)]; exact sr6, by rw [tT 14 (by omega)]; exact sr7, by rw [t0 11 (by omega) (by omega) (by omega)]; exact h11, by rw [t0 64 (by omega) (by omega) (by omega)]; exact h64⟩
    · by_cases e : q = 21
      · subst e
        funext x
        rw [← hT, ← hB]
        by_cases ex : x = h
        · subst ex; rw [mu_same, mu_same]
        · rw [mu_ne2 ex, mu_ne2 ex, mixR_b (by omega), sr1 21 (by omega) (by omega) (by omega) (by omega)]
      · rw [tT q e, bB q e, mixR_b (by omega), sr1 q y5 y6 y7 y14]
    · rw [tT q (by omega), bB q (by omega), mixR_b (by omega), sr2 q c q5 q7 hc]
    · rw [bR q (by omega) (by omega) (by omega)]
      by_cases e : q = 14
      · subst e
        rw [tT 14 (by omega), sr3 x hx, m4 14 (by omega), hRc 14 (by omega) (by omega), hRx 14 x (by omega) hx]
      · rw [t0 q (by omega) (by omega) e, hRx q x hq hx]
  have hQ : putC n h k (gh'.1 0) (mixC Ck C) C3 p := by
    refine ⟨fun q y1 y2 y3 y4 y5 y6 => ?_, fun c hc => by rw [mixC_lt (by omega), mixC_lt (by omega), mixC_lt (by omega)]; exact pc2 c hc, fun x hx => by rw [mixC_lt (by omega)]; exact pc3 x hx, fun j hj => ?_, pc5, pc6, pc7, pc8, pc9⟩
    · rw [pc1 q y1 y2 y3 y4 y5 y6]
      by_cases hq : q < 100
      · rw [mixC_lt hq]
      · rw [mixC_ge hq, kC q (by omega), hC0 q y5 y6]
    · rw [pc4 j hj, mixC_ge (by omega), kC _ (by omega), h120 j hj]
  have hc3 : ∀ j, j ≠ 4 → C3 (100 + h) j = C0 (100 + h) j := fun j hj => by rw [pcj j hj, kC _ (by omega)]
  have hchg : chg1 (n + 1) h (C3 (100 + h)) T := by
    unfold chg1
    rw [hc3 0 (by omega), hc3 1 (by omega), hc3 2 (by omega), hc3 5 (by omega), hc3 6 (by omega), hc3 7 (by omega), hc3 8 (by omega), hc3 10 (by omega), hc3 11 (by omega), hc3 12 (by omega), t0 12 (by omega) (by omega) (by omega), t0 13 (by omega) (by omega) (by omega), t0 15 (by omega) (by omega) (by omega), t0 16 (by omega) (by omega) (by omega), t0 17 (by omega) (by omega) (by omega), t0 20 (by omega) (by omega) (by omega), t0 52 (by omega) (by omega) (by omega)]
    refine ⟨f0, f1, ⟨r, hr, f2, fun c hc h5 => ?_, fun z => ?_⟩, ⟨0, by omega, f5⟩, f6, f7, f8, f10, d, by rw [hR0 52 (by omega) (by omega)]; exact f11.1, by rw [← hT, mu_same], fun _ => f11.2⟩
    · by_cases e : c = n
      · subst e
        rw [tT 1 (by omega), sr1 1 (by omega) (by omega) (by omega) (by omega)]; exact m9
      · rw [t1' c (by omega)]
        rw [t5 c (by omega)] at h5
        exact hrep c (by omega) h5
    · rw [f5.2, q_eq (by omega) (by omega)] at z; omega
  have hrv' : ∀ i, i < 32 → bt (C3 (100 + h) 9) i = revB (n + 1) (gh.1 1) (T 5) (T 12) (T 19) (T 22) (T 25) (T 26) (T 32) h i := fun i hi => by
    rw [hc3 9 (by omega), hrev i hi, t0 12 (by omega) (by omega) (by omega), t0 19 (by omega) (by omega) (by omega), t0 22 (by omega) (by omega) (by omega), t0 25 (by omega) (by omega) (by omega), t0 26 (by omega) (by omega) (by omega), t0 32 (by omega) (by omega) (by omega), hR0 19 (by omega) (by omega), hR0 22 (by omega) (by omega), hR0 25 (by omega) (by omega), hR0 26 (by omega) (by omega), hR0 32 (by omega) (by omega)]
    unfold revB
    rw [any_succ, any_congr (n := n) (fun c hc => by rw [← t5 c hc])]
    have vz : (decide (T 5 n = nI h) && decide (i < 6) && (decide (R 22 (12 * n + 2 * i) ≠ 0) || decide (R 22 (12 * n + 2 * i + 1) ≠ 0))) = false := by
      by_cases h6 : i < 6
      · have v0 := fun l (hl : l < 2) => (hR.vot.1 n l i hn hl h6)
        rcases v0 0 (by omega) with ⟨v, -⟩ | ⟨v, -⟩
        · rcases v0 1 (by omega) with ⟨w, -⟩ | ⟨w, -⟩
          · rw [Nat.add_zero] at v
            have v : R 22 (12 * n + 2 * i) = 0 := v
            have w : R 22 (12 * n + 2 * i + 1) = 0 := w
            rw [v, w]; simp
          · omega
        · omega
      · simp [h6]
    rw [vz, Bool.or_false]
  have hpar : A_par (n + 1) (gh'.1 0) T := by
    refine put_A_par hS hn2 hB5 hG' hP (fun r0 hr0 => ?_) (fun z => by rw [bR 13 (by omega) (by omega) (by omega)]; exact hop z) (fun e => ?_)
    · obtain ⟨⟨t, t1, t2, t3, t4⟩, -⟩ := hR.tip r0 hr0
      rw [bR 9 (by omega) (by omega) (by omega), t3, Ne, q_eq (by omega) (by omega)]; omega
    · have hval : R 5 b = NO ∨ ∃ g, g < gh.1 0 ∧ R 5 b = nI g := by
        rcases hR.own b hb with ⟨-, z⟩ | ⟨g, s', p', o1, -, -, o3, -⟩
        · exact Or.inl z
        · exact Or.inr ⟨g, o1, o3⟩
      have hf : ∀ g, g < gh.1 0 → parS n R g = NO ∨ ∃ g', g' < gh.1 0 ∧ parS n R g = nI g' := fun g hg => by
        obtain ⟨y, -, -, y3, y4⟩ := hR.parent hg
        rw [y3]; exact y4
      have e2 : B 5 (B 2 n).toNatClampNeg = R 5 b := by
        rw [bB 2 (by omega), bB 5 (by omega), mixR_b (by omega), mixR_b (by omega), m8, q_nc (by omega), old5 5 b (by omega) hb]
      have bp : ∀ g, g < gh.1 0 → parS (n + 1) B g = parS n R g := fun g hg => by
        rw [← m6 g hg]
        unfold parS curS
        rw [bB 2 (by omega), bB 5 (by omega), bB 6 (by omega), bB 14 (by omega)]
      rw [e2, (pch_cong hval hc20 hf bp e).1]
      exact hno e
  have hST : Rn (n + 1) gh' C3 T := Rn_setM hS hn2 hB5 (fun x hx z => by
    rw [bR 13 (by omega) (by omega) (by omega)] at z
    rw [bR 18 (by omega) (by omega) (by omega)]
    obtain ⟨-, -, ⟨_, -, -, -, a5⟩, -⟩ := hR.chg x hx
    obtain ⟨c, c1, -, c3, -⟩ := a5 z
    rw [c3, Ne, q_eq (by omega) (by omega)]; omega) hG' l4 hp hP hQ g1 g2 g3 g4 hchg hrv' hpar (by
    rw [pc21]
    exact t3 T (fun q hq => by rw [tT q (by omega), sr1 q (by omega) (by omega) (by omega) (by omega)]) t5 t6 (by rw [tT 5 (by omega)]; exact sr4) (by rw [tT 6 (by omega)]; exact sr5))
  obtain ⟨D1, D2, E1, E2, u1, u2, u3, u4, u5, u6, u7, u8⟩ := Rn_pass hST l3 hp true
  refine ⟨D2, E2, C3, T, E1, R1, ?_, ?_, u5, by rw [u6, t0 66 (by omega) (by omega) (by omega)], hST, u3, u4, m3, fun q hq => by rw [tT q hq, ← hR3]⟩
  · unfold f11_addSet f9_currentOf
    rw [if_pos (is1 l3 l2), f0, s9_read (L := 20) (show h < 20 by omega) rfl rfl (by omega), o1_some, o1_some, f2, t1]
    have k3 : Ck (100 + h) 4 = nI k := by rw [kC _ (by omega)]; exact hc4
    have e1 : f9_makeSet gh' Ck (nI n) (nI h) (nI p) kd = some (rv_u (rv_u (rv_u (rv_u Ck 19 n (nI h)) 20 n (nI p)) 21 n kd) 23 h (nI n)) := by
      unfold f9_makeSet
      rw [s9_write (L := 82) (show n < 82 by omega) rfl rfl (by omega), o1_some, s9_write (L := 82) (show n < 82 by omega) rfl rfl (by omega), o1_some, s9_write (L := 82) (show n < 82 by omega) rfl rfl (by omega), o1_some, s9_write (L := 20) (show h < 20 by omega) rfl rfl (by omega), o1_some]
    have e2 : f0_addCommit gh' (rv_u (rv_u (rv_u (rv_u Ck 19 n (nI h)) 20 n (nI p)) 21 n kd) 23 h (nI n)) (100 + h) (nI n) = some C3 := by
      unfold f0_addCommit
      have e4 : (rv_u (rv_u (rv_u (rv_u Ck 19 n (nI h)) 20 n (nI p)) 21 n kd) 23 h (nI n)) (100 + h) 4 = nI k := by
        rw [mu_ne (by omega), mu_ne (by omega), mu_ne (by omega), mu_ne (by omega)]; exact k3
      rw [if_pos (is1 l3 l2), e4, q_80, if_pos (by rw [q_lt (by omega) (by omega)]; exact l4), if_pos (q_inb l4 (by omega)), q_nc (by omega), lt_do]
      rw [mu_ne (by omega), e4, q_succ, lt_do, ← hC3, show 100 + h + 20 = 120 + h by omega]
      rfl
    unfold f11_addSet_50
    have k0 : Ck (100 + h) 0 = nI h := by rw [kC _ (by omega)]; exact f0
    rw [if_pos (is1 l3 l2), k0, e1, o1_some, e2, o1_some, u1, o1_some, u2, o1_some, u7, pc9, q_1, q_sub (by omega), Nat.add_sub_cancel]
  · have hRc1 : Rc 1 b = nI r := by rw [hRc 1 (by omega) (by omega), hR0 1 (by omega) (by omega)]; exact hrb
    have r14 : R1 14 h = nI k := by rw [m4 14 (by omega), hRc 14 (by omega) (by omega)]; exact h14
    have htell : f12_tells R3 (nI h) (nI p) = some E1 := by
      rw [← u3, ← hT]
      have kr : ∀ (M : rv_Mem), (∀ q, q ≠ 21 → M q = R3 q) → f12_reviewersOf M (nI h) = some (C3 (100 + h) 9) ∧ f12_repoOf M (nI h) = some (nI r) := fun M hM => ⟨hST.rvM (fun q hq => by rw [hM q (by omega), tT q (by omega)]) l3, hST.repoM (fun q hq => by rw [hM q (by omega), tT q (by omega)]) l3 (by rw [hc3 2 (by omega)]; exact f2) hr⟩
      exact tells_21 (r := r) (x := C3 (100 + h) 9) (by omega) (fun v => (kr _ (fun q hq => mu_ne hq)).1) (kr _ (fun _ _ => rfl)).1 (fun v => (kr _ (fun q hq => mu_ne hq)).2) (kr _ (fun _ _ => rfl)).2 hr (nI p) (nI d)
    unfold f12_uploads
    have b82 : rv_in (nI b) 82 = true := q_inb (by omega) (by omega)
    have n82 : rv_in (nI n) 82 = true := q_inb (by omega) (by omega)
    have h20 : rv_in (nI h) 20 = true := q_inb (by omega) (by omega)
    have nb : (nI b).toNatClampNeg = b := q_nc (by omega)
    have nn : (nI n).toNatClampNeg = n := q_nc (by omega)
    have nh : (nI h).toNatClampNeg = h := q_nc (by omega)
    have w14 : (rv_u R1 5 n (nI h)) 14 h = nI k := by rw [mu_ne (by omega)]; exact r14
    have w14' : (rv_u (rv_u (rv_u R1 5 n (nI h)) 6 n (nI k)) 7 n (nI p)) 14 h + 1 = nI (k + 1) := by rw [mu_ne (by omega), mu_ne (by omega), mu_ne (by omega), r14, q_succ]
    rw [hcp, o1_some, if_pos b82, nb, hRc1, m3, o2_some, if_pos n82, nn, lt_do, if_pos h20, if_pos n82, nh, w14, lt_do, if_pos n82, lt_do, if_pos h20, if_pos h20, w14', lt_do]
    have e3 : rv_u (rv_u (rv_u (rv_u R1 5 n (nI h)) 6 n (nI k)) 7 n (nI p)) 14 h (nI (k + 1)) = R3 := hR3
    rw [e3, htell, o1_some, show (false : Bool) = !true from rfl, u4, o1_some, if_pos h20, u8, tT 14 (by omega), sr7, q_1, q_sub (by omega), Nat.add_sub_cancel]
