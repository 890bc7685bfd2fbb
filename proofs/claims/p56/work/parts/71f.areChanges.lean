/-! WHAT HOLDS ALL ALONG; areChanges -/
def enc (R : rv_Mem) (j : Nat) : Int32 := ((((R 26 j ||| (R 27 j <<< ((5 : Int32) &&& 31))) ||| (R 28 j <<< ((12 : Int32) &&& 31))) ||| (R 29 j <<< ((14 : Int32) &&& 31))) ||| (R 30 j <<< ((18 : Int32) &&& 31)))
def JI (n : Nat) (gh : rC_gh) (R A : rv_Mem) : Prop := (R 1 0 = nI 0 ∧ R 1 1 = nI 1) ∧ (R 45 0 = nI 1) ∧ (R 46 0 = 15) ∧ (R 47 0 = 7) ∧ (R 48 0 = 48) ∧ (rv_z (R 49 0) = false) ∧ (gh.1 0 ≤ 8) ∧ (∀ r g, r < 2 → g < gh.1 0 → R 5 (R 9 r).toNatClampNeg = nI g → R 13 g = nI 1 ∧ R 9 r = curS n R g) ∧ (∀ h, h < gh.1 0 → R 13 h = nI 1 → R 5 (R 18 h).toNatClampNeg = nI h → R 18 h = curS n R h) ∧ (∀ c c' h s s', c < n → c' < n → h < 20 → s < 80 → s' < 80 → R 5 c = nI h → R 5 c' = nI h → R 6 c = nI s → R 6 c' = nI s' → s < s' → c < c') ∧ (∀ h, h < gh.1 0 → ∀ i, i < 32 → bt (R 20 h) i = true → R 12 h = nI i ∨ bt (rvS R h) i = true) ∧ (∀ h, h < gh.1 0 → R 20 h = 0 ∨ (R 13 h = nI 0 ∧ rv_z (R 15 h) = false)) ∧ (∀ h, h < gh.1 0 → A 0 (4 * h) = R 12 h) ∧ (∀ h, h < gh.1 0 → A 0 (4 * h + 1) = nI (flN R h)) ∧ (∀ h, h < gh.1 0 → A 0 (4 * h + 2) = R 17 h + 1) ∧ (∀ h, gh.1 0 ≤ h → h < 8 → A 0 (4 * h + 1) = 0 ∧ A 0 (4 * h + 2) = 0) ∧ (A 2 0 = nI (gh.1 1)) ∧ (∀ j, j < gh.1 1 → A 1 j = enc R j) ∧ (gh.1 0 = 0 → n = 2)
theorem JI.j1 {n : Nat} {gh : rC_gh} {R A : rv_Mem} (h : JI n gh R A) : R 1 0 = nI 0 ∧ R 1 1 = nI 1 := h.1
theorem JI.r45 {n : Nat} {gh : rC_gh} {R A : rv_Mem} (h : JI n gh R A) : R 45 0 = nI 1 := h.2.1
theorem JI.r46 {n : Nat} {gh : rC_gh} {R A : rv_Mem} (h : JI n gh R A) : R 46 0 = 15 := h.2.2.1
theorem JI.r47 {n : Nat} {gh : rC_gh} {R A : rv_Mem} (h : JI n gh R A) : R 47 0 = 7 := h.2.2.2.1
theorem JI.r48 {n : Nat} {gh : rC_gh} {R A : rv_Mem} (h : JI n gh R A) : R 48 0 = 48 := h.2.2.2.2.1
theorem JI.r49 {n : Nat} {gh : rC_gh} {R A : rv_Mem} (h : JI n gh R A) : rv_z (R 49 0) = false := h.2.2.2.2.2.1
theorem JI.ch8 {n : Nat} {gh : rC_gh} {R A : rv_Mem} (h : JI n gh R A) : gh.1 0 ≤ 8 := h.2.2.2.2.2.2.1
theorem JI.tips {n : Nat} {gh : rC_gh} {R A : rv_Mem} (h : JI n gh R A) : ∀ r g, r < 2 → g < gh.1 0 → R 5 (R 9 r).toNatClampNeg = nI g → R 13 g = nI 1 ∧ R 9 r = curS n R g := h.2.2.2.2.2.2.2.1
theorem JI.lw {n : Nat} {gh : rC_gh} {R A : rv_Mem} (h : JI n gh R A) : ∀ h, h < gh.1 0 → R 13 h = nI 1 → R 5 (R 18 h).toNatClampNeg = nI h → R 18 h = curS n R h := h.2.2.2.2.2.2.2.2.1
theorem JI.mono {n : Nat} {gh : rC_gh} {R A : rv_Mem} (h : JI n gh R A) : ∀ c c' h s s', c < n → c' < n → h < 20 → s < 80 → s' < 80 → R 5 c = nI h → R 5 c' = nI h → R 6 c = nI s → R 6 c' = nI s' → s < s' → c < c' := h.2.2.2.2.2.2.2.2.2.1
theorem JI.turnA {n : Nat} {gh : rC_gh} {R A : rv_Mem} (h : JI n gh R A) : ∀ h, h < gh.1 0 → ∀ i, i < 32 → bt (R 20 h) i = true → R 12 h = nI i ∨ bt (rvS R h) i = true := h.2.2.2.2.2.2.2.2.2.2.1
theorem JI.turnB {n : Nat} {gh : rC_gh} {R A : rv_Mem} (h : JI n gh R A) : ∀ h, h < gh.1 0 → R 20 h = 0 ∨ (R 13 h = nI 0 ∧ rv_z (R 15 h) = false) := h.2.2.2.2.2.2.2.2.2.2.2.1
theorem JI.cA0 {n : Nat} {gh : rC_gh} {R A : rv_Mem} (h : JI n gh R A) : ∀ h, h < gh.1 0 → A 0 (4 * h) = R 12 h := h.2.2.2.2.2.2.2.2.2.2.2.2.1
theorem JI.cA1 {n : Nat} {gh : rC_gh} {R A : rv_Mem} (h : JI n gh R A) : ∀ h, h < gh.1 0 → A 0 (4 * h + 1) = nI (flN R h) := h.2.2.2.2.2.2.2.2.2.2.2.2.2.1
theorem JI.cA2 {n : Nat} {gh : rC_gh} {R A : rv_Mem} (h : JI n gh R A) : ∀ h, h < gh.1 0 → A 0 (4 * h + 2) = R 17 h + 1 := h.2.2.2.2.2.2.2.2.2.2.2.2.2.2.1
theorem JI.cN {n : Nat} {gh : rC_gh} {R A : rv_Mem} (h : JI n gh R A) : ∀ h, gh.1 0 ≤ h → h < 8 → A 0 (4 * h + 1) = 0 ∧ A 0 (4 * h + 2) = 0 := h.2.2.2.2.2.2.2.2.2.2.2.2.2.2.2.1
theorem JI.pA {n : Nat} {gh : rC_gh} {R A : rv_Mem} (h : JI n gh R A) : A 2 0 = nI (gh.1 1) := h.2.2.2.2.2.2.2.2.2.2.2.2.2.2.2.2.1
theorem JI.qA {n : Nat} {gh : rC_gh} {R A : rv_Mem} (h : JI n gh R A) : ∀ j, j < gh.1 1 → A 1 j = enc R j := h.2.2.2.2.2.2.2.2.2.2.2.2.2.2.2.2.2.1
theorem JI.none {n : Nat} {gh : rC_gh} {R A : rv_Mem} (h : JI n gh R A) : gh.1 0 = 0 → n = 2 := h.2.2.2.2.2.2.2.2.2.2.2.2.2.2.2.2.2.2
section
variable {n : Nat} {gh : rC_gh} {C R A : rv_Mem}
theorem wb1 (hR : Rn n gh C R) {h p k : Nat} (hh : h < gh.1 0) (hp : p < 6) (hk : R 14 h = nI k) (hk80 : k ≤ 80) : ∀ s, s ≤ k → 2 ≤ wP n R h p 1 s ∧ wP n R h p 1 s ≤ 4 := by
  intro s
  have hn := hR.n80
  induction s with
  | zero => intro _; exact ⟨by show 2 ≤ 3; omega, by show 3 ≤ 4; omega⟩
  | succ s ih =>
    intro hs
    obtain ⟨b1, b2⟩ := ih (by omega)
    obtain ⟨c, c1, c2, -, -, -, e, -⟩ := hR.vote (p := p) (l := 1) hh hp (by omega) hk hk80 (show s < k by omega)
    have hv : vx n R h p 1 s = 0 ∨ (2 ≤ vx n R h p 1 s ∧ vx n R h p 1 s ≤ 4) := by
      unfold vx
      rw [e]
      rcases hR.vot.1 c 1 p (by omega) (by omega) hp with ⟨h1, -⟩ | ⟨-, v, v1, v2, v3, v4, -⟩
      · left; rw [h1, q_nc (by omega)]
      · right; rw [v4, q_nc (by omega)]; exact v3 rfl
    show 2 ≤ wst n R h p 1 s _ ∧ wst n R h p 1 s _ ≤ 4
    unfold wst
    split
    · omega
    · split <;> omega
theorem wI_b0 : ∀ u, u < 6 → 1 ≤ u → (-2 : Int32) ≤ wI u ∧ wI u ≤ 2 := by decide
theorem wI_b1 : ∀ u, u < 5 → 2 ≤ u → wI u ≤ 1 ∧ (-1 : Int32) ≤ wI u := by decide
theorem ac_353 (hR : Rn n gh C R) {m k s : Nat} (hm : m < gh.1 0) (hk : R 14 m = nI k) (hk80 : k ≤ 80) (hs : s < k) (k5 : rv_Mem → Int32 → Bool → Int32 → Option (Bool × rv_Mem)) (x2 : Int32) : ∀ d p fuel, p + d = 6 → d < fuel → gp_areChanges_353 gh A k5 fuel C x2 true (nI m) (nI s) (nI p) = gp_areChanges_432 gh A k5 C x2 true (nI m)
  | d, p, 0, _, h2 => absurd h2 (Nat.not_lt_zero _)
  | 0, p, fuel + 1, h1, _ => by
    show gp_areChanges_353_s gh A k5 (gp_areChanges_353 gh A k5 fuel) C x2 true (nI m) (nI s) (nI p) = _
    unfold gp_areChanges_353_s
    rw [if_neg (by rw [q_6, q_lt (by omega) (by omega)]; omega)]
  | d + 1, p, fuel + 1, h1, h2 => by
    have ih := ac_353 hR hm hk hk80 hs k5 x2 d (p + 1) fuel (by omega) (by omega)
    obtain ⟨a1, a2⟩ := hR.wb (p := p) (l := 0) hm (by omega) (by omega) hk hk80 (s + 1) (by omega)
    obtain ⟨b1, b2⟩ := wb1 hR (p := p) hm (by omega) hk hk80 (s + 1) (by omega)
    have w0 : f11_worth gh C (nI p) (nI m) (nI s) 0 = some (.inl (wI (wP n R m p 0 (s + 1)))) := ak_worth hR hm hk hk80 hs (by omega) (show 0 < 2 by omega)
    have w1 : f11_worth gh C (nI p) (nI m) (nI s) 1 = some (.inl (wI (wP n R m p 1 (s + 1)))) := ak_worth hR hm hk hk80 hs (by omega) (show 1 < 2 by omega)
    show gp_areChanges_353_s gh A k5 (gp_areChanges_353 gh A k5 fuel) C x2 true (nI m) (nI s) (nI p) = _
    unfold gp_areChanges_353_s gp_areChanges_425
    have y0 := wI_b0 _ a2 a1
    have y1 := wI_b1 _ (show wP n R m p 1 (s + 1) < 5 by omega) b1
    rw [if_pos (by rw [q_6, q_lt (by omega) (by omega)]; omega), if_pos rfl, w0, x1k, if_pos y0.1, if_pos y0.2, w1, x1k, if_pos y1.1, x1k, if_pos y1.2, q_succ]
    exact ih
/-- all lines of the four files -/
def sml (R : rv_Mem) (c0 c : Nat) : Nat → Bool := fun at_ => decide (ln (fl R c0 (at_ / 10)) (at_ % 10) = ln (fl R c (at_ / 10)) (at_ % 10))
theorem ac_237 (hR : Rn n gh C R) {c0 c : Nat} (h0 : c0 < n) (hc : c < n) (k5 : rv_Mem → Int32 → Bool → Int32 → Option (Bool × rv_Mem)) (x2 x4 x5 x7 : Int32) (x11 : Bool) : ∀ d p fuel (w : Bool), p + d = 40 → d < fuel → gp_areChanges_237 gh A k5 fuel C x2 x4 x5 (nI c) x7 (nI c0) x11 w (nI p) = (if nI c0 < nI c then (if x7 = 2 then gp_areChanges_315 gh A k5 C x2 x4 x5 x7 x11 (w && ar (sml R c0 c) p d) true else gp_areChanges_315 gh A k5 C x2 x4 x5 x7 x11 (w && ar (sml R c0 c) p d) false) else gp_areChanges_348 gh A k5 C x2 x4 x5)
  | d, p, 0, w, _, h2 => absurd h2 (Nat.not_lt_zero _)
  | 0, p, fuel + 1, w, h1, _ => by
    show gp_areChanges_237_s gh A k5 (gp_areChanges_237 gh A k5 fuel) C x2 x4 x5 (nI c) x7 (nI c0) x11 w (nI p) = _
    unfold gp_areChanges_237_s
    rw [if_neg (by rw [q_40, q_lt (by omega) (by omega)]; omega), show (w && ar (sml R c0 c) p 0) = w from Bool.and_true w]
  | d + 1, p, fuel + 1, w, h1, h2 => by
    have ih := fun w => ac_237 hR h0 hc k5 x2 x4 x5 x7 x11 d (p + 1) fuel w (by omega) (by omega)
    show gp_areChanges_237_s gh A k5 (gp_areChanges_237 gh A k5 fuel) C x2 x4 x5 (nI c) x7 (nI c0) x11 w (nI p) = _
    unfold gp_areChanges_237_s gp_areChanges_288 gp_areChanges_289
    have ear : (w && ar (sml R c0 c) p (d + 1)) = (w && (sml R c0 c p && ar (sml R c0 c) (p + 1) d)) := rfl
    rw [if_pos (by rw [q_40, q_lt (by omega) (by omega)]; omega), q_succ, ear]
    cases w with
    | false => rw [if_neg (by simp), ih]; rfl
    | true =>
      rw [if_pos rfl, q_div (L := 10) (d := 10) rfl (by omega) (by omega) (by omega), q_10, q_mul, q_sub (by omega), show p - p / 10 * 10 = p % 10 by omega, ak_line hR (Or.inl ⟨h0, rfl⟩) (by omega) (by omega), x1k, ak_line hR (Or.inl ⟨hc, rfl⟩) (by omega) (by omega), x1k]
      unfold sml
      by_cases q : ln (fl R c0 (p / 10)) (p % 10) = ln (fl R c (p / 10)) (p % 10)
      · rw [if_pos q, ih, decide_eq_true q]; rfl
      · rw [if_neg q, ih, decide_eq_false q]; rfl
theorem sml_iff (hR : Rn n gh C R) {c0 c : Nat} (h0 : c0 < n) (hc : c < n) : ar (sml R c0 c) 0 40 = (List.range 4).all (fun f => decide (fl R c f = fl R c0 f)) := by
  rw [Bool.eq_iff_iff, ar_iff, List.all_eq_true]
  constructor
  · intro h f hf
    have hf := List.mem_range.mp hf
    refine decide_eq_true ((fl_iff hR (Or.inl h0) (Or.inl hc) hf).mp (fun j hj => ?_)).symm
    have := of_decide_eq_true (h (10 * f + j) (by omega) (by omega))
    rw [show (10 * f + j) / 10 = f by omega, show (10 * f + j) % 10 = j by omega] at this
    exact this
  · intro h j _ hj
    have := of_decide_eq_true (h (j / 10) (List.mem_range.mpr (by omega)))
    unfold sml
    rw [this]
    exact decide_eq_true rfl
theorem ac_kind (T : rv_Mem → Int32 → Bool → Int32 → Option (Bool × rv_Mem)) (x2 x4 x5 : Int32) (B S L : Bool) : (if (if B = true then (if S = true then (2 : Int32) else 0) else (if L = true then 1 else 0)) = 2 then gp_areChanges_315 gh A T C x2 x4 x5 (if B = true then (if S = true then (2 : Int32) else 0) else (if L = true then 1 else 0)) B S true else gp_areChanges_315 gh A T C x2 x4 x5 (if B = true then (if S = true then (2 : Int32) else 0) else (if L = true then 1 else 0)) B S false) = gp_areChanges_344 gh A T C x2 x4 x5 := by
  cases B <;> cases S <;> cases L <;> rfl
theorem ac_step (hR : Rn n gh C R) (J : JI n gh R A) {m X : Nat} (hm : m < gh.1 0) (hX : X < 2147483648) (T : rv_Mem → Int32 → Bool → Int32 → Option (Bool × rv_Mem)) : gp_areChanges_5_s gh A T C (nI X) true (nI m) = T C (nI X) true (nI (m + 1)) := by
  have hn := hR.n80
  have hc20 := hR.ch20
  have h8 := J.ch8
  obtain ⟨k, k1, k2, -, k4, -⟩ := hR.sets hm
  have hs : X % k < k := Nat.mod_lt _ (by omega)
  obtain ⟨c, c1, c2, c3, c4, c5, c6⟩ := ak_commitOf hR hm k4 k2 hs
  obtain ⟨-, ⟨o, o1, -, o3⟩, -, ⟨s, s0, -, s2⟩, -⟩ := hR.chg m hm
  obtain ⟨pa, p1⟩ : ∃ pa, f11_parentOf gh C (nI m) = some (.inl pa) := by
    rcases ak_parent hR hm with ⟨-, e⟩ | ⟨g, w, -, -, e, -⟩
    · exact ⟨_, e⟩
    · exact ⟨_, e⟩
  -- the facts are right
  have e432 : gp_areChanges_432 gh A T C (nI X) true (nI m) = T C (nI X) true (nI (m + 1)) := by
    unfold gp_areChanges_432 gp_areChanges_451
    rw [if_pos rfl, areFacts_ok hR J.j1 J.r45 J.r46 J.r47 J.r48 J.r49 hm (by omega) (J.cA0 m hm) (J.cA1 m hm), o2_some, if_pos rfl, q_succ]
  -- the patch set
  have e182 : gp_areChanges_182 gh A T C (nI X) (nI m) (nI (X % k)) (nI c) (kindS n R c) = T C (nI X) true (nI (m + 1)) := by
    unfold gp_areChanges_182 gp_areChanges_187
    rw [if_pos rfl]
    by_cases q : 0 < X % k
    · obtain ⟨c0, d1, d2, d3, d4, d5, d6⟩ := ak_commitOf hR hm k4 k2 (show X % k - 1 < k by omega)
      have hlt : c0 < c := J.mono c0 c m (X % k - 1) (X % k) d2 c2 (by omega) (by omega) (by omega) d3 c3 d4 c4 (by omega)
      rw [if_pos (by rw [q_0, q_lt (by omega) (by omega)]; exact q), q_1, q_sub (by omega), d6, x1k, ak_before hR (Or.inl ⟨d2, rfl⟩), x1k, ak_before hR (Or.inl ⟨c2, rfl⟩), x1k]
      have e344 : gp_areChanges_344 gh A T C (nI X) (nI m) (nI (X % k)) = T C (nI X) true (nI (m + 1)) := by
        unfold gp_areChanges_344 gp_areChanges_349
        exact (ac_353 hR hm k4 k2 hs T (nI X) 6 0 rv_FU rfl (FU_lt (by omega))).trans e432
      have key : ∀ w : Bool, (w = decide (R 2 c0 = R 2 c)) → gp_areChanges_229 gh A T C (nI X) (nI m) (nI (X % k)) (nI c) (kindS n R c) (nI c0) w = T C (nI X) true (nI (m + 1)) := fun w hw => by
        unfold gp_areChanges_229
        refine (ac_237 hR d2 c2 T (nI X) (nI m) (nI (X % k)) (kindS n R c) w 40 0 rv_FU true rfl (FU_lt (by omega))).trans ?_
        rw [if_pos (by rw [q_lt (by omega) (by omega)]; exact hlt), Bool.true_and, sml_iff hR d2 c2]
        have ek : kindS n R c = if R 2 c = R 2 c0 then (if (List.range 4).all (fun f => decide (fl R c f = fl R c0 f)) = true then 2 else 0) else (if (List.range 4).all (fun f => allalk (fl R (R 2 c).toNatClampNeg f) (fl R c f) (fl R (R 2 c0).toNatClampNeg f) (fl R c0 f)) = true then 1 else 0) := by
          have hb : (mAt n (R 5) (R 6) (R 5 c) (R 6 c - 1)).toNatClampNeg = c0 := by
            rw [c3, c4, q_1, q_sub (by omega), d5, q_nc (by omega)]
          unfold kindS
          rw [if_neg (by rw [c4, q_0, q_eq (by omega) (by omega)]; omega)]
          simp only [hb]
        have ek2 : kindS n R c = (if w = true then (if (List.range 4).all (fun f => decide (fl R c f = fl R c0 f)) = true then 2 else 0) else (if (List.range 4).all (fun f => allalk (fl R (R 2 c).toNatClampNeg f) (fl R c f) (fl R (R 2 c0).toNatClampNeg f) (fl R c0 f)) = true then 1 else 0)) := by
          rw [ek, hw]
          by_cases q1 : R 2 c = R 2 c0
          · rw [if_pos q1, if_pos (decide_eq_true q1.symm)]
          · rw [if_neg q1, if_neg (show ¬ decide (R 2 c0 = R 2 c) = true from fun z => q1 (of_decide_eq_true z).symm)]
        rw [ek2]
        exact (ac_kind T (nI X) (nI m) (nI (X % k)) _ _ _).trans e344
      by_cases q1 : R 2 c0 = R 2 c
      · rw [if_pos q1]; exact key true (decide_eq_true q1).symm
      · rw [if_neg q1]; exact key false (decide_eq_false q1).symm
    · rw [if_neg (by rw [q_0, q_lt (by omega) (by omega)]; exact q)]
      exact e432
  -- the parent
  have e146 : gp_areChanges_146 gh A T C (nI X) (nI m) (nI (X % k)) (nI c) (kindS n R c) pa = T C (nI X) true (nI (m + 1)) := by
    unfold gp_areChanges_146
    rcases ak_parent hR hm with ⟨-, e⟩ | ⟨g, w, g1, g2, e, -⟩
    · have : pa = NO := by rw [e] at p1; injection p1 with p1; injection p1 with p1; exact p1.symm
      rw [this, if_neg (by rw [q_0, q_le_no (by omega)]; exact id)]
      exact e182
    · have : pa = nI (10 * g + if w = true then 1 else 0) := by rw [e] at p1; injection p1 with p1; injection p1 with p1; exact p1.symm
      have hw : (if w = true then 1 else 0) ≤ 1 := by split <;> omega
      obtain ⟨⟨ρ, hρ⟩, -⟩ := hR.par
      have hne : g ≠ m := fun z => by
        have := hρ m g hm g2
        rw [z] at this; omega
      rw [this, if_pos (by rw [q_0, q_le (by omega) (by omega)]; omega), q_rem (L := 10) (d := 10) rfl (by omega) (by omega) (by omega), if_pos (by rw [q_2, q_lt (by omega) (by omega)]; omega), show f11_changes gh C = some (nI (gh.1 0)) from rfl, o1_some, q_div (L := 10) (d := 10) rfl (by omega) (by omega) (by omega), show (10 * g + if w = true then 1 else 0) / 10 = g by omega, if_pos (by rw [q_lt (by omega) (by omega)]; exact g1), if_pos (by rw [q_eq (by omega) (by omega)]; exact hne)]
      exact e182
  have e136 : gp_areChanges_136 gh A T C (nI X) (nI m) (nI (X % k)) (nI c) (kindS n R c) pa = T C (nI X) true (nI (m + 1)) := by
    unfold gp_areChanges_136
    by_cases q : X % k = 0
    · have ek : kindS n R c = 0 := by unfold kindS; rw [if_pos (by rw [c4, q]; rfl)]
      rw [if_pos (by rw [q_0, q_le (by omega) (by omega)]; omega), if_pos ek]
      exact e146
    · rw [if_neg (by rw [q_0, q_le (by omega) (by omega)]; omega)]
      exact e146
  have e127 : R 20 m = 0 → gp_areChanges_127 gh A T C (nI X) (nI m) (nI (X % k)) (nI c) (kindS n R c) pa = T C (nI X) true (nI (m + 1)) := fun z => by
    unfold gp_areChanges_127
    rw [ak_turn hR hm, x1k, if_pos z]
    exact e136
  -- turns
  have t1 : (R 20 m &&& ((rvS R m ||| ((1 : Int32) <<< (nI o &&& 31))) ^^^ (-1))) = 0 := by
    rw [b_zero]
    intro i hi
    rw [b_and, b_not _ hi, b_or, b_shl1 o (by omega) i hi]
    cases q : bt (R 20 m) i with
    | false => rfl
    | true =>
      rcases J.turnA m hm i hi q with z | z
      · rw [o3, q_eq (by omega) (by omega)] at z
        rw [decide_eq_true z.symm]; simp
      · rw [z]; rfl
  have t2 : ((rvS R m >>> (nI o &&& 31)) &&& 1) = 0 := by
    rw [b_test0 (by omega), rvS_bt hR hm (by omega)]
    unfold revB
    rw [decide_eq_true o3]; rfl
  have i4 : (4 : Int32) * nI m = nI (4 * m) := by rw [q_4, q_mul]
  have r4 : rv_in (nI (4 * m)) (lk_n 0) = true := q_inb (show 4 * m < 32 by omega) (by omega)
  have r5 : rv_in (nI (4 * m + 1)) (lk_n 0) = true := q_inb (show 4 * m + 1 < 32 by omega) (by omega)
  have eX : nI X - nI X / nI k * nI k = nI (X % k) := q_rem rfl hX (by omega) (by omega)
  unfold gp_areChanges_5_s
  rw [show f11_changes gh C = some (nI (gh.1 0)) from rfl, o1_some, if_pos (by rw [q_lt (by omega) (by omega)]; exact hm), if_pos rfl, ak_sets hR hm, x1k, k4, if_neg (by rw [q_0, q_eq (by omega) (by omega)]; omega), eX, c6, x1k, ak_kind hR hm k4 k2 hs c2 c5, x1k, ak_rev hR hm, x1k, i4, if_pos r4, p1, x1k, ak_turn hR hm, x1k, q_nc (by omega), J.cA0 m hm, o3, if_pos t1, x1k, if_pos r4, if_pos t2, ak_state hR hm, x1k, q_succ, if_pos r5, q_nc (by omega), J.cA1 m hm]
  have hfl : flN R m < 2147483648 := by unfold flN; split <;> split <;> omega
  by_cases q : R 13 m = 0
  · rw [if_pos q, q_rem (L := 2) (d := 2) rfl hfl (by omega) (by omega)]
    by_cases q2 : flN R m % 2 = 0
    · rw [if_neg (fun z => z (by rw [q2]; rfl))]
      exact e136
    · rw [if_pos (by rw [q_0, q_eq (by omega) (by omega)]; exact q2)]
      refine e127 ?_
      rcases J.turnB m hm with z | ⟨-, z⟩
      · exact z
      · exfalso
        apply q2
        unfold flN
        rw [z, if_neg (by simp)]
        split <;> rfl
  · rw [if_neg q]
    refine e127 ?_
    rcases J.turnB m hm with z | ⟨z, -⟩
    · exact z
    · exact absurd z q
theorem areChanges_ok (hR : Rn n gh C R) (J : JI n gh R A) {X : Nat} (hX : X < 2147483648) : gp_areChanges gh C A (nI X) = some (true, C) := by
  have hc20 := hR.ch20
  have L : ∀ d m fuel, m + d = gh.1 0 → d < fuel → gp_areChanges_5 gh A fuel C (nI X) true (nI m) = some (true, C) := by
    intro d
    induction d with
    | zero =>
      intro m fuel h1 h2
      obtain ⟨f', rfl⟩ : ∃ f', fuel = f' + 1 := ⟨fuel - 1, by omega⟩
      show gp_areChanges_5_s gh A (gp_areChanges_5 gh A f') C (nI X) true (nI m) = _
      unfold gp_areChanges_5_s
      rw [show f11_changes gh C = some (nI (gh.1 0)) from rfl, o1_some, if_neg (by rw [q_lt (by omega) (by omega)]; omega)]
    | succ d ih =>
      intro m fuel h1 h2
      obtain ⟨f', rfl⟩ : ∃ f', fuel = f' + 1 := ⟨fuel - 1, by omega⟩
      exact (ac_step hR J (show m < gh.1 0 by omega) hX (gp_areChanges_5 gh A f')).trans (ih (m + 1) f' (by omega) (by omega))
  exact L (gh.1 0) 0 rv_FU (Nat.zero_add _) (FU_lt (by omega))
end
