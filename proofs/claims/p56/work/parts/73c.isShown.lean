/-! isShown -/
theorem z_5 : ∀ v, v < 32 → ∀ i, i < 32 → 5 ≤ i → bt (nI v) i = false := by decide +kernel
theorem z_7 : ∀ v, v < 128 → ∀ i, i < 32 → 7 ≤ i → bt (nI v) i = false := by decide +kernel
theorem z_2 : ∀ v, v < 4 → ∀ i, i < 32 → 2 ≤ i → bt (nI v) i = false := by decide +kernel
theorem z_4 : ∀ v, v < 16 → ∀ i, i < 32 → 4 ≤ i → bt (nI v) i = false := by decide +kernel
theorem m_31 : ∀ i, i < 32 → bt 31 i = decide (i < 5) := by decide +kernel
theorem m_127 : ∀ i, i < 32 → bt 127 i = decide (i < 7) := by decide +kernel
theorem m_3 : ∀ i, i < 32 → bt 3 i = decide (i < 2) := by decide +kernel
theorem m_15 : ∀ i, i < 32 → bt 15 i = decide (i < 4) := by decide +kernel
def encN (h s f a k : Nat) : Int32 := ((((nI h ||| (nI s <<< ((5 : Int32) &&& 31))) ||| (nI f <<< ((12 : Int32) &&& 31))) ||| (nI a <<< ((14 : Int32) &&& 31))) ||| (nI k <<< ((18 : Int32) &&& 31)))
theorem enc_bt {h s f a k : Nat} (i : Nat) (hi : i < 32) : bt (encN h s f a k) i = ((((bt (nI h) i || (decide (5 ≤ i) && bt (nI s) (i - 5))) || (decide (12 ≤ i) && bt (nI f) (i - 12))) || (decide (14 ≤ i) && bt (nI a) (i - 14))) || (decide (18 ≤ i) && bt (nI k) (i - 18))) := by
  unfold encN
  rw [b_or, b_or, b_or, b_or, show (5 : Int32) = nI 5 from rfl, show (12 : Int32) = nI 12 from rfl, show (14 : Int32) = nI 14 from rfl, show (18 : Int32) = nI 18 from rfl, b_shl 5 (by omega) _ hi, b_shl 12 (by omega) _ hi, b_shl 14 (by omega) _ hi, b_shl 18 (by omega) _ hi]
theorem enc_dec {h s f a k : Nat} (h1 : h < 32) (h2 : s < 128) (h3 : f < 4) (h4 : a < 16) (h5 : k < 16) : (encN h s f a k &&& 31) = nI h ∧ ((encN h s f a k >>> ((5 : Int32) &&& 31)) &&& 127) = nI s ∧ ((encN h s f a k >>> ((12 : Int32) &&& 31)) &&& 3) = nI f ∧ ((encN h s f a k >>> ((14 : Int32) &&& 31)) &&& 15) = nI a ∧ (encN h s f a k >>> ((18 : Int32) &&& 31)) = nI k := by
  refine ⟨?_, ?_, ?_, ?_, ?_⟩
  · apply b_ext
    intro i hi
    rw [b_and, m_31 i hi, enc_bt i hi]
    by_cases c : i < 5
    · rw [decide_eq_true c, decide_eq_false (show ¬ 5 ≤ i by omega), decide_eq_false (show ¬ 12 ≤ i by omega), decide_eq_false (show ¬ 14 ≤ i by omega), decide_eq_false (show ¬ 18 ≤ i by omega)]; simp
    · rw [decide_eq_false c, z_5 h h1 i hi (by omega)]; simp
  · apply b_ext
    intro i hi
    rw [b_and, m_127 i hi, show (5 : Int32) = nI 5 from rfl, b_sshr 5 (by omega) _ hi]
    by_cases c : i < 7
    · rw [decide_eq_true c, if_pos (by omega), enc_bt _ (by omega), z_5 h h1 _ (by omega) (by omega), decide_eq_true (show 5 ≤ 5 + i by omega), decide_eq_false (show ¬ 12 ≤ 5 + i by omega), decide_eq_false (show ¬ 14 ≤ 5 + i by omega), decide_eq_false (show ¬ 18 ≤ 5 + i by omega), show 5 + i - 5 = i by omega]; simp
    · rw [decide_eq_false c, z_7 s h2 i hi (by omega)]; simp
  · apply b_ext
    intro i hi
    rw [b_and, m_3 i hi, show (12 : Int32) = nI 12 from rfl, b_sshr 12 (by omega) _ hi]
    by_cases c : i < 2
    · rw [decide_eq_true c, if_pos (by omega), enc_bt _ (by omega), z_5 h h1 _ (by omega) (by omega), z_7 s h2 (12 + i - 5) (by omega) (by omega), decide_eq_true (show 12 ≤ 12 + i by omega), decide_eq_false (show ¬ 14 ≤ 12 + i by omega), decide_eq_false (show ¬ 18 ≤ 12 + i by omega), show 12 + i - 12 = i by omega]; simp
    · rw [decide_eq_false c, z_2 f h3 i hi (by omega)]; simp
  · apply b_ext
    intro i hi
    rw [b_and, m_15 i hi, show (14 : Int32) = nI 14 from rfl, b_sshr 14 (by omega) _ hi]
    by_cases c : i < 4
    · rw [decide_eq_true c, if_pos (by omega), enc_bt _ (by omega), z_5 h h1 _ (by omega) (by omega), z_7 s h2 (14 + i - 5) (by omega) (by omega), z_2 f h3 (14 + i - 12) (by omega) (by omega), decide_eq_true (show 14 ≤ 14 + i by omega), decide_eq_false (show ¬ 18 ≤ 14 + i by omega), show 14 + i - 14 = i by omega]; simp
    · rw [decide_eq_false c, z_4 a h4 i hi (by omega)]; simp
  · apply b_ext
    intro i hi
    rw [show (18 : Int32) = nI 18 from rfl, b_sshr 18 (by omega) _ hi]
    by_cases c : 18 + i < 32
    · rw [if_pos c, enc_bt _ c, z_5 h h1 _ c (by omega), z_7 s h2 (18 + i - 5) (by omega) (by omega), z_2 f h3 (18 + i - 12) (by omega) (by omega), z_4 a h4 (18 + i - 14) (by omega) (by omega), decide_eq_true (show 18 ≤ 18 + i by omega), show 18 + i - 18 = i by omega]; simp
    · rw [if_neg c, enc_bt 31 (by omega), z_5 h h1 _ (by omega) (by omega), z_7 s h2 (31 - 5) (by omega) (by omega), z_2 f h3 (31 - 12) (by omega) (by omega), z_4 a h4 (31 - 14) (by omega) (by omega), z_4 k h5 (31 - 18) (by omega) (by omega), z_4 k h5 i hi (by omega)]; simp
section
variable {n : Nat} {gh : rC_gh} {C R A : rv_Mem}
/-- what is shown comes from the lines of the comment -/
theorem shown_cme (hR : Rn n gh C R) {j h s0 f a k K S : Nat} (hc9 : cmtR gh R j h s0 f a k K) (hak : a + k ≤ (fl R (cAt n R h s0) f).length) (hS : S < K) (hs : s0 ≤ S) : cme (fl R (cAt n R h s0) f) (fl R (cAt n R h S) f) a k (up (stp n R h s0 f a k) (S - s0) s0 (msk k a)) := by
  obtain ⟨-, g1, g2, g3, g4, g5, g6, g7, -, -, -, -, -, g13⟩ := hc9
  have L : ∀ i, i < K → (fl R (cAt n R h i) f).length ≤ 10 := fun i hi => by
    obtain ⟨c, -, c2, -, -, -, c6⟩ := hR.at g1 g4 g13 hi
    have e : cAt n R h i = c := by unfold cAt; rw [c6, q_nc (by have := hR.n80; omega)]
    rw [e]; exact fl_10 hR (Or.inl c2) g5
  have P : ∀ d, s0 + d < K → cme (fl R (cAt n R h s0) f) (fl R (cAt n R h (s0 + d)) f) a k (up (stp n R h s0 f a k) d s0 (msk k a)) := by
    intro d
    induction d with
    | zero => intro _; exact cme_msk g7 hak (fun j _ => rfl)
    | succ d ih =>
      intro hd
      rw [up_snoc]
      exact cme_step hak (L (s0 + d) (by omega)) (L (s0 + (d + 1)) hd) (ih (by omega))
  have := P (S - s0) (by omega)
  rw [show s0 + (S - s0) = S by omega] at this
  exact this
theorem is_183 (hR : Rn n gh C R) {h s0 f a k cS K p F : Nat} (hm : h < gh.1 0) (h14 : R 14 h = nI K) (hK : K ≤ 80) (hs : s0 < K) (hf : f < 4) (hcS : cS < n) (hp : p < 10) (ha : a + k ≤ 10) (hF : F < a + k) (e : ln (fl R (cAt n R h s0) f) F = ln (fl R cS f) p) (k97 : rv_Mem → Int32 → Int32 → Int32 → Int32 → Int32 → Int32 → Int32 → Bool → Int32 → Option (Bool × rv_Mem)) (k160 : rv_Mem → Int32 → Int32 → Int32 → Int32 → Int32 → Int32 → Int32 → Bool → Int32 → Int32 → Int32 → Int32 → Int32 → Int32 → Option (Bool × rv_Mem)) (x2 x3 x10 x11 x12 : Int32) : ∀ d at_ fuel, at_ + d = F → d < fuel → ∃ at', at_ ≤ at' ∧ at' ≤ F ∧ gp_isShown_183 gh A k97 k160 fuel C x2 x3 (nI h) (nI s0) (nI f) (nI a) (nI k) x10 x11 x12 (nI cS) (nI at_) (nI p) = k160 C x2 x3 (nI h) (nI s0) (nI f) (nI a) (nI k) true x10 x11 x12 (nI cS) (nI (at' + 1)) (nI (p + 1))
  | d, _, 0, _, h2 => absurd h2 (Nat.not_lt_zero _)
  | d, at_, fuel + 1, h1, h2 => by
    have hn := hR.n80
    obtain ⟨c, c1, c2, c3, c4, c5, c6⟩ := ak_commitOf hR hm h14 hK hs
    have ec : cAt n R h s0 = c := by unfold cAt; rw [c5, q_nc (by omega)]
    have e0 : gp_isShown_183 gh A k97 k160 (fuel + 1) C x2 x3 (nI h) (nI s0) (nI f) (nI a) (nI k) x10 x11 x12 (nI cS) (nI at_) (nI p) = (if ¬ ln (fl R c f) at_ = ln (fl R cS f) p then gp_isShown_183 gh A k97 k160 fuel C x2 x3 (nI h) (nI s0) (nI f) (nI a) (nI k) x10 x11 x12 (nI cS) (nI (at_ + 1)) (nI p) else gp_isShown_228 gh A k97 k160 C x2 x3 (nI h) (nI s0) (nI f) (nI a) (nI k) x10 x11 x12 (nI cS) (nI at_) (nI p)) := by
      show gp_isShown_183_s gh A k97 k160 (gp_isShown_183 gh A k97 k160 fuel) C x2 x3 (nI h) (nI s0) (nI f) (nI a) (nI k) x10 x11 x12 (nI cS) (nI at_) (nI p) = _
      unfold gp_isShown_183_s
      rw [q_add, if_pos (by rw [q_lt (by omega) (by omega)]; omega), c6, x1k, ak_line hR (Or.inl ⟨c2, rfl⟩) hf (by omega), x1k, ak_line hR (Or.inl ⟨hcS, rfl⟩) hf (by omega), x1k, q_succ]
    rw [e0]
    by_cases q : ln (fl R c f) at_ = ln (fl R cS f) p
    · rw [if_neg (fun z => z q)]
      refine ⟨at_, Nat.le_refl _, by omega, ?_⟩
      unfold gp_isShown_228 gp_isShown_243 gp_isShown_248
      rw [q_add, if_pos (by rw [q_lt (by omega) (by omega)]; omega), q_succ, q_succ]
    · rw [if_pos q]
      cases d with
      | zero =>
        exfalso
        apply q
        rw [show at_ = F by omega, ← ec]; exact e
      | succ d =>
        obtain ⟨at', t1, t2, t3⟩ := is_183 hR hm h14 hK hs hf hcS hp ha hF e k97 k160 x2 x3 x10 x11 x12 d (at_ + 1) fuel (by omega) (by omega)
        exact ⟨at', by omega, t2, t3⟩
theorem is_160 (hR : Rn n gh C R) {h s0 f a k cS K : Nat} {v : Int32} (hm : h < gh.1 0) (h14 : R 14 h = nI K) (hK : K ≤ 80) (hs : s0 < K) (hf : f < 4) (hcS : cS < n) (ha : a + k ≤ 10) {φ : Nat → Nat} (hφ : ∀ p, p < 32 → bt v p = true → p < (fl R cS f).length ∧ a ≤ φ p ∧ φ p < a + k ∧ ln (fl R (cAt n R h s0) f) (φ p) = ln (fl R cS f) p ∧ ∀ q, q < p → bt v q = true → φ q < φ p) (k97 : rv_Mem → Int32 → Int32 → Int32 → Int32 → Int32 → Int32 → Int32 → Bool → Int32 → Option (Bool × rv_Mem)) (x2 x3 x10 x11 : Int32) : ∀ d p fuel at_, p + d = 10 → d < fuel → (∀ q, p ≤ q → q < 32 → bt v q = true → at_ ≤ φ q) → gp_isShown_160 gh A k97 fuel C x2 x3 (nI h) (nI s0) (nI f) (nI a) (nI k) true x10 x11 v (nI cS) (nI at_) (nI p) = gp_isShown_254 gh A k97 C x2 x3 (nI h) (nI s0) (nI f) (nI a) (nI k) true x10 x11 v
  | d, p, 0, _, _, h2, _ => absurd h2 (Nat.not_lt_zero _)
  | 0, p, fuel + 1, at_, h1, _, _ => by
    show gp_isShown_160_s gh A k97 (gp_isShown_160 gh A k97 fuel) C x2 x3 (nI h) (nI s0) (nI f) (nI a) (nI k) true x10 x11 v (nI cS) (nI at_) (nI p) = _
    unfold gp_isShown_160_s
    rw [if_neg (by rw [q_10, q_lt (by omega) (by omega)]; omega)]
  | d + 1, p, fuel + 1, at_, h1, h2, h3 => by
    show gp_isShown_160_s gh A k97 (gp_isShown_160 gh A k97 fuel) C x2 x3 (nI h) (nI s0) (nI f) (nI a) (nI k) true x10 x11 v (nI cS) (nI at_) (nI p) = _
    unfold gp_isShown_160_s
    rw [if_pos (by rw [q_10, q_lt (by omega) (by omega)]; omega), if_pos rfl]
    simp only [b_test (show p < 32 by omega)]
    by_cases q : bt v p = true
    · rw [if_pos q]
      obtain ⟨f1, f2, f3, f4, f5⟩ := hφ p (by omega) q
      obtain ⟨at', t1, t2, t3⟩ := is_183 (A := A) hR hm h14 hK hs hf hcS (show p < 10 by omega) ha f3 f4 k97 (gp_isShown_160 gh A k97 fuel) x2 x3 x10 x11 v (φ p - at_) at_ rv_FU (by have := h3 p (Nat.le_refl _) (by omega) q; omega) (FU_lt (by omega))
      rw [t3]
      exact is_160 hR hm h14 hK hs hf hcS ha hφ k97 x2 x3 x10 x11 d (p + 1) fuel (at' + 1) (by omega) (by omega) (fun q' hq hq32 hb => by
        have := (hφ q' hq32 hb).2.2.2.2 p (by omega) q
        omega)
    · rw [if_neg q]
      unfold gp_isShown_248
      rw [q_succ]
      exact is_160 hR hm h14 hK hs hf hcS ha hφ k97 x2 x3 x10 x11 d (p + 1) fuel at_ (by omega) (by omega) (fun q' hq hq32 hb => h3 q' (by omega) hq32 hb)
theorem is_132 (hR : Rn n gh C R) {j h s0 f a k K S : Nat} (hc9 : cmtR gh R j h s0 f a k K) (hak : a + k ≤ (fl R (cAt n R h s0) f).length) (hS : S < K) (k97 : rv_Mem → Int32 → Int32 → Int32 → Int32 → Int32 → Int32 → Int32 → Bool → Int32 → Option (Bool × rv_Mem)) (x3 x10 : Int32) : ∃ C', Rn n gh C' R ∧ gp_isShown_132 gh A k97 C (nI j) x3 (nI h) (nI s0) (nI f) (nI a) (nI k) true x10 (nI S) = k97 C' (nI j) x3 (nI h) (nI s0) (nI f) (nI a) (nI k) true (x10 + 1) := by
  have hn := hR.n80
  have hc9' := hc9
  obtain ⟨-, g1, g2, g3, g4, g5, g6, g7, -, -, -, -, -, g13⟩ := hc9'
  obtain ⟨C', e, hC'⟩ := ak_shown hR hc9 hS
  obtain ⟨c, c1, c2, c3, c4, c5, c6⟩ := ak_commitOf hC' g1 g13 g4 hS
  have ec : cAt n R h S = c := by unfold cAt; rw [c5, q_nc (by omega)]
  refine ⟨C', hC', ?_⟩
  unfold gp_isShown_132
  rw [e, x3k, c6, x1k]
  obtain ⟨φ, hφ⟩ : cme (fl R (cAt n R h s0) f) (fl R c f) a k (if S < s0 then 0 else up (stp n R h s0 f a k) (S - s0) s0 (msk k a)) := by
    by_cases q : S < s0
    · rw [if_pos q]; exact cme_0 _ _ _ _
    · rw [if_neg q, ← ec]; exact shown_cme hR hc9 hak hS (by omega)
  refine (is_160 (A := A) hC' g1 g13 g4 g2 g5 c2 g7 hφ k97 (nI j) x3 x10 (nI S) 10 0 rv_FU a rfl (FU_lt (by omega)) (fun q _ hq hb => (hφ q hq hb).2.1)).trans ?_
  unfold gp_isShown_254 gp_isShown_271 gp_isShown_276
  rw [if_pos rfl]
  by_cases q : S < s0
  · rw [if_pos (by rw [q_lt (by omega) (by omega)]; exact q), if_pos q, if_pos rfl]
  · rw [if_neg (by rw [q_lt (by omega) (by omega)]; exact q)]
theorem isShown_ok (hR : Rn n gh C R) (J : JI n gh R A) {j X : Nat} (hj : j < gh.1 1) (hX : X < 2147483648) : ∃ C', gp_isShown gh C A (nI j) (nI X) = some (true, C') ∧ Rn n gh C' R := by
  have hn := hR.n80
  have hcm := hR.cnt.2.2.2.2.2.1
  have h8 := J.ch8
  obtain ⟨h, s0, f, a, k, K, hc9, hak, hcn⟩ := cmtR_ex hR hj
  have hc9' := hc9
  obtain ⟨-, g1, g2, g3, g4, g5, g6, g7, r1, r2, r3, r4, r5, g13⟩ := hc9'
  have eA : A 1 j = encN h s0 f a k := by rw [J.qA j hj]; unfold enc encN; rw [r1, r2, r3, r4, r5]
  obtain ⟨d1, d2, d3, d4, d5⟩ := enc_dec (h := h) (s := s0) (f := f) (a := a) (k := k) (by omega) (by omega) g5 (by omega) (by omega)
  have i60 : rv_in (nI j) (lk_n 1) = true := q_inb (show j < 60 by omega) (by omega)
  obtain ⟨M1, e1, hM1⟩ := ak_shown hR hc9 g2
  rw [if_neg (Nat.lt_irrefl _), Nat.sub_self] at e1
  have e1 : f11_shown gh C (nI j) (nI s0) = some (.inl (msk k a, M1)) := e1
  have e19 : gp_of gh M1 A 19 (nI j) (nI K) 0 0 = some (-1261, M1) := by
    obtain ⟨-, -, -, -, o7, h', s', f', a', k', q1, q2, q3, q4, q5, q6, -⟩ := hM1.cmt j hj
    have y1 : h' = h := by rw [r1, q_eq (by omega) (by omega)] at q6; exact q6.symm
    subst y1
    have b1 : f11_needComment gh M1 (nI j) = some (.inl (200 + j)) := by
      unfold f11_needComment
      rw [if_pos (by rw [q_0, q_le (by omega) (by omega)]; omega), if_neg (by rw [q_le (by omega) (by omega)]; omega), if_pos (q_inb hj (by omega)), q_nc (by omega), if_pos (is2 hj hcm)]
    rw [go_19]
    unfold f11_shown
    rw [b1, x2_inl, if_pos (is2 hj hcm), if_pos o7, q5, ok_change hM1 q1, x2_inl, nd_set hM1 q1 g13 Wr.at, x2_inr]
    rfl
  obtain ⟨M2, hM2, e2⟩ := is_132 (A := A) hM1 hc9 hak (show X % K < K from Nat.mod_lt _ (by omega)) (gp_isShown_97 gh A 99999) (nI X) 0
  obtain ⟨M3, hM3, e3⟩ := is_132 (A := A) hM2 hc9 hak (show K - 1 < K by omega) (gp_isShown_97 gh A 99998) (nI X) 1
  refine ⟨M3, ?_, hM3⟩
  unfold gp_isShown
  rw [if_pos i60, if_pos i60, if_pos i60, if_pos i60, if_pos i60, q_nc (by omega), eA, d1, d2, d3, d4, d5, e1, x3k, if_pos (show msk k a = (((1 : Int32) <<< (nI k &&& 31)) - 1) <<< (nI a &&& 31) from rfl), ak_sets hM1 g1, x1k, g13, e19, o2_some, if_pos rfl]
  unfold gp_isShown_92
  show gp_isShown_97_s gh A (gp_isShown_97 gh A 99999) M1 (nI j) (nI X) (nI h) (nI s0) (nI f) (nI a) (nI k) true 0 = _
  unfold gp_isShown_97_s
  rw [if_pos (by decide), if_pos rfl, if_pos rfl, ak_sets hM1 g1, x1k, g13, if_neg (by rw [q_0, q_eq (by omega) (by omega)]; omega), q_rem rfl hX (by omega) (by omega), e2]
  show gp_isShown_97_s gh A (gp_isShown_97 gh A 99998) M2 (nI j) (nI X) (nI h) (nI s0) (nI f) (nI a) (nI k) true 1 = _
  unfold gp_isShown_97_s
  rw [if_pos (by decide), if_pos rfl, if_neg (by decide), ak_sets hM2 g1, x1k, g13, q_1, q_sub (by omega), ← q_1, e3]
  show gp_isShown_97_s gh A (gp_isShown_97 gh A 99997) M3 (nI j) (nI X) (nI h) (nI s0) (nI f) (nI a) (nI k) true 2 = _
  unfold gp_isShown_97_s
  rw [if_neg (by decide)]
end
