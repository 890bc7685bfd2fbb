/-! areHunks -/
section
variable {n : Nat} {gh : rC_gh} {C R A : rv_Mem}
theorem ah_198 (hR : Rn n gh C R) {c c' f : Nat} (hc : c < n) (hc' : c' < n) (hf : f < 4) (k90 : rv_Mem → Int32 → Int32 → Int32 → Int32 → Int32 → Int32 → Int32 → Bool → Int32 → Int32 → Int32 → Bool → Int32 → Option (Bool × rv_Mem)) (x1 x2 x3 x7 x13 x14 : Int32) {X : Nat} (hX : x14 / 1000000 = nI X) (hX10 : X ≤ 10) : ∀ t fuel k n' p, t < fuel → k + t = X → n' + t ≤ 1000 → runs (fl R c f) (fl R c' f) k n' t →
    gp_areHunks_198 gh A k90 fuel C x1 x2 x3 (nI f) (nI c) (nI c') x7 true (nI k) (nI n') (nI p) true x13 x14 = gp_areHunks_255 gh A k90 C x1 x2 x3 (nI f) (nI c) (nI c') x7 true (nI (k + t)) (nI (n' + t)) (nI (p + t)) true x13 x14
  | t, 0, _, _, _, h1, _, _, _ => absurd h1 (Nat.not_lt_zero _)
  | 0, fuel + 1, k, n', p, _, h2, _, _ => by
    show gp_areHunks_198_s gh A k90 (gp_areHunks_198 gh A k90 fuel) C x1 x2 x3 (nI f) (nI c) (nI c') x7 true (nI k) (nI n') (nI p) true x13 x14 = _
    unfold gp_areHunks_198_s
    rw [if_pos rfl, hX, if_neg (by rw [q_lt (by omega) (by omega)]; omega)]
    rfl
  | t + 1, fuel + 1, k, n', p, h1, h2, h3, h4 => by
    show gp_areHunks_198_s gh A k90 (gp_areHunks_198 gh A k90 fuel) C x1 x2 x3 (nI f) (nI c) (nI c') x7 true (nI k) (nI n') (nI p) true x13 x14 = _
    unfold gp_areHunks_198_s gp_areHunks_241
    have e := h4 0 (by omega)
    rw [Nat.add_zero, Nat.add_zero] at e
    rw [if_pos rfl, hX, if_pos (by rw [q_lt (by omega) (by omega)]; omega), ak_line hR (Or.inl ⟨hc, rfl⟩) hf (by omega), x1k, ak_line hR (Or.inl ⟨hc', rfl⟩) hf (by omega), x1k, if_pos e, q_succ, q_succ, q_succ]
    refine (ah_198 hR hc hc' hf k90 x1 x2 x3 x7 x13 x14 hX hX10 t fuel (k + 1) (n' + 1) (p + 1) (by omega) (by omega) (by omega) (fun i hi => ?_)).trans ?_
    · have := h4 (i + 1) (by omega)
      rw [show k + 1 + i = k + (i + 1) by omega, show n' + 1 + i = n' + (i + 1) by omega]; exact this
    · rw [show k + 1 + t = k + (t + 1) by omega, show n' + 1 + t = n' + (t + 1) by omega, show p + 1 + t = p + (t + 1) by omega]
theorem ah_hunk (hR : Rn n gh C R) {c c' f : Nat} (hc : c < n) (hc' : c' < n) (hf : f < 4) (k90 : rv_Mem → Int32 → Int32 → Int32 → Int32 → Int32 → Int32 → Int32 → Bool → Int32 → Int32 → Int32 → Bool → Int32 → Option (Bool × rv_Mem)) (x1 x2 x3 : Int32) {L j k n' p x d q e : Nat} (hj : j < L) (hL : L ≤ 11) (h1 : k ≤ x) (h2 : n' ≤ q) (h3 : x - k = q - n') (h4 : runs (fl R c f) (fl R c' f) k n' (x - k)) (h5 : 0 < d + e) (h6 : x + d ≤ 10) (h7 : q + e ≤ 10) :
    gp_areHunks_152 gh A k90 C x1 x2 x3 (nI f) (nI c) (nI c') (nI L) true (nI k) (nI n') (nI p) (nI j) (numH (x, d, q, e)) = k90 C x1 x2 x3 (nI f) (nI c) (nI c') (nI L) true (nI (x + d)) (nI (q + e)) (nI (p + (x - k))) true (nI (j + 1)) := by
  have en : numH (x, d, q, e) = nI (1000000 * x + 10000 * d + 100 * q + e) := by
    show (1000000 : Int32) * nI x + 10000 * nI d + 100 * nI q + nI e = _
    rw [show (1000000 : Int32) = nI 1000000 from rfl, show (10000 : Int32) = nI 10000 from rfl, q_100, q_mul, q_mul, q_mul, q_add, q_add, q_add]
  rw [en]
  generalize hZ : 1000000 * x + 10000 * d + 100 * q + e = Z
  have z1 : Z / 100 = 10000 * x + 100 * d + q := by omega
  have z3 : Z / 10000 = 100 * x + d := by omega
  have z2 : Z / 100 % 100 = q := by rw [z1]; omega
  have z4 : Z / 10000 % 100 = d := by rw [z3]; omega
  have d1 : nI Z / 1000000 = nI x := by rw [q_div (L := 1000000) (d := 1000000) rfl (by omega) (by omega) (by omega)]; congr 1; omega
  have d2 : nI Z / 100 = nI (Z / 100) := q_div (L := 100) (d := 100) rfl (by omega) (by omega) (by omega)
  have d3 : nI Z / 10000 = nI (Z / 10000) := q_div (L := 10000) (d := 10000) rfl (by omega) (by omega) (by omega)
  have r2 : nI (Z / 100) - nI (Z / 100) / 100 * 100 = nI q := by rw [q_rem (L := 100) (d := 100) rfl (by omega) (by omega) (by omega), z2]
  have r3 : nI (Z / 10000) - nI (Z / 10000) / 100 * 100 = nI d := by rw [q_rem (L := 100) (d := 100) rfl (by omega) (by omega) (by omega), z4]
  have r4 : nI Z - nI Z / 100 * 100 = nI e := by rw [q_rem (L := 100) (d := 100) rfl (by omega) (by omega) (by omega)]; congr 1; omega
  have hne : ¬ nI j = nI L := by rw [q_eq (by omega) (by omega)]; omega
  unfold gp_areHunks_152 gp_areHunks_196
  rw [d1, d2, r2, if_pos (by rw [q_0, q_le (by omega) (by omega)]; omega), q_sub h1, q_sub h2, if_pos (by rw [h3]), if_pos (by rw [q_le (by omega) (by omega)]; exact h1)]
  refine (ah_198 hR hc hc' hf k90 x1 x2 x3 (nI L) (nI j) (nI Z) d1 (by omega) (x - k) rv_FU k n' p (FU_lt (by omega)) (by omega) (by omega) h4).trans ?_
  rw [show k + (x - k) = x by omega, show n' + (x - k) = q by omega]
  unfold gp_areHunks_255 gp_areHunks_285 gp_areHunks_290 gp_areHunks_314 gp_areHunks_335
  rw [if_pos rfl, if_pos hne, d3, r3, r4, q_add, if_pos (by rw [q_0, q_lt (by omega) (by omega)]; exact h5), if_neg hne, if_neg hne, q_add, q_add, q_succ]
theorem ah_last (hR : Rn n gh C R) {c c' f : Nat} (hc : c < n) (hc' : c' < n) (hf : f < 4) (k90 : rv_Mem → Int32 → Int32 → Int32 → Int32 → Int32 → Int32 → Int32 → Bool → Int32 → Int32 → Int32 → Bool → Int32 → Option (Bool × rv_Mem)) (x1 x2 x3 : Int32) {L k n' p : Nat} (hL : L ≤ 11) (h1 : k ≤ (fl R c f).length) (h2 : n' ≤ (fl R c' f).length) (h3 : (fl R c f).length - k = (fl R c' f).length - n') (h4 : runs (fl R c f) (fl R c' f) k n' ((fl R c f).length - k)) :
    ∃ y z, gp_areHunks_152 gh A k90 C x1 x2 x3 (nI f) (nI c) (nI c') (nI L) true (nI k) (nI n') (nI p) (nI L) (1000000 * nI (fl R c f).length + 100 * nI (fl R c' f).length) = k90 C x1 x2 x3 (nI f) (nI c) (nI c') (nI L) true y z (nI (p + ((fl R c f).length - k))) true (nI (L + 1)) := by
  have hF := fl_10 hR (Or.inl hc) hf
  have hG := fl_10 hR (Or.inl hc') hf
  generalize hx : (fl R c f).length = x at *
  generalize hq : (fl R c' f).length = q at *
  have en : (1000000 : Int32) * nI x + 100 * nI q = nI (1000000 * x + 100 * q) := by
    rw [show (1000000 : Int32) = nI 1000000 from rfl, q_100, q_mul, q_mul, q_add]
  rw [en]
  generalize hZ : 1000000 * x + 100 * q = Z
  have z1 : Z / 100 = 10000 * x + q := by omega
  have z2 : Z / 100 % 100 = q := by rw [z1]; omega
  have d1 : nI Z / 1000000 = nI x := by rw [q_div (L := 1000000) (d := 1000000) rfl (by omega) (by omega) (by omega)]; congr 1; omega
  have d2 : nI Z / 100 = nI (Z / 100) := q_div (L := 100) (d := 100) rfl (by omega) (by omega) (by omega)
  have r2 : nI (Z / 100) - nI (Z / 100) / 100 * 100 = nI q := by rw [q_rem (L := 100) (d := 100) rfl (by omega) (by omega) (by omega), z2]
  refine ⟨nI (k + (x - k)) + 0, nI (n' + (x - k)) + 0, ?_⟩
  unfold gp_areHunks_152 gp_areHunks_196
  rw [d1, d2, r2, if_pos (by rw [q_0, q_le (by omega) (by omega)]; omega), q_sub h1, q_sub h2, if_pos (by rw [h3]), if_pos (by rw [q_le (by omega) (by omega)]; exact h1)]
  refine (ah_198 hR hc hc' hf k90 x1 x2 x3 (nI L) (nI L) (nI Z) d1 (by omega) (x - k) rv_FU k n' p (FU_lt (by omega)) (by omega) (by omega) h4).trans ?_
  unfold gp_areHunks_255 gp_areHunks_285 gp_areHunks_290 gp_areHunks_314 gp_areHunks_335
  rw [if_pos rfl, if_neg (fun z => z rfl), if_pos rfl, if_pos rfl, q_succ]
theorem ah_90 {m k s s' c c' b f : Nat} (hm : m < gh.1 0) (h14 : R 14 m = nI k) (hk80 : k ≤ 80) (hs : s < k) (hs' : s' < k) (hf : f < 4) (ec : mAt n (R 5) (R 6) (nI m) (nI s) = nI c) (hc : c < n) (ec' : mAt n (R 5) (R 6) (nI m) (nI s') = nI c') (hc' : c' < n) (eb : R 2 c = nI b) (hb : b < n) (eb' : R 2 c' = nI b) (hL : (hk (fl R c f) (fl R c' f)).length ≤ 11) : ∀ (H : List (Nat × Nat × Nat × Nat)) (j kk n' p r fuel : Nat) (M : rv_Mem), (hk (fl R c f) (fl R c' f)).drop j = H → j ≤ (hk (fl R c f) (fl R c' f)).length → wlk (fl R c f) (fl R c' f) H kk n' p r → Rn n gh M R → H.length + 1 < fuel →
    ∃ M', Rn n gh M' R ∧ gp_areHunks_90 gh A fuel M (nI m) (nI s) (nI s') (nI f) (nI c) (nI c') (nI (hk (fl R c f) (fl R c' f)).length) true (nI kk) (nI n') (nI p) true (nI j) = gp_areHunks_344 gh A M' (nI m) (nI s) (nI s') (nI f) (nI c) (nI c') (nI (hk (fl R c f) (fl R c' f)).length) true (nI r) true := by
  intro H
  induction H with
  | nil =>
    intro j kk n' p r fuel M hj hjl hw hM hfu
    obtain ⟨w1, w2, w3, w4, w5⟩ := hw
    have ej : j = (hk (fl R c f) (fl R c' f)).length := by
      have := congrArg List.length hj
      rw [List.length_drop] at this
      simp at this; omega
    obtain ⟨f1, rfl⟩ : ∃ f1, fuel = f1 + 2 := ⟨fuel - 2, by simp at hfu; omega⟩
    obtain ⟨y, z, e⟩ := ah_last (A := A) hM hc hc' hf (gp_areHunks_90 gh A (f1 + 1)) (nI m) (nI s) (nI s') (p := p) hL w1 w2 w3 w4
    refine ⟨M, hM, ?_⟩
    rw [ej]
    show gp_areHunks_90_s gh A (gp_areHunks_90 gh A (f1 + 1)) M (nI m) (nI s) (nI s') (nI f) (nI c) (nI c') (nI (hk (fl R c f) (fl R c' f)).length) true (nI kk) (nI n') (nI p) true (nI (hk (fl R c f) (fl R c' f)).length) = _
    unfold gp_areHunks_90_s
    rw [if_pos (by rw [q_le (by omega) (by omega)]; omega), if_pos rfl, if_pos rfl, if_pos rfl, ak_size hM (Or.inl ⟨hc, rfl⟩) hf, o2_some, ak_size hM (Or.inl ⟨hc', rfl⟩) hf, o2_some, e]
    show gp_areHunks_90_s gh A (gp_areHunks_90 gh A f1) M (nI m) (nI s) (nI s') (nI f) (nI c) (nI c') (nI (hk (fl R c f) (fl R c' f)).length) true y z _ true _ = _
    unfold gp_areHunks_90_s
    rw [if_neg (by rw [q_le (by omega) (by omega)]; omega), w5]
  | cons h H ih =>
    obtain ⟨x, d, q, e⟩ := h
    intro j kk n' p r fuel M hj hjl hw hM hfu
    obtain ⟨w1, w2, w3, w4, w5, w6, w7, w8⟩ := hw
    have hlt : j < (hk (fl R c f) (fl R c' f)).length := by
      apply Classical.byContradiction
      intro z
      rw [List.drop_eq_nil_of_le (by omega)] at hj
      cases hj
    have hget : (hk (fl R c f) (fl R c' f))[j]? = some (x, d, q, e) := by
      have h0 : ((hk (fl R c f) (fl R c' f)).drop j)[0]? = some (x, d, q, e) := by rw [hj]; rfl
      rw [List.getElem?_drop] at h0
      exact h0
    have hdrop : (hk (fl R c f) (fl R c' f)).drop (j + 1) = H := by rw [← List.drop_drop, hj]; rfl
    obtain ⟨f1, rfl⟩ : ∃ f1, fuel = f1 + 1 := ⟨fuel - 1, by omega⟩
    obtain ⟨M1, e1, hM1⟩ := ak_hunkAt hM hm h14 hk80 hs hs' hf ec hc ec' hc' eb hb eb' hget
    have hF := fl_10 hM (Or.inl hc) hf
    have hG := fl_10 hM (Or.inl hc') hf
    have e2 := ah_hunk (A := A) hM1 hc hc' hf (gp_areHunks_90 gh A f1) (nI m) (nI s) (nI s') (p := p) hlt hL w1 w2 w3 w4 w5 (by omega) (by omega)
    obtain ⟨M2, hM2, e3⟩ := ih (j + 1) (x + d) (q + e) (p + (x - kk)) r f1 M1 hdrop (by omega) w8 hM1 (by simp at hfu; omega)
    refine ⟨M2, hM2, ?_⟩
    show gp_areHunks_90_s gh A (gp_areHunks_90 gh A f1) M (nI m) (nI s) (nI s') (nI f) (nI c) (nI c') (nI (hk (fl R c f) (fl R c' f)).length) true (nI kk) (nI n') (nI p) true (nI j) = _
    unfold gp_areHunks_90_s
    rw [if_pos (by rw [q_le (by omega) (by omega)]; omega), if_pos rfl, if_pos rfl, if_neg (by rw [q_eq (by omega) (by omega)]; omega), e1, x3k, e2]
    exact e3
theorem areHunks_ok (hR : Rn n gh C R) {m k s s' f : Nat} (hm : m < gh.1 0) (h14 : R 14 m = nI k) (hk80 : k ≤ 80) (hs : s < k) (hs' : s' < k) (hf : f < 4) : ∃ C', gp_areHunks gh C A (nI m) (nI s) (nI s') (nI f) = some (true, C') ∧ Rn n gh C' R := by
  have hn := hR.n80
  obtain ⟨c, c1, c2, c3, c4, c5, c6⟩ := ak_commitOf hR hm h14 hk80 hs
  obtain ⟨c', d1, d2, d3, d4, d5, d6⟩ := ak_commitOf hR hm h14 hk80 hs'
  obtain ⟨b, b1, -, b3, -⟩ := hR.base c1 c2
  obtain ⟨b', b1', -, b3', -⟩ := hR.base d1 d2
  have lt := cntH_11 (c' := c') (b := b) (b' := b') hR c2 hf true
  have lf := cntH_11 (c' := c') (b := b) (b' := b') hR c2 hf false
  -- by words
  have e379 : ∀ M, Rn n gh M R → ∃ M', gp_areHunks_379 gh A M (nI m) (nI s) (nI s') (nI f) = some (true, M') ∧ Rn n gh M' R := fun M hM => by
    obtain ⟨M', e, h⟩ := ak_hunks hM hm h14 hk80 hs hs' hf c5 c2 d5 d2 b3 (show b < n by omega) b3' (show b' < n by omega) true
    refine ⟨M', ?_, h⟩
    unfold gp_areHunks_379
    rw [e, x3k, if_pos (by rw [q_11, q_le (by omega) (by omega)]; exact lt)]
  obtain ⟨M1, m1, hM1⟩ := ak_hunks hR hm h14 hk80 hs hs' hf c5 c2 d5 d2 b3 (show b < n by omega) b3' (show b' < n by omega) false
  obtain ⟨M2, m2, hM2⟩ := ak_hunkEnd hM1 hm h14 hk80 hs hs' hf c5 c2 d5 d2 b3 (show b < n by omega) b3' (show b' < n by omega) false
  have L0 : 0 ≤ nI (cntH R c c' b b' f false).length := by rw [q_0, q_le (by omega) (by omega)]; omega
  unfold gp_areHunks
  rw [c6, x1k, d6, x1k, m1, x3k, ak_before hM1 (Or.inl ⟨c2, rfl⟩), x1k, ak_before hM1 (Or.inl ⟨d2, rfl⟩), x1k, b3, b3']
  by_cases q : b = b'
  · subst q
    rw [if_pos rfl]
    unfold gp_areHunks_48
    rw [if_pos L0, m2, x3k, if_pos rfl]
    unfold gp_areHunks_85
    have el : (cntH R c c' b b f false).length = (hk (fl R c f) (fl R c' f)).length := by rw [cntH_same, List.length_range]
    rw [el] at lf ⊢
    obtain ⟨M3, hM3, e3⟩ := ah_90 (A := A) hm h14 hk80 hs hs' hf c5 c2 d5 d2 b3 (show b < n by omega) b3' lf (hk (fl R c f) (fl R c' f)) 0 0 0 0 _ rv_FU M2 rfl (Nat.zero_le _) (wlk_hk _ _) hM2 (FU_lt (by omega))
    obtain ⟨M4, e4, hM4⟩ := e379 M3 hM3
    refine ⟨M4, ?_, hM4⟩
    refine Eq.trans e3 ?_
    unfold gp_areHunks_344
    rw [if_pos rfl, if_pos rfl, ak_most hM3 c2 d2 hf, o2_some, if_pos rfl]
    by_cases q2 : s = s'
    · subst q2
      have ecc : c' = c := by rw [c5, q_eq (by omega) (by omega)] at d5; exact d5.symm
      subst ecc
      rw [if_pos rfl, if_pos (by rw [hk_self]; rfl)]
      exact e4
    · rw [if_neg (by rw [q_eq (by omega) (by omega)]; exact q2)]
      exact e4
  · rw [if_neg (by rw [q_eq (by omega) (by omega)]; exact q)]
    unfold gp_areHunks_48
    rw [if_pos L0, m2, x3k, if_pos rfl]
    unfold gp_areHunks_85
    obtain ⟨M4, e4, hM4⟩ := e379 M2 hM2
    refine ⟨M4, ?_, hM4⟩
    show gp_areHunks_90_s gh A (gp_areHunks_90 gh A 99999) M2 (nI m) (nI s) (nI s') (nI f) (nI c) (nI c') (nI (cntH R c c' b b' f false).length) false 0 0 0 true 0 = _
    unfold gp_areHunks_90_s
    rw [if_pos (show (0 : Int32) ≤ nI (cntH R c c' b b' f false).length from L0), if_pos rfl, if_neg (by simp)]
    unfold gp_areHunks_344
    rw [if_pos rfl, if_neg (by simp)]
    exact e4
end
