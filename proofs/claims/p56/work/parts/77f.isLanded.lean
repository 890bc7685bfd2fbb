/-! isLanded -/
section
variable {n n' : Nat} {gh gh' : rC_gh} {C C' R R' M M' A A' : rv_Mem}
theorem pth_le {B : Nat → Int32} {Q : Nat → Prop} : ∀ L a z, pth B Q L a z → z + L ≤ a
  | 0, a, z, h => by have h : a = z := h; omega
  | L + 1, a, z, ⟨_, b, h0, _, h3⟩ => by
    have := pth_le L b z h3
    omega
theorem il_group (hR : Rn n gh C R) {h : Nat} (hh : h < gh.1 0) : ∃ x, gp_of gh C A 12 (nI h) 0 0 0 = some (x, C) ∧ (R 13 h = nI 0 → isG n (gh.1 0) R h x) := by
  by_cases ho : R 13 h = nI 0
  · obtain ⟨x, x1, x2⟩ := ak_group hR hh ho
    exact ⟨x, by rw [go_12, x1, x1k], fun _ => x2⟩
  · obtain ⟨-, -, -, ⟨s, -, e1, e2⟩, -⟩ := hR.chg h hh
    refine ⟨-1263, ?_, fun z => absurd z ho⟩
    have e : f11_group gh C (nI h) = some (.inr 3) := by
      unfold f11_group
      rw [ok_change hR hh, x1_inl, if_pos (is1 hh hR.ch20), e1, ← e2, if_pos (show ¬ R 13 h = 0 from ho)]
    rw [go_12, e, x1e, hh3]
theorem il_walk {g : Int32} (hR' : Rn n' gh C' R') (d8 : C' 23 = C 23) (hn : n < 82) (k188 : rC_gh → rv_Mem → Int32 → Int32 → Int32 → Int32 → Int32 → Int32 → Int32 → Bool → Int32 → Option (Bool × rC_gh × rv_Mem)) {x7 x8 x9 x10 : Int32} {r z : Nat} (hr : r < 2) (hz7 : r = 0 → x7 = nI z) (hz8 : r = 1 → x8 = nI z) : ∀ L t w fuel, pth (R' 2) (onL gh g n n' C R') L t z → t < n' → L < fuel → gp_isLanded_207 A k188 fuel gh C' g (nI n) x7 x8 x9 x10 (nI w) true (nI r) (nI t) = k188 gh C' g (nI n) x7 x8 x9 x10 (nI (w + L)) true (nI (r + 1)) := by
  have hn' := hR'.n80
  have hc := hR'.ch20
  have e : ∀ k207 w t, gp_isLanded_207_s A k188 k207 gh C' g (nI n) x7 x8 x9 x10 w true (nI r) t = gp_isLanded_221 A k188 k207 gh C' g (nI n) x7 x8 x9 x10 w true (nI r) t t (nI z) := fun k207 w t => by
    unfold gp_isLanded_207_s
    rcases (show r = 0 ∨ r = 1 by omega) with h | h
    · rw [if_pos (by rw [h]; rfl), hz7 h]
    · rw [if_neg (by rw [h]; decide), hz8 h]
  intro L
  induction L with
  | zero =>
    intro t w fuel h ht hf
    obtain ⟨f, rfl⟩ : ∃ f, fuel = f + 1 := ⟨fuel - 1, by omega⟩
    have h : t = z := h
    show gp_isLanded_207_s A k188 (gp_isLanded_207 A k188 f) gh C' g (nI n) x7 x8 x9 x10 (nI w) true (nI r) (nI t) = _
    rw [e]
    unfold gp_isLanded_221 gp_isLanded_300 gp_isLanded_315
    rw [if_neg (fun y => y (by rw [h])), if_pos rfl, if_pos (by rw [q_0, q_le (by omega) (by omega)]; omega), q_succ]
    rfl
  | succ L ih =>
    intro t w fuel h ht hf
    obtain ⟨f, rfl⟩ : ∃ f, fuel = f + 1 := ⟨fuel - 1, by omega⟩
    have hle := pth_le _ _ _ h
    obtain ⟨⟨t1, j, j1, j2, j3, j4⟩, b, b0, b1, b2⟩ := h
    have ih' := ih b (w + 1) f b2 (by omega) (by omega)
    show gp_isLanded_207_s A k188 (gp_isLanded_207 A k188 f) gh C' g (nI n) x7 x8 x9 x10 (nI w) true (nI r) (nI t) = _
    have e279 : gp_isLanded_279 A k188 (gp_isLanded_207 A k188 f) gh C' g (nI n) x7 x8 x9 x10 (nI w) (nI r) (nI t) = k188 gh C' g (nI n) x7 x8 x9 x10 (nI (w + (L + 1))) true (nI (r + 1)) := by
      unfold gp_isLanded_279 gp_isLanded_284
      rw [ak_before hR' (Or.inl ⟨t1, rfl⟩), x1k, b1, q_succ, ih', show w + 1 + L = w + (L + 1) by omega]
    rw [e]
    unfold gp_isLanded_221
    rw [if_pos (show ¬ nI t = nI z by rw [q_eq (by omega) (by omega)]; omega), if_pos (show 0 ≤ nI t by rw [q_0, q_le (by omega) (by omega)]; omega), if_pos rfl, ak_named hR' t1, x1k, j3, if_pos (show 0 ≤ nI j by rw [q_0, q_le (by omega) (by omega)]; omega), x1k, if_pos (by rw [b_test (by omega)]; exact j2)]
    by_cases c : t < n
    · rw [if_pos (by rw [q_lt (by omega) (by omega)]; exact c), x1k]
      obtain ⟨k, c', b', -, -, -, -, y2, -, -, -, y3, -, -, -, y4⟩ := ak_now (A := A) hR' j1
      obtain ⟨k2, c2, -, -, -, -, a1, a2, a3, a4, -, -, a7, -⟩ := hR'.cur j1
      have et : c' = t := by
        rcases j4 with j4 | j4
        · omega
        · rw [d8, j4, q_eq (by omega) (by omega)] at a3
          rw [a7, q_eq (by omega) (by omega)] at y3
          omega
      rw [y4, o2_some, if_pos (by rw [et])]
      exact e279
    · rw [if_neg (by rw [q_lt (by omega) (by omega)]; exact c)]
      exact e279
theorem il_102 {x : Int32} (hR' : Rn n' gh C' R') (d4 : ∀ i, i < gh.1 0 → bt x i = true → R' 13 i = nI 1 ∧ R' 20 i = 0) {a6 a7 a8 a9 : Int32} : ∀ d k m fuel, k + d = gh.1 0 → d < fuel → gp_isLanded_102 A fuel gh C' x a6 a7 a8 a9 (nI m) true (nI k) = gp_isLanded_188 A rv_FU gh C' x a6 a7 a8 a9 (nI (m + cn (bt x) k d)) (nI 0) true (nI 0) := by
  have hc := hR'.ch20
  intro d
  induction d with
  | zero =>
    intro k m fuel h1 h2
    obtain ⟨f, rfl⟩ : ∃ f, fuel = f + 1 := ⟨fuel - 1, by omega⟩
    show gp_isLanded_102_s A (gp_isLanded_102 A f) gh C' x a6 a7 a8 a9 (nI m) true (nI k) = _
    unfold gp_isLanded_102_s
    have e0 : m + cn (bt x) k 0 = m := rfl
    rw [e0, show f11_changes gh C' = some (nI (gh.1 0)) from rfl, o1_some, if_neg (by rw [q_lt (by omega) (by omega)]; omega), q_0]
  | succ d ih =>
    intro k m fuel h1 h2
    obtain ⟨f, rfl⟩ : ∃ f, fuel = f + 1 := ⟨fuel - 1, by omega⟩
    show gp_isLanded_102_s A (gp_isLanded_102 A f) gh C' x a6 a7 a8 a9 (nI m) true (nI k) = _
    unfold gp_isLanded_102_s
    rw [show f11_changes gh C' = some (nI (gh.1 0)) from rfl, o1_some, if_pos (by rw [q_lt (by omega) (by omega)]; omega), cn_s]
    cases hb : bt x k with
    | true =>
      obtain ⟨y1, y2⟩ := d4 k (by omega) hb
      have hik := ih (k + 1) (m + 1) f (by omega) (by omega)
      rw [if_pos (by rw [b_test (by omega)]; exact hb), if_pos rfl]
      unfold gp_isLanded_126 gp_isLanded_140 gp_isLanded_172 gp_isLanded_177
      rw [if_pos rfl, if_pos rfl, if_pos rfl, ak_state hR' (by omega), x1k, y1, if_pos (show nI 1 = 1 from rfl), ak_turn hR' (by omega), x1k, y2, if_pos rfl, rvi_t, q_add, q_succ, hik, show m + 1 + cn (bt x) (k + 1) d = m + (1 + cn (bt x) (k + 1) d) by omega]
    | false =>
      have hik := ih (k + 1) m f (by omega) (by omega)
      rw [if_neg (by rw [b_test (by omega), hb]; simp), if_neg (by simp)]
      unfold gp_isLanded_126 gp_isLanded_140 gp_isLanded_172 gp_isLanded_177
      rw [if_neg (by simp), if_pos rfl, if_neg (by simp), rvi_f, q_add, q_succ, Nat.add_zero, hik, Nat.zero_add]
theorem il_188 {g : Int32} (hR' : Rn n' gh C' R') (d8 : C' 23 = C 23) (hn : n < 82) {L : Nat → Nat} (d10 : ∀ r, r < 2 → ∃ t z, R' 9 r = nI t ∧ R 9 r = nI z ∧ t < n' ∧ pth (R' 2) (onL gh g n n' C R') (L r) t z) {x9 x10 : Int32} (f w r : Nat) (hr : r < 2) : gp_isLanded_188 A (f + 1) gh C' g (nI n) (R 9 0) (R 9 1) x9 x10 (nI w) true (nI r) = gp_isLanded_188 A f gh C' g (nI n) (R 9 0) (R 9 1) x9 x10 (nI (w + L r)) true (nI (r + 1)) := by
  have hn' := hR'.n80
  obtain ⟨t, z, y1, y2, y3, y4⟩ := d10 r hr
  show gp_isLanded_188_s A (gp_isLanded_188 A f) gh C' g (nI n) (R 9 0) (R 9 1) x9 x10 (nI w) true (nI r) = _
  unfold gp_isLanded_188_s
  have hl := pth_le _ _ _ y4
  rw [if_pos (by rw [q_2, q_lt (by omega) (by omega)]; exact hr), if_pos rfl, ak_tip hR' hr, x1k, y1]
  exact il_walk hR' d8 hn _ hr (fun h => by rw [← y2, h]) (fun h => by rw [← y2, h]) (L r) t w rv_FU y4 y3 (FU_lt (by omega))
theorem il_fin {g : Int32} {f a w r : Nat} (hr : 2 ≤ r) (hr2 : r < 100) (hR' : Rn n' gh C' R') {t0 t1 : Int32} (h1 : 1 ≤ w) (h2 : w ≤ a) (h3 : n' ≤ n + w) (ha : a < 100) (hn : n < 100) : gp_isLanded_188 A (f + 1) gh C' g (nI n) t0 t1 (nI a) (nI a) (nI w) true (nI r) = some (true, gh, C') := by
  have hn' := hR'.n80
  show gp_isLanded_188_s A (gp_isLanded_188 A f) gh C' g (nI n) t0 t1 (nI a) (nI a) (nI w) true (nI r) = _
  unfold gp_isLanded_188_s gp_isLanded_323
  rw [if_neg (by rw [q_2, q_lt (by omega) (by omega)]; omega), if_pos rfl, if_pos rfl, if_pos (by rw [q_1, q_le (by omega) (by omega)]; omega), if_pos (by rw [q_le (by omega) (by omega)]; omega), ak_commits hR', o1_some, q_add, if_pos (by rw [q_le (by omega) (by omega)]; omega)]
theorem isLanded_ok (hR : Rn n gh C R) (J : JI n gh R A) {p h : Nat} (hp : p < 6) (hh : h < gh.1 0) : ∃ n' C' R', gp_isLanded gh C A (nI p) (nI h) = some (true, gh, C') ∧ Rn n' gh C' R' ∧ JI n' gh R' A ∧ R' 52 = R 52 := by
  have hc := hR.ch20
  have hn := hR.n80
  obtain ⟨x, g1, g2⟩ := il_group (A := A) hR hh
  obtain ⟨v, hv⟩ := av_all (n := n) (gh := gh) (R := R) (A := A) hc
  have cmp : lg_cmp v v = 0 := by unfold lg_cmp; simp
  have eI : gp_isLanded gh C A (nI p) (nI h) = lk_o3 (gp_act gh C A 20 (nI p) (nI h) 0 0 0) (fun r18 g20 M19 => (if r18 ≤ 0 then rv_o2 (gp_all g20 M19 A) (fun r22 M23 => (if (lg_cmp r22 v) = 0 then (if ¬ r18 = 0 then (if ¬ r18 = (-1) then (if r18 = (-1263) then gp_isLanded_84 A g20 M23 else (some (false, g20, M23))) else gp_isLanded_84 A g20 M23) else gp_isLanded_84 A g20 M23) else (some (false, g20, M23)))) else gp_isLanded_102 A rv_FU g20 M19 x (nI n) (R 9 0) (R 9 1) r18 0 true 0)) := by
    unfold gp_isLanded
    rw [g1, o2_some, hv C hR, o2_some, ak_commits hR, o1_some, show f11_tip gh C 0 = some (.inl (R 9 0)) from ak_tip hR (r := 0) (by omega), x1k, show f11_tip gh C 1 = some (.inl (R 9 1)) from ak_tip hR (r := 1) (by omega), x1k]
  rw [eI]
  rcases t_lands (A := A) hR hp hh 0 0 0 with ⟨v1, C', e1, e2, e3, e4⟩ | ⟨n', g, C', R', e1, e2, e3, hR', D⟩
  · refine ⟨n, C', R, ?_, e2, J, rfl⟩
    rw [e1, o3k, if_pos e3, hv C' e2, o2_some, if_pos cmp]
    unfold gp_isLanded_84
    rcases e4 with e4 | e4 | e4
    · rw [e4, if_neg (fun z => z rfl)]
    · rw [e4, if_pos (by decide), if_neg (fun z => z rfl)]
    · rw [e4, if_pos (by decide), if_pos (by decide), if_pos rfl]
  · have exg : x = g := isG_uniq (g2 e2) e3
    subst exg
    have hgc := e3.2.2.2
    have hpos := bs_pos (show h < 20 by omega) e3.1
    have hbs := bs_le x 20
    have J' := JI_land hR hR' J (by omega) D
    obtain ⟨d1, d2, d3, d4, d5, d6, d7, d8, d9, L, d10, d11, d12, d13⟩ := D
    have hn' := hR'.n80
    have ecn : cn (bt x) 0 (gh.1 0) = bs x 20 := by
      have e : bs x 20 = cn (bt x) 0 (gh.1 0 + (20 - gh.1 0)) := by
        rw [bs_cn, show gh.1 0 + (20 - gh.1 0) = 20 by omega]
      rw [e, cn_app, cn_zero (20 - gh.1 0) (0 + gh.1 0) (fun j h1 h2 => hgc j (by omega) (by omega)), Nat.add_zero]
    refine ⟨n', C', R', ?_, hR', J', d3 52 (by omega)⟩
    have s0 := il_102 (A := A) (a6 := nI n) (a7 := R 9 0) (a8 := R 9 1) (a9 := nI (bs x 20)) hR' d4 (gh.1 0) 0 0 rv_FU (Nat.zero_add _) (FU_lt (by omega))
    rw [ecn, Nat.zero_add] at s0
    obtain ⟨f, hf⟩ : ∃ f, rv_FU = f + 1 + 1 + 1 := ⟨rv_FU - 3, by have := FU_lt (show 3 < 100000 by omega); omega⟩
    have s1 := il_188 (A := A) (x9 := nI (bs x 20)) (x10 := nI (bs x 20)) hR' d8 (by omega) d10 (f + 1 + 1) 0 0 (by omega)
    have s2 := il_188 (A := A) (x9 := nI (bs x 20)) (x10 := nI (bs x 20)) hR' d8 (by omega) d10 (f + 1) (0 + L 0) 1 (by omega)
    have s3 := il_fin (A := A) (g := x) (n := n) (f := f) (a := bs x 20) (w := 0 + L 0 + L 1) (r := 1 + 1) (t0 := R 9 0) (t1 := R 9 1) (by omega) (by omega) hR' (by omega) (by omega) (by omega) (by omega) (by omega)
    rw [e1, o3k, if_neg (show ¬ nI (bs x 20) ≤ 0 by rw [q_0, q_le (by omega) (by omega)]; omega), q_0, s0, hf, s1, s2, s3]
end
