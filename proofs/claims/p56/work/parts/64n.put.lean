/-! PUT AND CUT -/
def insI (kl : Nat) (M0 : rv_Mem) (B S k : Nat) (M : rv_Mem) : Prop := (∀ q, q ≠ kl → M q = M0 q) ∧ ∀ i, M kl i = if B + k < i ∧ i ≤ B + S then M0 kl (i - 1) else M0 kl i
theorem insI_step {kl : Nat} {M0 M : rv_Mem} {B S k : Nat} (h0 : 0 < k) (hk : k ≤ S) (h : insI kl M0 B S k M) : insI kl M0 B S (k - 1) (rv_u M kl (B + k) (M kl (B + k - 1))) := by
  refine ⟨fun q hq => by rw [mu_ne hq]; exact h.1 q hq, fun i => ?_⟩
  by_cases e : i = B + k
  · subst e
    rw [mu_same, if_pos (by omega), h.2, if_neg (by omega)]
  · rw [mu_ne2 e, h.2]
    by_cases c : B + k < i ∧ i ≤ B + S
    · rw [if_pos c, if_pos (by omega)]
    · rw [if_neg c, if_neg (by omega)]
/-- a line put on the desk -/
def insD (kl ks : Nat) (M0 M : rv_Mem) (f P S : Nat) (v : Int32) : Prop := (∀ q, q ≠ kl → q ≠ ks → M q = M0 q) ∧ (∀ i, M kl i = if i = 10 * (320 + f) + P then v else if 10 * (320 + f) + P < i ∧ i ≤ 10 * (320 + f) + S then M0 kl (i - 1) else M0 kl i) ∧ ∀ i, M ks i = if i = 320 + f then nI (S + 1) else M0 ks i
theorem insD_of {kl ks : Nat} {M0 M : rv_Mem} {f P S : Nat} {v : Int32} (hks : kl ≠ ks) (h : insI kl M0 (10 * (320 + f)) S P M) : insD kl ks M0 (rv_u (rv_u M kl (10 * (320 + f) + P) v) ks (320 + f) (nI (S + 1))) f P S v := by
  refine ⟨fun q h1 h2 => by rw [mu_ne h2, mu_ne h1]; exact h.1 q h1, fun i => ?_, fun i => ?_⟩
  · rw [mu_ne hks]
    by_cases e : i = 10 * (320 + f) + P
    · subst e; rw [mu_same, if_pos rfl]
    · rw [mu_ne2 e, if_neg e, h.2]
  · by_cases e : i = 320 + f
    · subst e; rw [mu_same, if_pos rfl]
    · rw [mu_ne2 e, if_neg e, mu_ne (Ne.symm hks)]
      rw [h.1 ks (Ne.symm hks)]
theorem s9_insertOnDesk {gh : rC_gh} {C : rv_Mem} {f P S : Nat} {v : Int32} (hf : f < 4) (hS : S < 10) (hP : P ≤ S) (hs : C 15 (320 + f) = nI S) : ∃ C', f9_insertOnDesk gh C (nI f) (nI P) v = some C' ∧ insD 14 15 C C' f P S v := by
  have L := rv_ud (z := (fun _ _ _ _ _ _ _ => none)) (F := f9_insertOnDesk_21_s gh) (fun T k M => T M (nI f) (nI P) v (nI (10 * (320 + f))) (nI S) (nI k)) P (fun k M => k ≤ S ∧ insI 14 C (10 * (320 + f)) S k M) (fun M => some (rv_u (rv_u M 14 (10 * (320 + f) + P) v) 15 (320 + f) (nI (S + 1)))) ?_ ?_ rv_FU S C hP (FU_lt (by omega)) ⟨Nat.le_refl _, fun _ _ => rfl, fun i => by rw [if_neg (by omega)]⟩
  · obtain ⟨M, ⟨-, h1⟩, h2⟩ := L
    refine ⟨_, ?_, insD_of (by omega) h1⟩
    rw [← h2]
    unfold f9_insertOnDesk f9_startOf f9_insertOnDesk_21
    have e1 : (80 * 4 + f) * 10 = 10 * (320 + f) := by omega
    have e2 : 4 * 80 + f = 320 + f := by omega
    simp (disch := omega) only [q_no, q_no2, q_0, q_1, q_2, q_3, q_4, q_5, q_6, q_7, q_8, q_10, q_11, q_12, q_15, q_16, q_17, q_20, q_30, q_31, q_32, q_40, q_45, q_60, q_80, q_81, q_82, q_100, q_320, q_328, q_399, q_400, q_3280, q_nc, q_eq, q_lt, q_le, q_add, q_mul, q_in, q_inno, q_no_eq, q_no_eq', q_no_lt, q_lt_no, q_no_le, q_le_no, o1_some, o2_some, lt_do, x1_inl, x1_inr, x2_inl, x2_inr, if_true, if_false, if_pos, if_neg, rvi_t, rvi_f, bt_f, bf_t, bb_t, bb_f, not_true_eq_false, not_false_eq_true, e1, s9_sizeOf (gh := gh) (C := C) (c := 80) (f := f) (by omega) hf, e2, hs]
  · intro T k M hk ⟨hk2, hI⟩
    refine ⟨_, ⟨by omega, insI_step (by omega) hk2 hI⟩, ?_⟩
    show f9_insertOnDesk_21_s gh T M (nI f) (nI P) v (nI (10 * (320 + f))) (nI S) (nI k) = _
    unfold f9_insertOnDesk_21_s
    have hsz : M 15 (4 * 80 + f) = nI S := by rw [hI.1 15 (by omega), show 4 * 80 + f = 320 + f by omega]; exact hs
    have e2 : 10 * (4 * 80 + f) + (k - 1) = 10 * (320 + f) + k - 1 := by omega
    simp (disch := omega) only [q_no, q_no2, q_0, q_1, q_2, q_3, q_4, q_5, q_6, q_7, q_8, q_10, q_11, q_12, q_15, q_16, q_17, q_20, q_30, q_31, q_32, q_40, q_45, q_60, q_80, q_81, q_82, q_100, q_320, q_328, q_399, q_400, q_3280, q_nc, q_eq, q_lt, q_le, q_add, q_mul, q_in, q_inno, q_no_eq, q_no_eq', q_no_lt, q_lt_no, q_no_le, q_le_no, o1_some, o2_some, lt_do, x1_inl, x1_inr, x2_inl, x2_inr, if_true, if_false, if_pos, if_neg, rvi_t, rvi_f, bt_f, bf_t, bb_t, bb_f, not_true_eq_false, not_false_eq_true, q_sub, q_dec, s9_lineAt (gh := gh) (C := M) (c := 80) (f := f) (p := k - 1) (by omega) hf hsz (by omega) (by omega), s9_write (gh := gh) (C := M) (k := 14) (L := 3280) (i := 10 * (320 + f) + k) (by omega) rfl rfl (by omega), e2]
  · intro T M ⟨_, hI⟩
    show f9_insertOnDesk_21_s gh T M (nI f) (nI P) v (nI (10 * (320 + f))) (nI S) (nI P) = _
    unfold f9_insertOnDesk_21_s
    simp (disch := omega) only [q_no, q_no2, q_0, q_1, q_2, q_3, q_4, q_5, q_6, q_7, q_8, q_10, q_11, q_12, q_15, q_16, q_17, q_20, q_30, q_31, q_32, q_40, q_45, q_60, q_80, q_81, q_82, q_100, q_320, q_328, q_399, q_400, q_3280, q_nc, q_eq, q_lt, q_le, q_add, q_mul, q_in, q_inno, q_no_eq, q_no_eq', q_no_lt, q_lt_no, q_no_le, q_le_no, o1_some, o2_some, lt_do, x1_inl, x1_inr, x2_inl, x2_inr, if_true, if_false, if_pos, if_neg, rvi_t, rvi_f, bt_f, bf_t, bb_t, bb_f, not_true_eq_false, not_false_eq_true, s9_write (gh := gh) (C := M) (k := 14) (L := 3280) (i := 10 * (320 + f) + P) (v := v) (by omega) rfl rfl (by omega), s9_write (gh := gh) (C := rv_u M 14 (10 * (320 + f) + P) v) (k := 15) (L := 328) (i := 320 + f) (v := nI (S + 1)) (by omega) rfl rfl (by omega)]
theorem s12_put_89 {M0 : rv_Mem} {f P S : Nat} {v : Int32} (hf : f < 4) (hS : S < 10) (hP : P ≤ S) (hs : M0 3 (320 + f) = nI S) : ∃ M', f12_put_89 rv_FU M0 (nI f) (nI P) v (nI (10 * (320 + f))) (nI (10 * (320 + f) + S)) = some (nI (S + 1), M') ∧ insD 4 3 M0 M' f P S v := by
  have L := rv_ud (z := (fun _ _ _ _ _ _ => none)) (F := f12_put_89_s) (fun T k M => T M (nI f) (nI P) v (nI (10 * (320 + f))) (nI (10 * (320 + f) + k))) P (fun k M => k ≤ S ∧ insI 4 M0 (10 * (320 + f)) S k M) (fun M => some (nI (S + 1), rv_u (rv_u M 4 (10 * (320 + f) + P) v) 3 (320 + f) (nI (S + 1)))) ?_ ?_ rv_FU S M0 hP (FU_lt (by omega)) ⟨Nat.le_refl _, fun _ _ => rfl, fun i => by rw [if_neg (by omega)]⟩
  · obtain ⟨M, ⟨-, h1⟩, h2⟩ := L
    exact ⟨_, h2, insD_of (by omega) h1⟩
  · intro T k M hk ⟨hk2, hI⟩
    refine ⟨_, ⟨by omega, insI_step (by omega) hk2 hI⟩, ?_⟩
    show f12_put_89_s T M (nI f) (nI P) v (nI (10 * (320 + f))) (nI (10 * (320 + f) + k)) = _
    unfold f12_put_89_s
    have e2 : 10 * (320 + f) + k - 1 = 10 * (320 + f) + (k - 1) := by omega
    simp (disch := omega) only [q_no, q_no2, q_0, q_1, q_2, q_3, q_4, q_5, q_6, q_7, q_8, q_10, q_11, q_12, q_15, q_16, q_17, q_20, q_30, q_31, q_32, q_40, q_45, q_60, q_80, q_81, q_82, q_100, q_320, q_328, q_399, q_400, q_3280, q_nc, q_eq, q_lt, q_le, q_add, q_mul, q_in, q_inno, q_no_eq, q_no_eq', q_no_lt, q_lt_no, q_no_le, q_le_no, o1_some, o2_some, lt_do, x1_inl, x1_inr, x2_inl, x2_inr, if_true, if_false, if_pos, if_neg, rvi_t, rvi_f, bt_f, bf_t, bb_t, bb_f, not_true_eq_false, not_false_eq_true, q_sub, q_dec, e2]
  · intro T M ⟨_, hI⟩
    show f12_put_89_s T M (nI f) (nI P) v (nI (10 * (320 + f))) (nI (10 * (320 + f) + P)) = _
    unfold f12_put_89_s
    have hsz : rv_u M 4 (10 * (320 + f) + P) v 3 (320 + f) = nI S := by rw [mu_ne (by omega), hI.1 3 (by omega)]; exact hs
    have e2 : 4 * 80 + f = 320 + f := by omega
    simp (disch := omega) only [q_no, q_no2, q_0, q_1, q_2, q_3, q_4, q_5, q_6, q_7, q_8, q_10, q_11, q_12, q_15, q_16, q_17, q_20, q_30, q_31, q_32, q_40, q_45, q_60, q_80, q_81, q_82, q_100, q_320, q_328, q_399, q_400, q_3280, q_nc, q_eq, q_lt, q_le, q_add, q_mul, q_in, q_inno, q_no_eq, q_no_eq', q_no_lt, q_lt_no, q_no_le, q_le_no, o1_some, o2_some, lt_do, x1_inl, x1_inr, x2_inl, x2_inr, if_true, if_false, if_pos, if_neg, rvi_t, rvi_f, bt_f, bf_t, bb_t, bb_f, not_true_eq_false, not_false_eq_true, hsz, s12_sizeOf (M := rv_u (rv_u M 4 (10 * (320 + f) + P) v) 3 (320 + f) (nI (S + 1))) (c := 80) (f := f) (by omega) hf, e2, mu_same]
theorem Rn_put {n : Nat} {gh : rC_gh} {C C' R R' : rv_Mem} (h : Rn n gh C R) {f P S v : Nat} (hf : f < 4) (hS : S < 10) (hP : P ≤ S) (hv : v < 400) (hs : C 15 (320 + f) = nI S) (hC : insD 14 15 C C' f P S (nI v)) (hR : insD 4 3 R R' f P S (nI v)) (h64 : rv_z (R' 64 0) = false) : Rn n gh C' R' := by
  have hn := h.n80
  obtain ⟨c1, c2, c3⟩ := hC
  obtain ⟨r1, r2, r3⟩ := hR
  obtain ⟨b, b1, b2, b3⟩ := h.bas.2.2.2
  refine Rn_desk h (fun k h1 h2 _ _ => c1 k h1 h2) (fun c _ => by rw [c1 16 (by omega) (by omega)]) (fun c _ => by rw [c1 17 (by omega) (by omega)]) (fun k _ _ h2 h3 => r1 k h3 h2) (fun c _ => by rw [r1 2 (by omega) (by omega)]) (fun i hi => by rw [r3, if_neg (by omega)]) (fun i hi => by rw [r2, if_neg (by omega), if_neg (by omega)]) ?_ ⟨b, b1, by rw [c1 17 (by omega) (by omega)]; exact b2, by rw [r1 2 (by omega) (by omega)]; exact b3⟩ h64
  intro c hc g hg
  obtain ⟨s, s1, s2, s3, s4⟩ := h.fil c hc g hg
  by_cases e : 4 * c + g = 320 + f
  · rw [e] at s2 s3 s4 ⊢
    have es : s = S := by rw [hs, q_eq (by omega) (by omega)] at s2; exact s2.symm
    subst es
    refine ⟨s + 1, by omega, by rw [c3, if_pos rfl], by rw [r3, if_pos rfl], fun p hp => ?_⟩
    rw [c2, r2]
    by_cases e1 : p = P
    · subst e1
      rw [if_pos rfl, if_pos rfl]
      exact ⟨v, hv, rfl, rfl⟩
    · by_cases e2 : P < p
      · rw [if_neg (by omega), if_pos (by omega), if_neg (by omega), if_pos (by omega), show 10 * (320 + f) + p - 1 = 10 * (320 + f) + (p - 1) by omega]
        exact s4 (p - 1) (by omega)
      · rw [if_neg (by omega), if_neg (by omega), if_neg (by omega), if_neg (by omega)]
        exact s4 p (by omega)
  · refine ⟨s, s1, by rw [c3, if_neg e]; exact s2, by rw [r3, if_neg e]; exact s3, fun p hp => ?_⟩
    rw [c2, r2, if_neg (by omega), if_neg (by omega), if_neg (by omega), if_neg (by omega)]
    exact s4 p hp
theorem h_put : ∀ gh MC MR, Rel gh MC MR → ∀ p1 p2 p3, rS_put Rel gh MC MR p1 p2 p3 := fun gh C R h p1 p2 p3 => by
  obtain ⟨n, hR⟩ := h
  have hn := hR.n80
  unfold rS_put f11_put f12_put f12_put_23 f12_put_59 f12_goes
  have bad : ∀ v, Rel gh C (rv_u R 66 0 v) := fun v => ⟨n, Rn_66 hR⟩
  rcases d_file gh C p1 with ⟨f, hf, rfl, e1, e2⟩ | ⟨e1, e2⟩
  · rw [e1, e2]
    obtain ⟨S, s1, s2, s3, -⟩ := hR.fil 80 (Or.inr rfl) f hf
    have k1 := s9_sizeOf (gh := gh) (C := C) (c := 80) (f := f) (by omega) hf
    have k2 := s12_sizeOf (M := R) (c := 80) (f := f) (by omega) hf
    rw [s2] at k1
    rw [s3] at k2
    rw [show 4 * 80 + f = 320 + f by omega] at s2 s3
    rcases q_any p2 with hx | ⟨P, hP, rfl⟩
    · right; left
      simp (disch := omega) only [q_no, q_no2, q_0, q_1, q_2, q_3, q_4, q_5, q_6, q_7, q_8, q_10, q_11, q_12, q_15, q_16, q_17, q_20, q_30, q_31, q_32, q_40, q_45, q_60, q_80, q_81, q_82, q_100, q_320, q_328, q_399, q_400, q_3280, q_nc, q_eq, q_lt, q_le, q_add, q_mul, q_in, q_inno, q_no_eq, q_no_eq', q_no_lt, q_lt_no, q_no_le, q_le_no, o1_some, o2_some, lt_do, x1_inl, x1_inr, x2_inl, x2_inr, if_true, if_false, if_pos, if_neg, rvi_t, rvi_f, bt_f, bf_t, bb_t, bb_f, not_true_eq_false, not_false_eq_true, k1, k2, q_neg0 hx, s12_isIn_neg hx]
      exact ⟨C, rv_u R 66 0 (nI 1), nI 0, by trivial, by trivial, mu_same _ _ _ _, bad _⟩
    · by_cases hPS : P ≤ S
      · rcases q_any p3 with hx | ⟨v, hv, rfl⟩
        · right; right; left
          simp (disch := omega) only [q_no, q_no2, q_0, q_1, q_2, q_3, q_4, q_5, q_6, q_7, q_8, q_10, q_11, q_12, q_15, q_16, q_17, q_20, q_30, q_31, q_32, q_40, q_45, q_60, q_80, q_81, q_82, q_100, q_320, q_328, q_399, q_400, q_3280, q_nc, q_eq, q_lt, q_le, q_add, q_mul, q_in, q_inno, q_no_eq, q_no_eq', q_no_lt, q_lt_no, q_no_le, q_le_no, o1_some, o2_some, lt_do, x1_inl, x1_inr, x2_inl, x2_inr, if_true, if_false, if_pos, if_neg, rvi_t, rvi_f, bt_f, bf_t, bb_t, bb_f, not_true_eq_false, not_false_eq_true, k1, k2, q_neg0 hx, s12_isIn_neg hx, isIn_t]
          exact ⟨C, rv_u R 66 0 (nI 2), nI 0, by trivial, by trivial, mu_same _ _ _ _, bad _⟩
        · by_cases hv4 : v < 400
          · by_cases hS : S = 10
            · right; right; right
              subst hS
              simp (disch := omega) only [q_no, q_no2, q_0, q_1, q_2, q_3, q_4, q_5, q_6, q_7, q_8, q_10, q_11, q_12, q_15, q_16, q_17, q_20, q_30, q_31, q_32, q_40, q_45, q_60, q_80, q_81, q_82, q_100, q_320, q_328, q_399, q_400, q_3280, q_nc, q_eq, q_lt, q_le, q_add, q_mul, q_in, q_inno, q_no_eq, q_no_eq', q_no_lt, q_lt_no, q_no_le, q_le_no, o1_some, o2_some, lt_do, x1_inl, x1_inr, x2_inl, x2_inr, if_true, if_false, if_pos, if_neg, rvi_t, rvi_f, bt_f, bf_t, bb_t, bb_f, not_true_eq_false, not_false_eq_true, k1, k2, isIn_t]
              exact ⟨C, rv_u R 66 0 (nI 3), nI 0, by trivial, by trivial, mu_same _ _ _ _, bad _⟩
            · left
              obtain ⟨C', g1, g2⟩ := s9_insertOnDesk (gh := gh) (C := C) (f := f) (P := P) (S := S) (v := nI v) hf (by omega) hPS s2
              obtain ⟨R', g3, g4⟩ := s12_put_89 (M0 := rv_u R 66 0 (nI 0)) (f := f) (P := P) (S := S) (v := nI v) hf (by omega) hPS (by rw [mu_ne (by omega)]; exact s3)
              have k3 := s12_sizeOf (M := rv_u R 66 0 (nI 0)) (c := 80) (f := f) (by omega) hf
              rw [mu_ne (by omega), show 4 * 80 + f = 320 + f by omega, s3] at k3
              simp (disch := omega) only [q_no, q_no2, q_0, q_1, q_2, q_3, q_4, q_5, q_6, q_7, q_8, q_10, q_11, q_12, q_15, q_16, q_17, q_20, q_30, q_31, q_32, q_40, q_45, q_60, q_80, q_81, q_82, q_100, q_320, q_328, q_399, q_400, q_3280, q_nc, q_eq, q_lt, q_le, q_add, q_mul, q_in, q_inno, q_no_eq, q_no_eq', q_no_lt, q_lt_no, q_no_le, q_le_no, o1_some, o2_some, lt_do, x1_inl, x1_inr, x2_inl, x2_inr, if_true, if_false, if_pos, if_neg, rvi_t, rvi_f, bt_f, bf_t, bb_t, bb_f, not_true_eq_false, not_false_eq_true, k1, k2, k3, isIn_t, g1, g3]
              refine ⟨nI (S + 1), C', R', rfl, rfl, by rw [g4.1 66 (by omega) (by omega), mu_same], ⟨n, ?_⟩⟩
              exact Rn_put (Rn_66 (v := nI 0) hR) hf (by omega) hPS hv4 s2 g2 g4 (by rw [g4.1 64 (by omega) (by omega), mu_ne (by omega)]; exact hR.h64)
          · right; right; left
            simp (disch := omega) only [q_no, q_no2, q_0, q_1, q_2, q_3, q_4, q_5, q_6, q_7, q_8, q_10, q_11, q_12, q_15, q_16, q_17, q_20, q_30, q_31, q_32, q_40, q_45, q_60, q_80, q_81, q_82, q_100, q_320, q_328, q_399, q_400, q_3280, q_nc, q_eq, q_lt, q_le, q_add, q_mul, q_in, q_inno, q_no_eq, q_no_eq', q_no_lt, q_lt_no, q_no_le, q_le_no, o1_some, o2_some, lt_do, x1_inl, x1_inr, x2_inl, x2_inr, if_true, if_false, if_pos, if_neg, rvi_t, rvi_f, bt_f, bf_t, bb_t, bb_f, not_true_eq_false, not_false_eq_true, k1, k2, isIn_t, isIn_f]
            exact ⟨C, rv_u R 66 0 (nI 2), nI 0, by trivial, by trivial, mu_same _ _ _ _, bad _⟩
      · right; left
        simp (disch := omega) only [q_no, q_no2, q_0, q_1, q_2, q_3, q_4, q_5, q_6, q_7, q_8, q_10, q_11, q_12, q_15, q_16, q_17, q_20, q_30, q_31, q_32, q_40, q_45, q_60, q_80, q_81, q_82, q_100, q_320, q_328, q_399, q_400, q_3280, q_nc, q_eq, q_lt, q_le, q_add, q_mul, q_in, q_inno, q_no_eq, q_no_eq', q_no_lt, q_lt_no, q_no_le, q_le_no, o1_some, o2_some, lt_do, x1_inl, x1_inr, x2_inl, x2_inr, if_true, if_false, if_pos, if_neg, rvi_t, rvi_f, bt_f, bf_t, bb_t, bb_f, not_true_eq_false, not_false_eq_true, k1, k2, isIn_f]
        exact ⟨C, rv_u R 66 0 (nI 1), nI 0, by trivial, by trivial, mu_same _ _ _ _, bad _⟩
  · right; left
    rw [e1, e2]
    simp (disch := omega) only [q_no, q_no2, q_0, q_1, q_2, q_3, q_4, q_5, q_6, q_7, q_8, q_10, q_11, q_12, q_15, q_16, q_17, q_20, q_30, q_31, q_32, q_40, q_45, q_60, q_80, q_81, q_82, q_100, q_320, q_328, q_399, q_400, q_3280, q_nc, q_eq, q_lt, q_le, q_add, q_mul, q_in, q_inno, q_no_eq, q_no_eq', q_no_lt, q_lt_no, q_no_le, q_le_no, o1_some, o2_some, lt_do, x1_inl, x1_inr, x2_inl, x2_inr, if_true, if_false, if_pos, if_neg, rvi_t, rvi_f, bt_f, bf_t, bb_t, bb_f, not_true_eq_false, not_false_eq_true]
    exact ⟨C, rv_u R 66 0 (nI 1), nI 0, by trivial, by trivial, mu_same _ _ _ _, bad _⟩
