/-! CUT -/
def cutI (kl : Nat) (M0 : rv_Mem) (B P k : Nat) (M : rv_Mem) : Prop := (∀ q, q ≠ kl → M q = M0 q) ∧ ∀ i, M kl i = if B + P ≤ i ∧ i < B + k then M0 kl (i + 1) else M0 kl i
theorem cutI_step {kl : Nat} {M0 M : rv_Mem} {B P k : Nat} (hk : P ≤ k) (h : cutI kl M0 B P k M) : cutI kl M0 B P (k + 1) (rv_u M kl (B + k) (M kl (B + k + 1))) := by
  refine ⟨fun q hq => by rw [mu_ne hq]; exact h.1 q hq, fun i => ?_⟩
  by_cases e : i = B + k
  · subst e
    rw [mu_same, if_pos (by omega), h.2, if_neg (by omega)]
  · rw [mu_ne2 e, h.2]
    by_cases c : B + P ≤ i ∧ i < B + k
    · rw [if_pos c, if_pos (by omega)]
    · rw [if_neg c, if_neg (by omega)]
/-- a line cut from the desk (S: the new size) -/
def cutD (kl ks : Nat) (M0 M : rv_Mem) (f P S : Nat) : Prop := (∀ q, q ≠ kl → q ≠ ks → M q = M0 q) ∧ (∀ i, M kl i = if 10 * (320 + f) + P ≤ i ∧ i < 10 * (320 + f) + S then M0 kl (i + 1) else M0 kl i) ∧ ∀ i, M ks i = if i = 320 + f then nI S else M0 ks i
theorem s9_removeFromDesk {gh : rC_gh} {C : rv_Mem} {f P S : Nat} (hf : f < 4) (hS : S < 10) (hP : P ≤ S) (hs : C 15 (320 + f) = nI (S + 1)) : ∃ C', f9_removeFromDesk gh C (nI f) (nI P) = some C' ∧ cutD 14 15 C C' f P S := by
  have L := rv_ui (z := (fun _ _ _ _ _ => none)) (F := f9_removeFromDesk_21_s gh) (fun T k M => T M (nI f) (nI (10 * (320 + f))) (nI (S + 1)) (nI (k + 1))) S (fun k M => P ≤ k ∧ cutI 14 C (10 * (320 + f)) P k M) (fun M => some (rv_u M 15 (320 + f) (nI S))) ?_ ?_ rv_FU P C hP (FU_lt (by omega)) ⟨Nat.le_refl _, fun _ _ => rfl, fun i => by rw [if_neg (by omega)]⟩
  · obtain ⟨M, ⟨-, h1, h2⟩, h3⟩ := L
    refine ⟨rv_u M 15 (320 + f) (nI S), ?_, fun q q1 q2 => by rw [mu_ne q2]; exact h1 q q1, fun i => by rw [mu_ne (by omega)]; exact h2 i, fun i => ?_⟩
    · rw [← h3]
      unfold f9_removeFromDesk f9_startOf f9_removeFromDesk_21
      have e1 : (80 * 4 + f) * 10 = 10 * (320 + f) := by omega
      have e2 : 4 * 80 + f = 320 + f := by omega
      simp (disch := omega) only [q_no, q_no2, q_0, q_1, q_2, q_3, q_4, q_5, q_6, q_7, q_8, q_10, q_11, q_12, q_15, q_16, q_17, q_20, q_30, q_31, q_32, q_40, q_45, q_60, q_80, q_81, q_82, q_100, q_320, q_328, q_399, q_400, q_3280, q_nc, q_eq, q_lt, q_le, q_add, q_mul, q_in, q_inno, q_no_eq, q_no_eq', q_no_lt, q_lt_no, q_no_le, q_le_no, o1_some, o2_some, lt_do, x1_inl, x1_inr, x2_inl, x2_inr, if_true, if_false, if_pos, if_neg, rvi_t, rvi_f, bt_f, bf_t, bb_t, bb_f, not_true_eq_false, not_false_eq_true, e1, s9_sizeOf (gh := gh) (C := C) (c := 80) (f := f) (by omega) hf, e2, hs]
    · by_cases e : i = 320 + f
      · subst e; rw [mu_same, if_pos rfl]
      · rw [mu_ne2 e, if_neg e, h1 15 (by omega)]
  · intro T k M hk ⟨hk2, hI⟩
    refine ⟨_, ⟨by omega, cutI_step hk2 hI⟩, ?_⟩
    show f9_removeFromDesk_21_s gh T M (nI f) (nI (10 * (320 + f))) (nI (S + 1)) (nI (k + 1)) = _
    unfold f9_removeFromDesk_21_s
    have hsz : M 15 (4 * 80 + f) = nI (S + 1) := by rw [hI.1 15 (by omega), show 4 * 80 + f = 320 + f by omega]; exact hs
    have e2 : 10 * (4 * 80 + f) + (k + 1) = 10 * (320 + f) + k + 1 := by omega
    have e3 : 10 * (320 + f) + (k + 1) - 1 = 10 * (320 + f) + k := by omega
    have e4 : 10 * (320 + f) + k + 1 - 1 = 10 * (320 + f) + k := by omega
    simp (disch := omega) only [q_no, q_no2, q_0, q_1, q_2, q_3, q_4, q_5, q_6, q_7, q_8, q_10, q_11, q_12, q_15, q_16, q_17, q_20, q_30, q_31, q_32, q_40, q_45, q_60, q_80, q_81, q_82, q_100, q_320, q_328, q_399, q_400, q_3280, q_nc, q_eq, q_lt, q_le, q_add, q_mul, q_in, q_inno, q_no_eq, q_no_eq', q_no_lt, q_lt_no, q_no_le, q_le_no, o1_some, o2_some, lt_do, x1_inl, x1_inr, x2_inl, x2_inr, if_true, if_false, if_pos, if_neg, rvi_t, rvi_f, bt_f, bf_t, bb_t, bb_f, not_true_eq_false, not_false_eq_true, q_sub, e4, s9_lineAt (gh := gh) (C := M) (c := 80) (f := f) (p := k + 1) (by omega) hf hsz (by omega) (by omega), s9_write (gh := gh) (C := M) (k := 14) (L := 3280) (i := 10 * (320 + f) + k) (by omega) rfl rfl (by omega), e2, e3]
  · intro T M ⟨_, hI⟩
    show f9_removeFromDesk_21_s gh T M (nI f) (nI (10 * (320 + f))) (nI (S + 1)) (nI (S + 1)) = _
    unfold f9_removeFromDesk_21_s
    have e3 : S + 1 - 1 = S := by omega
    simp (disch := omega) only [q_no, q_no2, q_0, q_1, q_2, q_3, q_4, q_5, q_6, q_7, q_8, q_10, q_11, q_12, q_15, q_16, q_17, q_20, q_30, q_31, q_32, q_40, q_45, q_60, q_80, q_81, q_82, q_100, q_320, q_328, q_399, q_400, q_3280, q_nc, q_eq, q_lt, q_le, q_add, q_mul, q_in, q_inno, q_no_eq, q_no_eq', q_no_lt, q_lt_no, q_no_le, q_le_no, o1_some, o2_some, lt_do, x1_inl, x1_inr, x2_inl, x2_inr, if_true, if_false, if_pos, if_neg, rvi_t, rvi_f, bt_f, bf_t, bb_t, bb_f, not_true_eq_false, not_false_eq_true, q_sub, e3, s9_write (gh := gh) (C := M) (k := 15) (L := 328) (i := 320 + f) (v := nI S) (by omega) rfl rfl (by omega)]
theorem s12_cut_76 {M0 : rv_Mem} {f P S : Nat} {v : Int32} (hf : f < 4) (hS : S < 10) (hP : P ≤ S) : ∃ M', f12_cut_76 rv_FU (rv_u M0 3 (320 + f) (nI S)) (nI f) (nI (10 * (320 + f))) v (nI (10 * (320 + f) + P)) = some (v, M') ∧ cutD 4 3 M0 M' f P S := by
  have L := rv_ui (z := (fun _ _ _ _ _ => none)) (F := f12_cut_76_s) (fun T k M => T M (nI f) (nI (10 * (320 + f))) v (nI (10 * (320 + f) + k))) S (fun k M => P ≤ k ∧ cutI 4 (rv_u M0 3 (320 + f) (nI S)) (10 * (320 + f)) P k M) (fun M => some (v, M)) ?_ ?_ rv_FU P (rv_u M0 3 (320 + f) (nI S)) hP (FU_lt (by omega)) ⟨Nat.le_refl _, fun _ _ => rfl, fun i => by rw [if_neg (by omega)]⟩
  · obtain ⟨M, ⟨-, h1, h2⟩, h3⟩ := L
    refine ⟨M, h3, fun q q1 q2 => by rw [h1 q q1, mu_ne q2], fun i => by rw [h2 i, mu_ne (by omega)], fun i => ?_⟩
    rw [h1 3 (by omega)]
    by_cases e : i = 320 + f
    · subst e; rw [mu_same, if_pos rfl]
    · rw [mu_ne2 e, if_neg e]
  · intro T k M hk ⟨hk2, hI⟩
    refine ⟨_, ⟨by omega, cutI_step hk2 hI⟩, ?_⟩
    show f12_cut_76_s T M (nI f) (nI (10 * (320 + f))) v (nI (10 * (320 + f) + k)) = _
    unfold f12_cut_76_s
    have e2 : 4 * 80 + f = 320 + f := by omega
    have hsz : M 3 (320 + f) = nI S := by rw [hI.1 3 (by omega), mu_same]
    have e3 : 10 * (320 + f) + (k + 1) = 10 * (320 + f) + k + 1 := by omega
    simp (disch := omega) only [q_no, q_no2, q_0, q_1, q_2, q_3, q_4, q_5, q_6, q_7, q_8, q_10, q_11, q_12, q_15, q_16, q_17, q_20, q_30, q_31, q_32, q_40, q_45, q_60, q_80, q_81, q_82, q_100, q_320, q_328, q_399, q_400, q_3280, q_nc, q_eq, q_lt, q_le, q_add, q_mul, q_in, q_inno, q_no_eq, q_no_eq', q_no_lt, q_lt_no, q_no_le, q_le_no, o1_some, o2_some, lt_do, x1_inl, x1_inr, x2_inl, x2_inr, if_true, if_false, if_pos, if_neg, rvi_t, rvi_f, bt_f, bf_t, bb_t, bb_f, not_true_eq_false, not_false_eq_true, s12_sizeOf (M := M) (c := 80) (f := f) (by omega) hf, e2, hsz, e3]
  · intro T M ⟨_, hI⟩
    show f12_cut_76_s T M (nI f) (nI (10 * (320 + f))) v (nI (10 * (320 + f) + S)) = _
    unfold f12_cut_76_s
    have e2 : 4 * 80 + f = 320 + f := by omega
    have hsz : M 3 (320 + f) = nI S := by rw [hI.1 3 (by omega), mu_same]
    simp (disch := omega) only [q_no, q_no2, q_0, q_1, q_2, q_3, q_4, q_5, q_6, q_7, q_8, q_10, q_11, q_12, q_15, q_16, q_17, q_20, q_30, q_31, q_32, q_40, q_45, q_60, q_80, q_81, q_82, q_100, q_320, q_328, q_399, q_400, q_3280, q_nc, q_eq, q_lt, q_le, q_add, q_mul, q_in, q_inno, q_no_eq, q_no_eq', q_no_lt, q_lt_no, q_no_le, q_le_no, o1_some, o2_some, lt_do, x1_inl, x1_inr, x2_inl, x2_inr, if_true, if_false, if_pos, if_neg, rvi_t, rvi_f, bt_f, bf_t, bb_t, bb_f, not_true_eq_false, not_false_eq_true, s12_sizeOf (M := M) (c := 80) (f := f) (by omega) hf, e2, hsz]
theorem Rn_cut {n : Nat} {gh : rC_gh} {C C' R R' : rv_Mem} (h : Rn n gh C R) {f P S : Nat} (hf : f < 4) (hS : S < 10) (hP : P ≤ S) (hs : C 15 (320 + f) = nI (S + 1)) (hC : cutD 14 15 C C' f P S) (hR : cutD 4 3 R R' f P S) (h64 : rv_z (R' 64 0) = false) : Rn n gh C' R' := by
  have hn := h.n80
  obtain ⟨c1, c2, c3⟩ := hC
  obtain ⟨r1, r2, r3⟩ := hR
  obtain ⟨b, b1, b2, b3⟩ := h.bas.2.2.2
  refine Rn_desk h (fun k h1 h2 _ _ => c1 k h1 h2) (fun c _ => by rw [c1 16 (by omega) (by omega)]) (fun c _ => by rw [c1 17 (by omega) (by omega)]) (fun k _ _ h2 h3 => r1 k h3 h2) (fun c _ => by rw [r1 2 (by omega) (by omega)]) (fun i hi => by rw [r3, if_neg (by omega)]) (fun i hi => by rw [r2, if_neg (by omega)]) ?_ ⟨b, b1, by rw [c1 17 (by omega) (by omega)]; exact b2, by rw [r1 2 (by omega) (by omega)]; exact b3⟩ h64
  intro c hc g hg
  obtain ⟨s, s1, s2, s3, s4⟩ := h.fil c hc g hg
  by_cases e : 4 * c + g = 320 + f
  · rw [e] at s2 s3 s4 ⊢
    have es : s = S + 1 := by rw [hs, q_eq (by omega) (by omega)] at s2; exact s2.symm
    subst es
    refine ⟨S, by omega, by rw [c3, if_pos rfl], by rw [r3, if_pos rfl], fun p hp => ?_⟩
    rw [c2, r2]
    by_cases e2 : P ≤ p
    · rw [if_pos (by omega), if_pos (by omega)]
      exact s4 (p + 1) (by omega)
    · rw [if_neg (by omega), if_neg (by omega)]
      exact s4 p (by omega)
  · refine ⟨s, s1, by rw [c3, if_neg e]; exact s2, by rw [r3, if_neg e]; exact s3, fun p hp => ?_⟩
    rw [c2, r2, if_neg (by omega), if_neg (by omega)]
    exact s4 p hp
theorem h_cut : ∀ gh MC MR, Rel gh MC MR → ∀ p1 p2, rS_cut Rel gh MC MR p1 p2 := fun gh C R h p1 p2 => by
  obtain ⟨n, hR⟩ := h
  have hn := hR.n80
  unfold rS_cut f11_cut f12_cut f12_cut_25 f12_cut_30 f12_goes
  have bad : ∀ v, Rel gh C (rv_u R 66 0 v) := fun v => ⟨n, Rn_66 hR⟩
  rcases d_file gh C p1 with ⟨f, hf, rfl, e1, e2⟩ | ⟨e1, e2⟩
  · rw [e1, e2]
    obtain ⟨s, s1, s2, s3, s4⟩ := hR.fil 80 (Or.inr rfl) f hf
    have k1 := s9_sizeOf (gh := gh) (C := C) (c := 80) (f := f) (by omega) hf
    have k2 := s12_sizeOf (M := R) (c := 80) (f := f) (by omega) hf
    rw [s2] at k1
    rw [s3] at k2
    have e80 : 4 * 80 + f = 320 + f := by omega
    rcases d_isIn p2 s (by omega) with ⟨P, hP, rfl, i1⟩ | ⟨i1, hx | ⟨P, hP, hP2, rfl⟩⟩
    · left
      obtain ⟨S, rfl⟩ : ∃ S, s = S + 1 := ⟨s - 1, by omega⟩
      obtain ⟨v, v1, v2, v3⟩ := s4 P hP
      have k3 := s9_lineAt (gh := gh) (C := C) (c := 80) (f := f) (p := P) (by omega) hf s2 s1 hP
      rw [e80] at s2 s3 v2 v3 k3
      obtain ⟨C', g1, g2⟩ := s9_removeFromDesk (gh := gh) (C := C) (f := f) (P := P) (S := S) hf (by omega) (by omega) s2
      obtain ⟨R', g3, g4⟩ := s12_cut_76 (M0 := rv_u R 66 0 (nI 0)) (f := f) (P := P) (S := S) (v := nI v) hf (by omega) (by omega)
      have k5 : rv_u R 66 0 (nI 0) 3 (320 + f) = nI (S + 1) := by rw [mu_ne (by omega)]; exact s3
      have k6 : rv_u R 66 0 (nI 0) 4 (10 * (320 + f) + P) = nI v := by rw [mu_ne (by omega)]; exact v3
      have k7 : S + 1 - 1 = S := by omega
      simp only [q_0] at i1
      rw [v2] at k3
      simp (disch := omega) only [q_no, q_no2, q_0, q_1, q_2, q_3, q_4, q_5, q_6, q_7, q_8, q_10, q_11, q_12, q_15, q_16, q_17, q_20, q_30, q_31, q_32, q_40, q_45, q_60, q_80, q_81, q_82, q_100, q_320, q_328, q_399, q_400, q_3280, q_nc, q_eq, q_lt, q_le, q_add, q_mul, q_in, q_inno, q_no_eq, q_no_eq', q_no_lt, q_lt_no, q_no_le, q_le_no, o1_some, o2_some, lt_do, x1_inl, x1_inr, x2_inl, x2_inr, if_true, if_false, if_pos, if_neg, rvi_t, rvi_f, bt_f, bf_t, bb_t, bb_f, not_true_eq_false, not_false_eq_true, q_sub, k7] at i1
      simp (disch := omega) only [q_no, q_no2, q_0, q_1, q_2, q_3, q_4, q_5, q_6, q_7, q_8, q_10, q_11, q_12, q_15, q_16, q_17, q_20, q_30, q_31, q_32, q_40, q_45, q_60, q_80, q_81, q_82, q_100, q_320, q_328, q_399, q_400, q_3280, q_nc, q_eq, q_lt, q_le, q_add, q_mul, q_in, q_inno, q_no_eq, q_no_eq', q_no_lt, q_lt_no, q_no_le, q_le_no, o1_some, o2_some, lt_do, x1_inl, x1_inr, x2_inl, x2_inr, if_true, if_false, if_pos, if_neg, rvi_t, rvi_f, bt_f, bf_t, bb_t, bb_f, not_true_eq_false, not_false_eq_true, q_sub, k1, k2, i1, k3, g1, k5, k6, k7, g3]
      exact ⟨nI v, C', R', rfl, rfl, by rw [g4.1 66 (by omega) (by omega), mu_same], ⟨n, Rn_cut (Rn_66 (v := nI 0) hR) hf (by omega) (by omega) s2 g2 g4 (by rw [g4.1 64 (by omega) (by omega), mu_ne (by omega)]; exact hR.h64)⟩⟩
    · right
      simp only [q_0, q_1] at i1
      simp (disch := omega) only [q_no, q_no2, q_0, q_1, q_2, q_3, q_4, q_5, q_6, q_7, q_8, q_10, q_11, q_12, q_15, q_16, q_17, q_20, q_30, q_31, q_32, q_40, q_45, q_60, q_80, q_81, q_82, q_100, q_320, q_328, q_399, q_400, q_3280, q_nc, q_eq, q_lt, q_le, q_add, q_mul, q_in, q_inno, q_no_eq, q_no_eq', q_no_lt, q_lt_no, q_no_le, q_le_no, o1_some, o2_some, lt_do, x1_inl, x1_inr, x2_inl, x2_inr, if_true, if_false, if_pos, if_neg, rvi_t, rvi_f, bt_f, bf_t, bb_t, bb_f, not_true_eq_false, not_false_eq_true, k1, k2, q_neg0 hx, i1]
      exact ⟨C, rv_u R 66 0 (nI 1), nI 0, by trivial, by trivial, mu_same _ _ _ _, bad _⟩
    · right
      simp only [q_0, q_1] at i1
      simp (disch := omega) only [q_no, q_no2, q_0, q_1, q_2, q_3, q_4, q_5, q_6, q_7, q_8, q_10, q_11, q_12, q_15, q_16, q_17, q_20, q_30, q_31, q_32, q_40, q_45, q_60, q_80, q_81, q_82, q_100, q_320, q_328, q_399, q_400, q_3280, q_nc, q_eq, q_lt, q_le, q_add, q_mul, q_in, q_inno, q_no_eq, q_no_eq', q_no_lt, q_lt_no, q_no_le, q_le_no, o1_some, o2_some, lt_do, x1_inl, x1_inr, x2_inl, x2_inr, if_true, if_false, if_pos, if_neg, rvi_t, rvi_f, bt_f, bf_t, bb_t, bb_f, not_true_eq_false, not_false_eq_true, k1, k2, i1]
      exact ⟨C, rv_u R 66 0 (nI 1), nI 0, by trivial, by trivial, mu_same _ _ _ _, bad _⟩
  · right
    rw [e1, e2]
    simp (disch := omega) only [q_no, q_no2, q_0, q_1, q_2, q_3, q_4, q_5, q_6, q_7, q_8, q_10, q_11, q_12, q_15, q_16, q_17, q_20, q_30, q_31, q_32, q_40, q_45, q_60, q_80, q_81, q_82, q_100, q_320, q_328, q_399, q_400, q_3280, q_nc, q_eq, q_lt, q_le, q_add, q_mul, q_in, q_inno, q_no_eq, q_no_eq', q_no_lt, q_lt_no, q_no_le, q_le_no, o1_some, o2_some, lt_do, x1_inl, x1_inr, x2_inl, x2_inr, if_true, if_false, if_pos, if_neg, rvi_t, rvi_f, bt_f, bf_t, bb_t, bb_f, not_true_eq_false, not_false_eq_true]
    exact ⟨C, rv_u R 66 0 (nI 1), nI 0, by trivial, by trivial, mu_same _ _ _ _, bad _⟩
