/-! WHAT IS REFUSED: the memory stays -/
theorem Wr.num {m N : Nat} (hm : m < 2147483648) (hN : N < 2147483648) (h : Wr (nI m) N) : N ≤ m := by
  rcases h with h | h
  · rw [q_0, q_lt hm (by omega)] at h; omega
  · rw [q_le hN hm] at h; exact h
theorem gc_w (gh : rC_gh) (M A : rv_Mem) (a2 a3 a4 a5 a6 a7 : Int32) : ∃ w, gp_commented gh M A a2 a3 a4 a5 a6 a7 = gp_commented_22 A gh M a2 a3 a4 a5 a6 a7 w := by
  unfold gp_commented
  split
  · exact ⟨_, rfl⟩
  · exact ⟨_, rfl⟩
section
variable {n : Nat} {gh : rC_gh} {C R A : rv_Mem}
theorem rf_0 (hR : Rn n gh C R) {x a b c d : Int32} (h : Wr x n) : gp_act gh C A 0 x a b c d = some (-1261, gh, C) := by
  rw [ga_0]; unfold f11_take; rw [nd_commit hR h, x2_inr, x3e, hh1]
theorem rf_1 {x a b c d : Int32} (h : Wr x (gh.1 0)) : gp_act gh C A 1 x a b c d = some (-1261, gh, C) := by
  rw [ga_1]; unfold f11_takeSet; rw [nd_change h, x2_inr, x3e, hh1]
theorem rf_1s (hR : Rn n gh C R) {m k : Nat} (hm : m < gh.1 0) (hk : R 14 m = nI k) {x b c d : Int32} (h : Wr x k) : gp_act gh C A 1 (nI m) x b c d = some (-1261, gh, C) := by
  rw [ga_1]; unfold f11_takeSet; rw [ok_change hR hm, x2_inl, nd_set hR hm hk h, x2_inr, x3e, hh1]
theorem rf_2f {x a b c d : Int32} (h : Wr x 4) : gp_act gh C A 2 x a b c d = some (-1261, gh, C) := by
  rw [ga_2]; unfold f11_put; rw [nd_file h, x2_inr, x3e, hh1]
theorem rf_2p {s : Nat} (hs : C 15 323 = nI s) (hs2 : s ≤ 10) {x v c d : Int32} (h : Wr x (s + 1)) : gp_act gh C A 2 3 x v c d = some (-1261, gh, C) := by
  rw [ga_2]; unfold f11_put
  rw [show (3 : Int32) = nI 3 from rfl, ok_file (by omega), x2_inl, show (80 : Int32) = nI 80 from rfl, s9_sizeOf (by omega) (by omega), o1_some, show 4 * 80 + 3 = 323 from rfl, hs]
  rcases q_any x with hx | ⟨m, hm, rfl⟩
  · rw [if_neg (by rw [q_neg hx]; exact id), x3e, hh1]
  · have := h.num hm (by omega)
    rw [if_pos (by rw [q_0, q_le (by omega) hm]; omega), if_pos (by rw [q_lt (by omega) hm]; omega), x3e, hh1]
theorem rf_2l {s : Nat} (hs : C 15 323 = nI s) (hs2 : s ≤ 10) {x c d : Int32} (h : Wr x 400) : gp_act gh C A 2 3 0 x c d = some (-1262, gh, C) := by
  rw [ga_2]; unfold f11_put
  rw [show (3 : Int32) = nI 3 from rfl, ok_file (by omega), x2_inl, show (80 : Int32) = nI 80 from rfl, s9_sizeOf (by omega) (by omega), o1_some, show 4 * 80 + 3 = 323 from rfl, hs, if_pos (show (0 : Int32) ≤ 0 by decide), if_neg (show ¬ nI s < 0 by rw [q_0, q_lt (by omega) (by omega)]; omega), wr_if (L := 400) (N := 400) rfl h, x3e, hh2]
theorem rf_3 {s : Nat} (hs : C 15 323 = nI s) (hs2 : s ≤ 10) {x b c d : Int32} (h : Wr x s) : gp_act gh C A 3 3 x b c d = some (-1261, gh, C) := by
  rw [ga_3]; unfold f11_cut
  rw [show (3 : Int32) = nI 3 from rfl, ok_file (by omega), x2_inl, show (80 : Int32) = nI 80 from rfl, s9_sizeOf (by omega) (by omega), o1_some, show 4 * 80 + 3 = 323 from rfl, hs, wr_if rfl h, x3e, hh1]
theorem rf_4 {x a b c d : Int32} (h : Wr x 6) : gp_act gh C A 4 x a b c d = some (-1261, gh, C) := by
  rw [ga_4]; unfold f11_open; rw [nd_person h, x1_inr, xme, hh1]
theorem rf_5 {x b c d : Int32} (h : Wr x (gh.1 0)) : gp_act gh C A 5 0 x b c d = some (-1261, gh, C) := by
  rw [ga_5]; unfold f11_upload; rw [ok_p0, x2_inl, nd_change h, x2_inr, x3e, hh1]
theorem rf_6 {x a b c d : Int32} (h : Wr x 6) : gp_act gh C A 6 x a b c d = some (-1261, gh, C) := by
  rw [ga_6]; unfold f11_rebase; rw [nd_person h, x2_inr, x3e, hh1]
theorem rf_7 {x b c d : Int32} (h : Wr x (gh.1 0)) : gp_act gh C A 7 0 x b c d = some (-1261, gh, C) := by
  rw [ga_7]; unfold f11_abandon; rw [ok_p0, x2_inl, nd_change h, x2_inr, x3e, hh1]
theorem rf_8 {x a b c d : Int32} (h : Wr x (gh.1 0)) : gp_act gh C A 8 x a b c d = some (-1261, gh, C) := by
  rw [ga_8]; unfold f11_restore; rw [nd_change h, x2_inr, x3e, hh1]
theorem rf_9 {x c d : Int32} (h : Wr x (gh.1 0)) : gp_act gh C A 9 x 0 0 c d = some (-1261, gh, C) := by
  rw [ga_9, if_neg (by decide)]; unfold gp_act_145; rw [if_neg (by decide)]; unfold gp_act_156 f11_setFlags; rw [nd_change h, x2_inr, x3e, hh1]
theorem rf_10 {x a b c d : Int32} (h : Wr x (gh.1 0)) : gp_act gh C A 10 x a b c d = some (-1261, gh, C) := by
  rw [ga_10]; unfold f11_setTopic; rw [nd_change h, x2_inr, x3e, hh1]
theorem rf_10t (hR : Rn n gh C R) {m : Nat} (hm : m < gh.1 0) {x b c d : Int32} (h : ¬ (-1 : Int32) ≤ x ∨ (4 : Int32) ≤ x) : gp_act gh C A 10 (nI m) x b c d = some (-1262, gh, C) := by
  rw [ga_10]; unfold f11_setTopic; rw [ok_change hR hm, x2_inl]
  by_cases h1 : (-1 : Int32) ≤ x
  · rw [if_pos h1, if_pos (h.resolve_left (fun z => z h1)), x3e, hh2]
  · rw [if_neg h1, x3e, hh2]
theorem rf_11 {x c d : Int32} (h : Wr x (gh.1 1)) : gp_act gh C A 11 0 x 0 c d = some (-1261, gh, C) := by
  rw [ga_11, if_neg (by decide)]; unfold gp_act_197 f11_answer; rw [ok_p0, x1_inl, nd_comment h, x1_inr, xme, hh1]
theorem rf_12 {x a b c d : Int32} (h : Wr x 6) : gp_act gh C A 12 x a b c d = some (-1261, gh, C) := by
  rw [ga_12]; unfold f11_publish; rw [nd_person h, x2_inr, x3e, hh1]
theorem rf_13 {x a b c d : Int32} (h : Wr x (gh.1 0)) : gp_act gh C A 13 x a b c d = some (-1261, gh, C) := by
  rw [ga_13]; unfold f11_takeFixes; rw [nd_change h, x2_inr, x3e, hh1]
theorem rf_13f (hR : Rn n gh C R) {m : Nat} (hm : m < gh.1 0) {x b c d : Int32} (h : x < 0) : gp_act gh C A 13 (nI m) x b c d = some (-1262, gh, C) := by
  have hc := hR.ch20
  rw [ga_13]; unfold f11_takeFixes f9_currentOf f11_chooseFixes
  rw [ok_change hR hm, x2_inl, if_pos (is1 hm hc), (hR.chg m hm).1, s9_read (L := 20) (by omega) rfl rfl (by omega), o1_some, o1_some, if_pos h, x2_inr, x3e, hh2]
theorem rf_14r {x a b d : Int32} (h : Wr x 2) : gp_act gh C A 14 x a b 0 d = some (-1261, gh, C) := by
  rw [ga_14, if_neg (by decide)]; unfold gp_act_255 f11_setOwners; rw [nd_repo h, x2_inr, x3e, hh1]
theorem rf_14l {x b d : Int32} (h : Wr x 7) : gp_act gh C A 14 0 x b 0 d = some (-1261, gh, C) := by
  rw [ga_14, if_neg (by decide)]; unfold gp_act_255 f11_setOwners
  rw [show f11_needRepository gh C 0 = some (.inl ()) from rfl, x2_inl, wr_if (L := 7) (N := 7) rfl h, x3e, hh1]
theorem rf_14p {x d : Int32} (h : Wr x 64) : gp_act gh C A 14 0 0 x 0 d = some (-1262, gh, C) := by
  rw [ga_14, if_neg (by decide)]; unfold gp_act_255 f11_setOwners
  rw [show f11_needRepository gh C 0 = some (.inl ()) from rfl, x2_inl, if_pos (show (0 : Int32) ≤ 0 by decide), if_neg (show ¬ (7 : Int32) ≤ 0 by decide), wr_if (L := 64) (N := 64) rfl h, x3e, hh2]
theorem rf_16l {x a b c d : Int32} (h : Wr x 2) : gp_act gh C A 16 x a b c d = some (-1262, gh, C) := by
  rw [ga_16]; unfold f11_setCopied; rw [nd_label h, x2_inr, x3e, hh2]
theorem rf_16v {x c d : Int32} (h : Wr x 32) : gp_act gh C A 16 0 0 x c d = some (-1262, gh, C) := by
  rw [ga_16]; unfold f11_setCopied
  rw [show f11_needLabel gh C 0 = some (.inl ()) from rfl, x2_inl, if_pos (show (0 : Int32) ≤ 0 by decide), if_neg (show ¬ (3 : Int32) ≤ 0 by decide), wr_if (L := 32) (N := 32) rfl h, x3e, hh2]
theorem rf_17s {x a b c d : Int32} (h : ¬ (8 : Int32) ≤ x ∨ (16 : Int32) ≤ x) : gp_act gh C A 17 x a b c d = some (-1262, gh, C) := by
  rw [ga_17]; unfold f11_addRule
  by_cases h1 : (8 : Int32) ≤ x
  · rw [if_pos h1, if_pos (h.resolve_left (fun z => z h1)), x3e, hh2]
  · rw [if_neg h1, x3e, hh2]
theorem rf_17m {x b c d : Int32} (h : Wr x 65536) : gp_act gh C A 17 9 x b c d = some (-1262, gh, C) := by
  rw [ga_17]; unfold f11_addRule
  rw [if_pos (show (8 : Int32) ≤ 9 by decide), if_neg (show ¬ (16 : Int32) ≤ 9 by decide)]
  rcases q_any x with hx | ⟨m, hm, rfl⟩
  · rw [if_neg (by rw [q_neg hx]; exact id), x3e, hh2]
  · have := h.num hm (by omega)
    rw [if_pos (by rw [q_0, q_le (by omega) hm]; omega), if_neg (show ¬ nI m < 65536 from (show ¬ nI m < nI 65536 by rw [q_lt hm (by omega)]; omega)), x3e, hh2]
theorem rf_17n {x c d : Int32} (h : Wr x 65536) : gp_act gh C A 17 9 0 x c d = some (-1262, gh, C) := by
  rw [ga_17]; unfold f11_addRule
  rw [if_pos (show (8 : Int32) ≤ 9 by decide), if_neg (show ¬ (16 : Int32) ≤ 9 by decide), if_pos (show (0 : Int32) ≤ 0 by decide), if_pos (show (0 : Int32) < 65536 by decide), wr_if (L := 65536) (N := 65536) rfl h, x3e, hh2]
theorem rf_18 {nr : Nat} (hn : C 4 6 = nI nr) (hn2 : nr ≤ 20) {x a b c d : Int32} (h : Wr x nr) : gp_act gh C A 18 x a b c d = some (-1261, gh, C) := by
  rw [ga_18]; unfold f11_dropRule f8_tryDrop
  rw [hn]
  rcases q_any x with hx | ⟨m, hm, rfl⟩
  · rw [if_neg (by rw [q_neg hx]; exact id), o2_some, if_pos rfl, x3e, hh1]
  · have := h.num hm (by omega)
    rw [if_pos (by rw [q_0, q_le (by omega) hm]; omega), if_neg (by rw [q_lt hm (by omega)]; omega), o2_some, if_pos rfl, x3e, hh1]
theorem rf_19r {x a b c d : Int32} (h : Wr x 2) : gp_act gh C A 19 x a b c d = some (-1261, gh, C) := by
  rw [ga_19]; unfold f11_setWay; rw [nd_repo h, x2_inr, x3e, hh1]
theorem rf_19w {x b c d : Int32} (h : Wr x 3) : gp_act gh C A 19 0 x b c d = some (-1262, gh, C) := by
  rw [ga_19]; unfold f11_setWay
  rw [show f11_needRepository gh C 0 = some (.inl ()) from rfl, x2_inl]
  rcases q_any x with hx | ⟨m, hm, rfl⟩
  · rw [if_neg (by rw [q_neg hx]; exact id), x3e, hh2]
  · have := h.num hm (by omega)
    rw [if_pos (by rw [q_0, q_le (by omega) hm]; omega), if_pos (by rw [q_2, q_lt (by omega) hm]; omega), x3e, hh2]
theorem rf_20 {x a b c d : Int32} (h : Wr x 6) : gp_act gh C A 20 x a b c d = some (-1261, gh, C) := by
  rw [ga_20]; unfold f11_land; rw [nd_person h, x2_inr, x3e, hh1]
theorem rf_21 {x b c d : Int32} (h : Wr x (gh.1 0)) : gp_act gh C A 21 0 x b c d = some (-1261, gh, C) := by
  rw [ga_21]; unfold f11_addReviewer; rw [ok_p0, x2_inl, nd_change h, x2_inr, x3e, hh1]
theorem rf_22 {x a b c d : Int32} (h : ¬ (1 : Int32) ≤ x ∨ (100 : Int32) < x) : gp_act gh C A 22 x a b c d = some (-1262, gh, C) := by
  rw [ga_22]; unfold f11_advance
  by_cases h1 : (1 : Int32) ≤ x
  · rw [if_pos h1, if_pos (h.resolve_left (fun z => z h1)), x3e, hh2]
  · rw [if_neg h1, x3e, hh2]
theorem rf_23 {x a b c d : Int32} (h : Wr x 6) : gp_act gh C A 23 x a b c d = some (-1261, gh, C) := by
  rw [ga_23]; unfold f11_setLastResort; rw [nd_person h, x2_inr, x3e, hh1]
theorem rf_24 {x a c d : Int32} (h : Wr x 2) : gp_act gh C A 24 x a 1 c d = some (-1261, gh, C) := by
  rw [ga_24, if_pos rfl]; unfold gp_act_431 f11_setInclude; rw [nd_repo h, x2_inr, x3e, hh1]
theorem rf_25 {x a c d : Int32} (h : Wr x 6) : gp_act gh C A 25 x a 1 c d = some (-1261, gh, C) := by
  rw [ga_25, if_pos rfl]; unfold gp_act_459 f11_watch; rw [nd_person h, x2_inr, x3e, hh1]
theorem rf_15s (hR : Rn n gh C R) {m k : Nat} (hm : m < gh.1 0) (hk : R 14 m = nI k) {x c d : Int32} (h : Wr x k) : gp_act gh C A 15 0 (nI m) x c d = some (-1261, gh, C) := by
  rw [ga_15]; unfold f11_vote; rw [ok_p0, x2_inl, ok_change hR hm, x2_inl, nd_set hR hm hk h, x2_inr, x3e, hh1]
theorem rf_15l (hR : Rn n gh C R) {m : Nat} (hm : m < gh.1 0) {x d : Int32} (h : Wr x 2) : gp_act gh C A 15 0 (nI m) 0 x d = some (-1262, gh, C) := by
  obtain ⟨k, k1, k2, -, k4, -⟩ := hR.sets hm
  obtain ⟨c, -, -, -, -, -, -, e⟩ := ok_set hR hm k4 k2 (show 0 < k by omega)
  rw [ga_15]; unfold f11_vote; rw [ok_p0, x2_inl, ok_change hR hm, x2_inl, show (0 : Int32) = nI 0 from rfl, e, x2_inl, nd_label h, x2_inr, x3e, hh2]
theorem rf_15v (hR : Rn n gh C R) {m : Nat} (hm : m < gh.1 0) {x : Int32} (h : ¬ (-1 : Int32) ≤ x ∨ (1 : Int32) < x) : gp_act gh C A 15 0 (nI m) 0 1 x = some (-1262, gh, C) := by
  obtain ⟨k, k1, k2, -, k4, -⟩ := hR.sets hm
  obtain ⟨c, -, -, -, -, -, -, e⟩ := ok_set hR hm k4 k2 (show 0 < k by omega)
  rw [ga_15]; unfold f11_vote
  rw [ok_p0, x2_inl, ok_change hR hm, x2_inl, show f11_needSet gh C (100 + m) 0 = some (.inl (nI c)) from e, x2_inl, show f11_needLabel gh C 1 = some (.inl ()) from rfl, x2_inl, if_neg (by decide)]
  unfold f11_vote_34
  by_cases h1 : (-1 : Int32) ≤ x
  · rw [if_pos h1, if_pos (h.resolve_left (fun z => z h1)), x3e, hh2]
  · rw [if_neg h1, x3e, hh2]
theorem rf_c {x a b c d : Int32} (h : Wr x (gh.1 0)) : gp_commented gh C A 0 x a b c d = some (-1261, gh, C) := by
  obtain ⟨w, e⟩ := gc_w gh C A 0 x a b c d
  rw [e]; unfold gp_commented_22 f11_comment; rw [ok_p0, x1_inl, nd_change h, x1_inr, xme, hh1]
theorem rf_cs (hR : Rn n gh C R) {m k : Nat} (hm : m < gh.1 0) (hk : R 14 m = nI k) {x b c d : Int32} (h : Wr x k) : gp_commented gh C A 0 (nI m) x b c d = some (-1261, gh, C) := by
  obtain ⟨w, e⟩ := gc_w gh C A 0 (nI m) x b c d
  rw [e]; unfold gp_commented_22 f11_comment; rw [ok_p0, x1_inl, ok_change hR hm, x1_inl, nd_set hR hm hk h, x1_inr, xme, hh1]
theorem rf_cf (hR : Rn n gh C R) {m : Nat} (hm : m < gh.1 0) {x c d : Int32} (h : Wr x 4) : gp_commented gh C A 0 (nI m) 0 x c d = some (-1261, gh, C) := by
  obtain ⟨k, k1, k2, -, k4, -⟩ := hR.sets hm
  obtain ⟨c0, -, -, -, -, -, -, e0⟩ := ok_set hR hm k4 k2 (show 0 < k by omega)
  obtain ⟨w, e⟩ := gc_w gh C A 0 (nI m) 0 x c d
  rw [e]; unfold gp_commented_22 f11_comment; rw [ok_p0, x1_inl, ok_change hR hm, x1_inl, show f11_needSet gh C (100 + m) 0 = some (.inl (nI c0)) from e0, x1_inl, nd_file h, x1_inr, xme, hh1]
/-- lines that are none -/
theorem nd_lines (hR : Rn n gh C R) {c : Nat} (hc : c < n) {from_ many : Int32} (h : ¬ (0 : Int32) ≤ from_ ∨ (10 : Int32) < from_ ∨ (from_ = 10 ∧ 0 < many) ∨ (from_ = 0 ∧ (10 : Int32) < many)) : f11_needLines gh C (nI c) 0 from_ many = some (.inr 2) := by
  have hn := hR.n80
  obtain ⟨s, s1, s2, -, -⟩ := hR.fil c (Or.inl hc) 0 (by omega)
  unfold f11_needLines
  rw [show (0 : Int32) = nI 0 from rfl, s9_sizeOf (by omega) (by omega), o1_some, s2]
  rcases q_any from_ with hx | ⟨m, hm, rfl⟩
  · rw [if_neg (by rw [← q_0, q_neg hx]; exact id)]
  · rw [if_pos (by rw [q_le (by omega) hm]; omega)]
    rcases h with h | h | ⟨h, h2⟩ | ⟨h, h2⟩
    · exact absurd (show (0 : Int32) ≤ nI m by rw [q_0, q_le (by omega) hm]; omega) h
    · rw [q_10, q_lt (by omega) hm] at h
      rw [if_neg (by rw [q_le hm (by omega)]; omega)]
    · rw [q_10, q_eq hm (by omega)] at h
      subst h
      by_cases e : s = 10
      · subst e
        rw [if_pos (by rw [q_le (by omega) (by omega)]; omega), q_sub (Nat.le_refl _), if_pos (show nI (10 - 10) < many from h2)]
      · rw [if_neg (by rw [q_le (by omega) (by omega)]; omega)]
    · rw [q_0, q_eq hm (by omega)] at h
      subst h
      rw [if_pos (by rw [q_le (by omega) (by omega)]; omega), q_sub (Nat.zero_le _)]
      refine if_pos ?_
      rcases q_any many with hx | ⟨m2, hm2, rfl⟩
      · exact absurd (Int32.lt_trans h2 hx) (by decide)
      · rw [q_10, q_lt (by omega) hm2] at h2
        rw [q_lt (by omega) hm2]; omega
theorem rf_cm (hR : Rn n gh C R) {m : Nat} (hm : m < gh.1 0) {x y : Int32} (h : y < 1 ∨ ¬ (0 : Int32) ≤ x ∨ (10 : Int32) < x ∨ (x = 10 ∧ 0 < y) ∨ (x = 0 ∧ (10 : Int32) < y)) : gp_commented gh C A 0 (nI m) 0 0 x y = some (-1262, gh, C) := by
  obtain ⟨k, k1, k2, -, k4, -⟩ := hR.sets hm
  obtain ⟨c0, -, c1, -, -, -, -, e0⟩ := ok_set hR hm k4 k2 (show 0 < k by omega)
  obtain ⟨w, e⟩ := gc_w gh C A 0 (nI m) 0 0 x y
  rw [e]; unfold gp_commented_22 f11_comment; rw [ok_p0, x1_inl, ok_change hR hm, x1_inl, show f11_needSet gh C (100 + m) 0 = some (.inl (nI c0)) from e0, x1_inl, show f11_needFile gh C 0 = some (.inl ()) from rfl, x1_inl]
  by_cases h1 : y < 1
  · rw [if_pos h1, xme, hh2]
  · rw [if_neg h1, nd_lines hR c1 (h.resolve_left h1), x1_inr, xme, hh2]
theorem rf_f {x a b c d e : Int32} (h : Wr x (gh.1 0)) : gp_found gh C A x a b c d e = some (-1261, gh, C) := by
  unfold gp_found f11_find; rw [nd_change h, x1_inr, xme, hh1]
theorem rf_fm (hR : Rn n gh C R) {m : Nat} (hm : m < gh.1 0) {x y z : Int32} (h : y < 0 ∨ ¬ (0 : Int32) ≤ x ∨ (10 : Int32) < x ∨ (x = 10 ∧ 0 < y) ∨ (x = 0 ∧ (10 : Int32) < y)) : gp_found gh C A (nI m) 0 0 x y z = some (-1262, gh, C) := by
  obtain ⟨k, k1, k2, -, k4, -⟩ := hR.sets hm
  obtain ⟨c0, -, c1, -, -, -, -, e0⟩ := ok_set hR hm k4 k2 (show 0 < k by omega)
  unfold gp_found f11_find; rw [ok_change hR hm, x1_inl, show f11_needSet gh C (100 + m) 0 = some (.inl (nI c0)) from e0, x1_inl, show f11_needFile gh C 0 = some (.inl ()) from rfl, x1_inl]
  by_cases h1 : y < 0
  · rw [if_pos h1, xme, hh2]
  · rw [if_neg h1, nd_lines hR c1 (h.resolve_left h1), x1_inr, xme, hh2]
theorem rf_fl (hR : Rn n gh C R) {m : Nat} (hm : m < gh.1 0) {z : Int32} (h : ¬ (-1 : Int32) ≤ z ∨ (400 : Int32) ≤ z) : gp_found gh C A (nI m) 0 0 0 0 z = some (-1262, gh, C) := by
  have hn := hR.n80
  obtain ⟨k, k1, k2, -, k4, -⟩ := hR.sets hm
  obtain ⟨c0, -, c1, -, -, -, -, e0⟩ := ok_set hR hm k4 k2 (show 0 < k by omega)
  obtain ⟨s, s1, s2, -, -⟩ := hR.fil c0 (Or.inl c1) 0 (by omega)
  have e2 : f11_needLines gh C (nI c0) 0 0 0 = some (.inl ()) := by
    unfold f11_needLines
    rw [show (0 : Int32) = nI 0 from rfl, s9_sizeOf (by omega) (by omega), o1_some, s2, if_pos (by rw [q_le (by omega) (by omega)]; omega), if_pos (by rw [q_le (by omega) (by omega)]; omega), q_sub (Nat.zero_le _), if_neg (by rw [q_lt (by omega) (by omega)]; omega)]
  unfold gp_found f11_find; rw [ok_change hR hm, x1_inl, show f11_needSet gh C (100 + m) 0 = some (.inl (nI c0)) from e0, x1_inl, show f11_needFile gh C 0 = some (.inl ()) from rfl, x1_inl, if_neg (by decide), e2, x1_inl]
  by_cases h1 : (-1 : Int32) ≤ z
  · rw [if_pos h1, if_pos (h.resolve_left (fun z => z h1)), xme, hh2]
  · rw [if_neg h1, xme, hh2]
theorem rf_o20 (hR : Rn n gh C R) {m k : Nat} (hm : m < gh.1 0) (hk : R 14 m = nI k) {x f : Int32} (h : Wr x k) : gp_of gh C A 20 (nI m) 0 x f = some (-1261, C) := by
  obtain ⟨k', k1, k2, -, k4, -⟩ := hR.sets hm
  obtain ⟨c0, -, c1, -, -, -, -, e0⟩ := ok_set hR hm k4 k2 (show 0 < k' by omega)
  rw [go_20]; unfold f11_hunks f11_findDifference
  rw [ok_change hR hm, x2_inl, show f11_needSet gh C (100 + m) 0 = some (.inl (nI c0)) from e0, x2_inl, nd_set hR hm hk h, x2_inr]
  rfl
theorem rf_o21 (hR : Rn n gh C R) {m : Nat} (hm : m < gh.1 0) {x : Int32} (h : x < 0) : ∃ C', gp_of gh C A 21 (nI m) 0 0 x = some (-1261, C') ∧ Rn n gh C' R := by
  rw [go_21]; unfold f11_hunkAt
  rcases hR.diff (nI m) 0 0 0 true with ⟨cnt, C', R', -, e, -, -, ⟨h1, -⟩, -⟩ | ⟨e, -⟩
  · refine ⟨C', ?_, h1⟩
    rw [e]
    show lk_x3 (if x < 0 then some (.inr (1, C')) else _) _ _ = _
    rw [if_pos h]; rfl
  · refine ⟨C, ?_, hR⟩
    rw [e]; rfl
theorem rf_o10p {x a b c : Int32} (h : Wr x 6) : gp_of gh C A 10 x a b c = some (-1261, C) := by
  rw [go_10]; unfold f11_worth; rw [nd_person h, x1_inr, x1e, hh1]
theorem rf_o10l (hR : Rn n gh C R) {m : Nat} (hm : m < gh.1 0) {x : Int32} (h : Wr x 2) : gp_of gh C A 10 0 (nI m) 0 x = some (-1262, C) := by
  obtain ⟨k', k1, k2, -, k4, -⟩ := hR.sets hm
  obtain ⟨c0, -, c1, -, -, -, -, e0⟩ := ok_set hR hm k4 k2 (show 0 < k' by omega)
  rw [go_10]; unfold f11_worth; rw [ok_p0, x1_inl, ok_change hR hm, x1_inl, show f11_needSet gh C (100 + m) 0 = some (.inl (nI c0)) from e0, x1_inl, nd_label h, x1_inr, x1e, hh2]
theorem rf_of {x : Int32} (h : Wr x (gh.1 0)) : ∀ w, 4 ≤ w → w < 19 → w ≠ 9 → w ≠ 10 → w ≠ 15 → gp_of gh C A (nI w) x 0 0 0 = some (-1261, C) := by
  intro w h4 h19 h9 h10 h15
  have cs : w = 4 ∨ w = 5 ∨ w = 6 ∨ w = 7 ∨ w = 8 ∨ w = 11 ∨ w = 12 ∨ w = 13 ∨ w = 14 ∨ w = 16 ∨ w = 17 ∨ w = 18 := by omega
  rcases cs with rfl | rfl | rfl | rfl | rfl | rfl | rfl | rfl | rfl | rfl | rfl | rfl
  · show gp_of gh C A 4 x 0 0 0 = _
    rw [go_4]; unfold f11_stateOf; rw [nd_change h, x1_inr, x1e, hh1]
  · show gp_of gh C A 5 x 0 0 0 = _
    rw [go_5]; unfold f11_sets; rw [nd_change h, x1_inr, x1e, hh1]
  · show gp_of gh C A 6 x 0 0 0 = _
    rw [go_6]; unfold f11_commitOf; rw [nd_change h, x1_inr, x1e, hh1]
  · show gp_of gh C A 7 x 0 0 0 = _
    rw [go_7]; unfold f11_kindOf; rw [nd_change h, x1_inr, x1e, hh1]
  · show gp_of gh C A 8 x 0 0 0 = _
    rw [go_8]; unfold f11_parentOf; rw [nd_change h, x1_inr, x1e, hh1]
  · show gp_of gh C A 11 x 0 0 0 = _
    rw [go_11]; unfold f11_statements; rw [nd_change h, x1_inr, x1e, hh1]
  · show gp_of gh C A 12 x 0 0 0 = _
    rw [go_12]; unfold f11_group; rw [nd_change h, x1_inr, x1e, hh1]
  · show gp_of gh C A 13 x 0 0 0 = _
    rw [go_13]; unfold f11_reviewers; rw [nd_change h, x1_inr, x1e, hh1]
  · show gp_of gh C A 14 x 0 0 0 = _
    rw [go_14]; unfold f11_whoseTurn; rw [nd_change h, x1_inr, x1e, hh1]
  · show gp_of gh C A 16 x 0 0 0 = _
    rw [go_16]; unfold f11_fewest; rw [nd_change h, x1_inr, x1e, hh1]
  · show gp_of gh C A 17 x 0 0 0 = _
    rw [go_17]; unfold f11_lacks; rw [nd_change h, x1_inr, x1e, hh1]
  · show gp_of gh C A 18 x 0 0 0 = _
    rw [go_18]; unfold f11_unresolved; rw [nd_change h, x1_inr, x1e, hh1]
end
