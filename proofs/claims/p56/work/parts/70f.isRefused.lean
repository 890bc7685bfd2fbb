/-! isRefused -/
section
variable {n : Nat} {gh : rC_gh} {R A : rv_Mem}
theorem ir_tail (hc : gh.1 0 ≤ 20) {v : Int64} {x : Int32} (hv : ∀ M, Rn n gh M R → gp_all gh M A = some (v, M)) (hx : Wr x (gh.1 0)) {M : rv_Mem} (hM : Rn n gh M R) : ∀ d w fuel, w + d = 19 → 4 ≤ w → d < fuel → gp_isRefused_1441 A fuel gh M x v true (nI w) = some (true, gh, M)
  | d, w, 0, _, _, h2 => absurd h2 (Nat.not_lt_zero _)
  | 0, w, fuel + 1, h1, _, _ => by
    show gp_isRefused_1441_s A (gp_isRefused_1441 A fuel) gh M x v true (nI w) = _
    unfold gp_isRefused_1441_s gp_isRefused_1504
    rw [if_neg (show ¬ nI w < 19 from show ¬ nI w < nI 19 by rw [q_lt (by omega) (by omega)]; omega), if_pos rfl, hv M hM, o2_some]
    have e : lg_cmp v v = 0 := by unfold lg_cmp; simp
    rw [if_pos e]
  | d + 1, w, fuel + 1, h1, h4, h2 => by
    have ih := ir_tail hc hv hx hM d (w + 1) fuel (by omega) (by omega) (by omega)
    show gp_isRefused_1441_s A (gp_isRefused_1441 A fuel) gh M x v true (nI w) = _
    unfold gp_isRefused_1441_s gp_isRefused_1491 gp_isRefused_1496
    rw [if_pos (show nI w < 19 from show nI w < nI 19 by rw [q_lt (by omega) (by omega)]; omega), if_pos rfl, q_succ]
    by_cases c9 : w = 9
    · rw [if_neg (fun z => z (by rw [c9]; rfl))]; exact ih
    · rw [if_pos (show ¬ nI w = 9 from show ¬ nI w = nI 9 by rw [q_eq (by omega) (by omega)]; exact c9)]
      by_cases c10 : w = 10
      · rw [if_neg (fun z => z (by rw [c10]; rfl))]; exact ih
      · rw [if_pos (show ¬ nI w = 10 from show ¬ nI w = nI 10 by rw [q_eq (by omega) (by omega)]; exact c10)]
        by_cases c15 : w = 15
        · rw [if_neg (fun z => z (by rw [c15]; rfl))]; exact ih
        · rw [if_pos (show ¬ nI w = 15 from show ¬ nI w = nI 15 by rw [q_eq (by omega) (by omega)]; exact c15), rf_of hx w h4 (by omega) c9 c10 c15, o2_some, if_pos rfl]
          exact ih
/-- the calls that each change refuses -/
theorem ir_change {M : rv_Mem} (hM : Rn n gh M R) {m k r : Nat} (hm : m < gh.1 0) (hk : R 14 m = nI k) (hr : r < 30) {x3 x5 x8 x9 none_ : Int32} {low : Bool} (h3 : x3 - x3 / 30 * 30 = nI r) (h5 : Wr x5 6) (h8 : Wr x8 4) (h9 : Wr x9 2) (hn : Wr none_ k) {x6 : Int32} {x10 : Int64} (k978 : rC_gh → rv_Mem → Int32 → Bool → Int32 → Int32 → Int32 → Int32 → Int64 → Bool → Int32 → Option (Bool × rC_gh × rv_Mem)) : ∃ M', Rn n gh M' R ∧ gp_isRefused_1017 A k978 gh M x3 low x5 x6 x8 x9 x10 (nI m) none_ = k978 gh M' x3 low x5 x6 x8 x9 x10 true (nI (m + 1)) := by
  have lo1 : (-1 : Int32) - nI r < 0 := (by decide : ∀ r, r < 30 → (-1 : Int32) - nI r < 0) r hr
  have lo2 : ¬ (-1 : Int32) ≤ -2 - nI r := (by decide : ∀ r, r < 30 → ¬ (-1 : Int32) ≤ -2 - nI r) r hr
  have lo0 : (0 : Int32) - nI r < 1 := (by decide : ∀ r, r < 30 → (0 : Int32) - nI r < 1) r hr
  obtain ⟨M', e21, hM'⟩ := rf_o21 (A := A) hM hm lo1
  refine ⟨M', hM', ?_⟩
  have a13 := rf_13f (A := A) (b := 0) (c := 0) (d := 0) hM hm lo1
  have b15 := rf_15s (A := A) (c := 9) (d := 9) hM hm hk hn
  have b15l := rf_15l (A := A) (d := 0) hM hm h9
  have ccs := rf_cs (A := A) (b := 0) (c := 0) (d := 0) hM hm hk hn
  have ccf := rf_cf (A := A) (c := 0) (d := 0) hM hm h8
  have d20 := rf_o20 (A := A) (f := 0) hM hm hk hn
  have d10 := rf_o10p (gh := gh) (C := M') (A := A) (a := nI m) (b := 0) (c := 0) h5
  have d10l := rf_o10l (A := A) hM' hm h9
  unfold gp_isRefused_1017
  rw [rf_1s hM hm hk hn, o3k, if_pos rfl]
  cases low with
  | true =>
    rw [if_pos rfl, h3]
    unfold gp_isRefused_1058
    rw [rf_10t hM hm (Or.inl lo2), o3k, if_pos rfl, h3, a13, o3k, if_pos rfl, b15, o3k, if_pos rfl, b15l, o3k, if_pos rfl, if_pos rfl]
    unfold gp_isRefused_1152
    rw [rf_15v hM hm (Or.inl (by decide)), o3k, if_pos rfl, ccs, o3k, if_pos rfl, ccf, o3k, if_pos rfl, if_pos rfl]
    unfold gp_isRefused_1214
    rw [rf_cm hM hm (Or.inr (Or.inl (by decide))), o3k, if_pos rfl, if_pos rfl, h3]
    unfold gp_isRefused_1247
    rw [rf_cm hM hm (Or.inl lo0), o3k, if_pos rfl, if_pos rfl]
    unfold gp_isRefused_1272
    rw [rf_fm hM hm (Or.inr (Or.inl (by decide))), o3k, if_pos rfl, if_pos rfl, h3]
    unfold gp_isRefused_1305
    rw [rf_fm hM hm (Or.inl lo1), o3k, if_pos rfl, if_pos rfl, h3]
    unfold gp_isRefused_1340
    rw [rf_fl hM hm (Or.inl lo2), o3k, if_pos rfl, d20, o2_some, if_pos rfl, h3, e21, o2_some, if_pos rfl, d10, o2_some, if_pos rfl, d10l, o2_some, if_pos rfl]
    unfold gp_isRefused_1430
    rw [q_succ]
  | false =>
    rw [if_neg (by simp)]
    unfold gp_isRefused_1058
    rw [rf_10t hM hm (Or.inr (by decide)), o3k, if_pos rfl, h3, a13, o3k, if_pos rfl, b15, o3k, if_pos rfl, b15l, o3k, if_pos rfl, if_neg (by simp)]
    unfold gp_isRefused_1152
    rw [rf_15v hM hm (Or.inr (by decide)), o3k, if_pos rfl, ccs, o3k, if_pos rfl, ccf, o3k, if_pos rfl, if_neg (by simp)]
    unfold gp_isRefused_1214
    rw [rf_cm hM hm (Or.inr (Or.inr (Or.inr (Or.inl ⟨rfl, by decide⟩)))), o3k, if_pos rfl, if_neg (by simp)]
    unfold gp_isRefused_1247
    rw [rf_cm hM hm (Or.inr (Or.inr (Or.inr (Or.inr ⟨rfl, by decide⟩)))), o3k, if_pos rfl, if_neg (by simp)]
    unfold gp_isRefused_1272
    rw [rf_fm hM hm (Or.inr (Or.inr (Or.inl (by decide)))), o3k, if_pos rfl, if_neg (by simp)]
    unfold gp_isRefused_1305
    rw [rf_fm hM hm (Or.inr (Or.inr (Or.inr (Or.inr ⟨rfl, by decide⟩)))), o3k, if_pos rfl, if_neg (by simp)]
    unfold gp_isRefused_1340
    rw [rf_fl hM hm (Or.inr (by decide)), o3k, if_pos rfl, d20, o2_some, if_pos rfl, h3, e21, o2_some, if_pos rfl, d10, o2_some, if_pos rfl, d10l, o2_some, if_pos rfl]
    unfold gp_isRefused_1430
    rw [q_succ]
theorem ir_loop (hc : gh.1 0 ≤ 20) {v : Int64} (hv : ∀ M, Rn n gh M R → gp_all gh M A = some (v, M)) {r : Nat} (hr : r < 30) {x3 x5 x6 x8 x9 : Int32} {low : Bool} (h3 : x3 - x3 / 30 * 30 = nI r) (h5 : Wr x5 6) (h6 : Wr x6 (gh.1 0)) (h8 : Wr x8 4) (h9 : Wr x9 2) : ∀ d m fuel M, Rn n gh M R → m + d = gh.1 0 → d < fuel → ∃ M', gp_isRefused_978 A fuel gh M x3 low x5 x6 x8 x9 v true (nI m) = some (true, gh, M') ∧ Rn n gh M' R
  | d, m, 0, _, _, _, h2 => absurd h2 (Nat.not_lt_zero _)
  | 0, m, fuel + 1, M, hM, h1, _ => by
    refine ⟨M, ?_, hM⟩
    show gp_isRefused_978_s A (gp_isRefused_978 A fuel) gh M x3 low x5 x6 x8 x9 v true (nI m) = _
    unfold gp_isRefused_978_s f11_changes gp_isRefused_1438
    rw [o1_some, if_neg (by rw [q_lt (by omega) (by omega)]; omega)]
    exact ir_tail hc hv h6 hM 15 4 16 rfl (by omega) (by omega)
  | d + 1, m, fuel + 1, M, hM, h1, h2 => by
    obtain ⟨k, k1, k2, -, k4, -⟩ := hM.sets (show m < gh.1 0 by omega)
    have step : ∀ none_, Wr none_ k → ∃ M', gp_isRefused_1017 A (gp_isRefused_978 A fuel) gh M x3 low x5 x6 x8 x9 v (nI m) none_ = some (true, gh, M') ∧ Rn n gh M' R := fun none_ hn => by
      obtain ⟨M1, h1', e1⟩ := ir_change (A := A) hM (show m < gh.1 0 by omega) k4 hr h3 h5 h8 h9 hn (x6 := x6) (x10 := v) (low := low) (gp_isRefused_978 A fuel)
      rw [e1]
      exact ir_loop hc hv hr h3 h5 h6 h8 h9 d (m + 1) fuel M1 h1' (by omega) (by omega)
    show ∃ M', gp_isRefused_978_s A (gp_isRefused_978 A fuel) gh M x3 low x5 x6 x8 x9 v true (nI m) = some (true, gh, M') ∧ _
    unfold gp_isRefused_978_s f11_changes
    rw [o1_some, if_pos (by rw [q_lt (by omega) (by omega)]; omega), if_pos rfl]
    cases low with
    | true =>
      rw [if_pos rfl, h3]
      exact step _ (Wr.lo1 _ r hr)
    | false =>
      rw [if_neg (by simp), ak_sets hM (by omega), x1k, h3, k4]
      exact step _ (Wr.hi (by omega))
end
