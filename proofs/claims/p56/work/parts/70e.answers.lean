/-! WHAT IS ANSWERED -/
theorem q_rem {a d : Nat} {L : Int32} (hL : L = nI d) (ha : a < 2147483648) (h0 : 0 < d) (hd : d < 2147483648) : nI a - nI a / L * L = nI (a % d) := by rw [hL]; exact pk_rem ha h0 hd
theorem q_div {a d : Nat} {L : Int32} (hL : L = nI d) (ha : a < 2147483648) (h0 : 0 < d) (hd : d < 2147483648) : nI a / L = nI (a / d) := by rw [hL]; exact pk_div ha h0 hd
def ln (A : List Int32) (p : Nat) : Int32 := A.getD p NO
theorem ln_lt {A : List Int32} {p : Nat} (h : p < A.length) : ln A p = A.getD p 0 := by unfold ln; simp [List.getD, List.getElem?_eq_getElem h]
theorem ln_ge {A : List Int32} {p : Nat} (h : A.length ≤ p) : ln A p = NO := by unfold ln; simp [List.getD, List.getElem?_eq_none h]
def fcS (R : rv_Mem) (m : Nat) : Int32 := ((f12_factsOf R (nI m) 0).map Prod.fst).getD 0
def stS (R : rv_Mem) (m : Nat) : Int32 := hd (R 45 0).toNatClampNeg R (fcS R m)
def rvS (R : rv_Mem) (m : Nat) : Int32 := (f12_reviewersOf R (nI m)).getD 0
section
variable {n : Nat} {gh : rC_gh} {C R A : rv_Mem}
theorem ak_commits (hR : Rn n gh C R) : f11_commits gh C = some (nI n) := by unfold f11_commits; rw [hR.cnt.2.1]
theorem ak_day (hR : Rn n gh C R) : f11_day gh C = some (R 52 0) := by
  obtain ⟨d, -, e1, e2⟩ := hR.mis.2.2
  unfold f11_day; rw [e1, e2]
theorem ak_tip (hR : Rn n gh C R) {r : Nat} (hr : r < 2) : f11_tip gh C (nI r) = some (.inl (R 9 r)) := by
  obtain ⟨⟨t, -, e1, e2, -⟩, -⟩ := hR.tip r hr
  unfold f11_tip f9_tipOf
  rw [ok_repo hr, x1_inl, s9_read (L := 2) hr rfl rfl (by omega), o1_some, o1_some, e1, e2]
theorem ak_state (hR : Rn n gh C R) {m : Nat} (hm : m < gh.1 0) : f11_stateOf gh C (nI m) = some (.inl (R 13 m)) := by
  obtain ⟨-, -, -, ⟨s, -, e1, e2⟩, -⟩ := hR.chg m hm
  unfold f11_stateOf
  rw [ok_change hR hm, x1_inl, if_pos (is1 hm hR.ch20), e1, e2]
theorem ak_sets (hR : Rn n gh C R) {m : Nat} (hm : m < gh.1 0) : f11_sets gh C (nI m) = some (.inl (R 14 m)) := by
  obtain ⟨k, -, -, e1, e2, -⟩ := hR.sets hm
  unfold f11_sets
  rw [ok_change hR hm, x1_inl, if_pos (is1 hm hR.ch20), e1, e2]
theorem ak_turn (hR : Rn n gh C R) {m : Nat} (hm : m < gh.1 0) : f11_whoseTurn gh C (nI m) = some (.inl (R 20 m)) := by
  have e := (hR.chg m hm).2.2.2.2.2.2.2.1
  unfold f11_whoseTurn
  rw [ok_change hR hm, x1_inl, if_pos (is1 hm hR.ch20), e]
theorem rvS_eq (hR : Rn n gh C R) {m : Nat} (hm : m < gh.1 0) : C (100 + m) 9 = rvS R m := by unfold rvS; rw [hR.rv hm]; rfl
theorem ak_rev (hR : Rn n gh C R) {m : Nat} (hm : m < gh.1 0) : f11_reviewers gh C (nI m) = some (.inl (rvS R m)) := by
  unfold f11_reviewers
  rw [ok_change hR hm, x1_inl, if_pos (is1 hm hR.ch20), rvS_eq hR hm]
theorem rvS_bt (hR : Rn n gh C R) {m i : Nat} (hm : m < gh.1 0) (hi : i < 32) : bt (rvS R m) i = revB n (gh.1 1) (R 5) (R 12) (R 19) (R 22) (R 25) (R 26) (R 32) m i := by
  rw [← rvS_eq hR hm]; exact hR.rev m hm i hi
theorem ak_mails (hR : Rn n gh C R) {p : Nat} (hp : p < 6) : f11_mails gh C (nI p) = some (.inl (R 51 p)) := by
  unfold f11_mails
  rw [ok_person hp, x1_inl, if_pos (q_inb hp (by omega)), q_nc (by omega), hR.mis.2.1 p hp]
theorem ak_line (hR : Rn n gh C R) {x : Int32} {c f p : Nat} (hx : isRow n x c) (hf : f < 4) (hp : p < 2147483648) : f11_line gh C x (nI f) (nI p) = some (.inl (ln (fl R c f) p)) := by
  have hn := hR.n80
  have hc : c < n ∨ c = 80 := by
    rcases hx with ⟨h, -⟩ | ⟨h, -⟩
    · exact Or.inl h
    · exact Or.inr h
  obtain ⟨⟨a1, a2, a3⟩, -, -⟩ := fil_files hR.fil hc hf
  unfold f11_line
  rw [ok_row hR hx, x1_inl, ok_file hf, x1_inl, if_neg (by rw [q_0, q_lt hp (by omega)]; omega)]
  by_cases h : p < (fl R c f).length
  · rw [s9_lineAt (by omega) hf a2 a1 h, o1_some, a3 p h, ln_lt h]
  · rw [s9_lineAt_out (by omega) hf a2 a1 (by omega) hp, o1_some, ln_ge (by omega)]
theorem fl_10 (hR : Rn n gh C R) {c f : Nat} (hc : c < n ∨ c = 80) (hf : f < 4) : (fl R c f).length ≤ 10 := (fil_files hR.fil hc hf).1.1
theorem ln_v (hR : Rn n gh C R) {c f p : Nat} (hc : c < n ∨ c = 80) (hf : f < 4) (hp : p < (fl R c f).length) : ∃ v, v < 400 ∧ ln (fl R c f) p = nI v := by
  obtain ⟨v, v1, v2⟩ := (fil_files hR.fil hc hf).2.2 p hp
  exact ⟨v, v1, by rw [ln_lt hp]; exact v2⟩
theorem isRow.or {x : Int32} {c : Nat} (hx : isRow n x c) : c < n ∨ c = 80 := by
  rcases hx with ⟨h, -⟩ | ⟨h, -⟩
  · exact Or.inl h
  · exact Or.inr h
theorem sz_loop (hR : Rn n gh C R) {x : Int32} {c f : Nat} (hx : isRow n x c) (hf : f < 4) : ∀ d p fuel, p + d = (fl R c f).length → d < fuel → gp_size_2 gh A fuel C x (nI f) (nI p) = some (nI (fl R c f).length, C)
  | d, p, 0, _, h2 => absurd h2 (Nat.not_lt_zero _)
  | 0, p, fuel + 1, h1, _ => by
    have h10 := fl_10 hR hx.or hf
    show gp_size_2_s gh A (gp_size_2 gh A fuel) C x (nI f) (nI p) = _
    unfold gp_size_2_s
    rw [ak_line hR hx hf (by omega), x1k, ln_ge (by omega), if_neg (by rw [q_0, q_le_no (by omega)]; exact id)]
    congr 3
  | d + 1, p, fuel + 1, h1, h2 => by
    have h10 := fl_10 hR hx.or hf
    obtain ⟨v, v1, v2⟩ := ln_v hR hx.or hf (show p < (fl R c f).length by omega)
    show gp_size_2_s gh A (gp_size_2 gh A fuel) C x (nI f) (nI p) = _
    unfold gp_size_2_s
    rw [ak_line hR hx hf (by omega), x1k, v2, if_pos (by rw [q_0, q_le (by omega) (by omega)]; omega), q_succ]
    exact sz_loop hR hx hf d (p + 1) fuel (by omega) (by omega)
theorem ak_size (hR : Rn n gh C R) {x : Int32} {c f : Nat} (hx : isRow n x c) (hf : f < 4) : gp_size gh C A x (nI f) = some (nI (fl R c f).length, C) := by
  have h10 := fl_10 hR hx.or hf
  exact sz_loop hR hx hf _ 0 rv_FU (Nat.zero_add _) (FU_lt (by omega))
theorem ak_owners (hR : Rn n gh C R) {r f : Nat} (hr : r < 2) (hf : f < 4) : f11_owners gh C (nI r) (nI f) = some (.inl (ownS R r f)) := by
  unfold f11_owners
  rw [ok_repo hr, x1_inl, ok_file hf, x1_inl, s6_ownersOf hR hr hf, o1_some]
theorem ak_facts (hR : Rn n gh C R) {m : Nat} (hm : m < gh.1 0) : f11_factsOf gh C (100 + m) 0 = some (fcS R m) := by
  obtain ⟨F, M', e1, e2, -⟩ := hR.facts hm 0
  unfold fcS; rw [e1, e2]; rfl
theorem ak_stmt (hR : Rn n gh C R) {m : Nat} (hm : m < gh.1 0) : f11_statements gh C (nI m) = some (.inl (stS R m)) := by
  obtain ⟨nr, n1, n2, n3, n4, -⟩ := hR.followB
  unfold f11_statements stS
  rw [ok_change hR hm, x1_inl, ak_facts hR hm, o1_some, n4, o1_some, n3, q_nc (by omega)]
theorem av_123 : ∀ d k fuel (x : Int64), k + d = 6 → d < fuel → ∃ v, ∀ M, Rn n gh M R → gp_all_123 gh A fuel M x (nI k) = some (v, M)
  | d, k, 0, x, _, h2 => absurd h2 (Nat.not_lt_zero _)
  | 0, k, fuel + 1, x, h1, _ => ⟨x, fun M _ => by
    show gp_all_123_s gh A (gp_all_123 gh A fuel) M x (nI k) = _
    unfold gp_all_123_s
    rw [if_neg (by rw [q_6, q_lt (by omega) (by omega)]; omega)]⟩
  | d + 1, k, fuel + 1, x, h1, h2 => by
    obtain ⟨v, hv⟩ := av_123 d (k + 1) fuel ((((31 : Int64) * x + (R 51 k).toInt64) + (7 : Int64) * (nI (fl R 80 (k % 4)).length).toInt64) + (3 : Int64) * (ownS R (k % 2) (k % 4)).toInt64) (by omega) (by omega)
    refine ⟨v, fun M hM => ?_⟩
    show gp_all_123_s gh A (gp_all_123 gh A fuel) M x (nI k) = _
    unfold gp_all_123_s
    rw [if_pos (by rw [q_6, q_lt (by omega) (by omega)]; omega), ak_mails hM (by omega), x1k, q_rem (L := 4) (d := 4) rfl (by omega) (by omega) (by omega), ak_size hM (x := -1) (c := 80) (Or.inr ⟨rfl, rfl⟩) (by omega), o2_some, q_rem (L := 2) (d := 2) rfl (by omega) (by omega) (by omega), ak_owners hM (by omega) (by omega), x1k, q_succ]
    exact hv M hM
theorem av_50 (hc : gh.1 0 ≤ 20) : ∀ d k fuel (x : Int64), k + d = gh.1 0 → d < fuel → ∃ v, ∀ M, Rn n gh M R → gp_all_50 gh A fuel M x (nI k) = some (v, M)
  | d, k, 0, x, _, h2 => absurd h2 (Nat.not_lt_zero _)
  | 0, k, fuel + 1, x, h1, _ => by
    obtain ⟨v, hv⟩ := av_123 (n := n) (gh := gh) (R := R) (A := A) 6 0 rv_FU x rfl (FU_lt (by omega))
    refine ⟨v, fun M hM => ?_⟩
    show gp_all_50_s gh A (gp_all_50 gh A fuel) M x (nI k) = _
    unfold gp_all_50_s f11_changes
    rw [o1_some, if_neg (by rw [q_lt (by omega) (by omega)]; omega)]
    exact hv M hM
  | d + 1, k, fuel + 1, x, h1, h2 => by
    obtain ⟨v, hv⟩ := av_50 hc d (k + 1) fuel (((((1000003 : Int64) * x + (R 13 k).toInt64) + (7 : Int64) * (R 14 k).toInt64) + (31 : Int64) * (stS R k).toInt64) + (961 : Int64) * (rvS R k).toInt64 + (29791 : Int64) * (R 20 k).toInt64) (by omega) (by omega)
    refine ⟨v, fun M hM => ?_⟩
    show gp_all_50_s gh A (gp_all_50 gh A fuel) M x (nI k) = _
    unfold gp_all_50_s f11_changes
    rw [o1_some, if_pos (by rw [q_lt (by omega) (by omega)]; omega), ak_state hM (by omega), x1k, ak_sets hM (by omega), x1k, ak_stmt hM (by omega), x1k, ak_rev hM (by omega), x1k, ak_turn hM (by omega), x1k, q_succ]
    exact hv M hM
/-- all that is summed up is told by R -/
theorem av_all (hc : gh.1 0 ≤ 20) : ∃ v, ∀ M, Rn n gh M R → gp_all gh M A = some (v, M) := by
  obtain ⟨v, hv⟩ := av_50 (n := n) (gh := gh) (R := R) (A := A) hc (gh.1 0) 0 rv_FU (((((nI n).toInt64 + ((31 : Int64) * (nI (gh.1 0)).toInt64)) + ((961 : Int64) * (R 52 0).toInt64)) + ((29791 : Int64) * (R 9 0).toInt64)) + ((65537 : Int64) * (R 9 1).toInt64)) (Nat.zero_add _) (FU_lt (by omega))
  refine ⟨v, fun M hM => ?_⟩
  unfold gp_all
  rw [ak_commits hM, o1_some, show f11_changes gh M = some (nI (gh.1 0)) from rfl, o1_some, ak_day hM, o1_some, show f11_tip gh M 0 = some (.inl (R 9 0)) from ak_tip hM (r := 0) (by omega), x1k, show f11_tip gh M 1 = some (.inl (R 9 1)) from ak_tip hM (r := 1) (by omega), x1k]
  exact hv M hM
end
