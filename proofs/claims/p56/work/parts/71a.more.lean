/-! WHAT IS ANSWERED: commits, sets, parents, votes -/
theorem lnN {A : List Int32} (p : Nat) : ln A p = if h : p < A.length then A[p] else NO := by
  by_cases h : p < A.length
  · rw [dif_pos h, ln_lt h]; simp [List.getD, List.getElem?_eq_getElem h]
  · rw [dif_neg h, ln_ge (by omega)]
section
variable {n : Nat} {gh : rC_gh} {C R A : rv_Mem}
theorem bs_eq (hR : Rn n gh C R) {c : Nat} (hc : c < n ∨ c = 80) : C 17 c = R 2 c := by
  rcases hc with hc | rfl
  · by_cases h : c < 2
    · have := hR.bas.2.1 c h
      rw [this.1, this.2]
    · obtain ⟨b, -, e1, e2, -⟩ := hR.base (by omega) hc
      rw [e1, e2]
  · obtain ⟨b, -, e1, e2⟩ := hR.bas.2.2.2
    rw [e1, e2]
theorem ak_before (hR : Rn n gh C R) {x : Int32} {c : Nat} (hx : isRow n x c) : f11_before gh C x = some (.inl (R 2 c)) := by
  have hn := hR.n80
  have hc := hx.or
  unfold f11_before f9_baseOf
  rw [ok_row hR hx, x1_inl, s9_read (L := 82) (by omega) rfl rfl (by omega), o1_some, o1_some, bs_eq hR hc]
theorem ak_named (hR : Rn n gh C R) {c : Nat} (hc : c < n) : f11_namedAfter gh C (nI c) = some (.inl (R 8 c)) := by
  have hn := hR.n80
  unfold f11_namedAfter f9_nameOf
  rw [ok_commit hR hc, x1_inl, s9_read (L := 82) (by omega) rfl rfl (by omega), o1_some, o1_some, (hR.bas.1 c hc).2]
theorem ak_commitOf (hR : Rn n gh C R) {m k s : Nat} (h : m < gh.1 0) (hk : R 14 m = nI k) (hk80 : k ≤ 80) (hs : s < k) : ∃ c, 2 ≤ c ∧ c < n ∧ R 5 c = nI m ∧ R 6 c = nI s ∧ mAt n (R 5) (R 6) (nI m) (nI s) = nI c ∧ f11_commitOf gh C (nI m) (nI s) = some (.inl (nI c)) := by
  obtain ⟨c, c1, c2, -, c4, c5, c6, c7⟩ := ok_set hR h hk hk80 hs
  refine ⟨c, c1, c2, c4, c5, c6, ?_⟩
  unfold f11_commitOf
  rw [ok_change hR h, x1_inl, c7, x1_inl]
theorem ak_now (hR : Rn n gh C R) {m : Nat} (h : m < gh.1 0) : ∃ k c b, 1 ≤ k ∧ k ≤ 80 ∧ R 14 m = nI k ∧ 2 ≤ c ∧ c < n ∧ b < c ∧ R 5 c = nI m ∧ R 6 c = nI (k - 1) ∧ curS n R m = nI c ∧ R 2 c = nI b ∧ R 1 b = R 1 c ∧ mAt n (R 5) (R 6) (nI m) (nI (k - 1)) = nI c ∧ gp_now gh C A (nI m) = some (nI c, C) := by
  obtain ⟨k, c, k1, k2, k3, k4, c1, c2, c3, c4, c5, c6, c7, c8⟩ := hR.cur h
  obtain ⟨c', d1, d2, d4, d5, d6, d7⟩ := ak_commitOf hR h k3 k2 (show k - 1 < k by omega)
  have e : c' = c := by
    have : curS n R m = nI c' := by unfold curS; rw [k3, q_1, q_sub (by omega)]; exact d6
    have hn := hR.n80
    rw [c7, q_eq (by omega) (by omega)] at this
    exact this.symm
  subst e
  obtain ⟨b, b1, -, b3, b4⟩ := hR.base c1 c2
  refine ⟨k, c', b, k1, k2, k3, c1, c2, b1, c4, c5, c7, b3, b4, d6, ?_⟩
  unfold gp_now
  rw [ak_sets hR h, x1k, k3, q_1, q_sub (by omega), d7, x1k]
theorem rp_loop (hR : Rn n gh C R) (j1 : R 1 0 = nI 0 ∧ R 1 1 = nI 1) : ∀ fuel c, c < n → c < fuel → gp_repo_2 gh A fuel C (nI c) = some (R 1 c, C)
  | 0, c, _, h2 => absurd h2 (Nat.not_lt_zero _)
  | fuel + 1, c, h1, h2 => by
    have hn := hR.n80
    show gp_repo_2_s gh A (gp_repo_2 gh A fuel) C (nI c) = _
    unfold gp_repo_2_s
    rw [ak_before hR (Or.inl ⟨h1, rfl⟩), x1k]
    by_cases c2 : c < 2
    · have e := (hR.bas.2.1 c c2).2
      rw [e, if_neg (by rw [q_0, q_le_no (by omega)]; exact id)]
      rcases (show c = 0 ∨ c = 1 by omega) with rfl | rfl
      · rw [j1.1]
      · rw [j1.2]
    · obtain ⟨b, b1, -, b3, b4⟩ := hR.base (by omega) h1
      rw [b3, if_pos (by rw [q_0, q_le (by omega) (by omega)]; omega), x1k, ← b4]
      exact rp_loop hR j1 fuel b (by omega) (by omega)
theorem ak_repo (hR : Rn n gh C R) (j1 : R 1 0 = nI 0 ∧ R 1 1 = nI 1) {c : Nat} (hc : c < n) : gp_repo gh C A (nI c) = some (R 1 c, C) := by
  have hn := hR.n80
  exact rp_loop hR j1 rv_FU c hc (FU_lt (by omega))
theorem ak_kind (hR : Rn n gh C R) {m k s : Nat} (h : m < gh.1 0) (hk : R 14 m = nI k) (hk80 : k ≤ 80) (hs : s < k) {c : Nat} (hcn : c < n) (hc : mAt n (R 5) (R 6) (nI m) (nI s) = nI c) : f11_kindOf gh C (nI m) (nI s) = some (.inl (kindS n R c)) := by
  have hn := hR.n80
  have hc20 := hR.ch20
  obtain ⟨c', c1, c2, -, c4, c5, c6, c7⟩ := ok_set hR h hk hk80 hs
  have e : c' = c := by rw [hc, q_eq (by omega) (by omega)] at c6; exact c6.symm
  subst e
  unfold f11_kindOf f9_kindAt
  rw [ok_change hR h, x1_inl, c7, x1_inl, s9_read (L := 82) (by omega) (by decide) rfl (by omega), o1_some, o1_some, hR.kin c' c2 (by rw [c4, ne_eq, q_no_eq (by omega)]; exact id)]
theorem ak_parent (hR : Rn n gh C R) {m : Nat} (h : m < gh.1 0) : (parS n R m = NO ∧ f11_parentOf gh C (nI m) = some (.inl NO)) ∨ ∃ (g : Nat) (w : Bool), g < gh.1 0 ∧ parS n R m = nI g ∧ f11_parentOf gh C (nI m) = some (.inl (nI (10 * g + if w = true then 1 else 0))) ∧ (w = false ↔ curS n R g = R 2 (curS n R m).toNatClampNeg) := by
  have hc20 := hR.ch20
  have hn := hR.n80
  obtain ⟨x, x1, -, x3, x4⟩ := hR.parent h
  unfold f11_parentOf
  rw [ok_change hR h, x1_inl, x1, o1_some]
  rcases x4 with rfl | ⟨g, hg, rfl⟩
  · left
    rw [if_pos (show NO = -1 from rfl)]
    exact ⟨x3, rfl⟩
  · right
    obtain ⟨k, c, b, -, -, -, c1, c2, b1, -, -, c7, b3, -, -, -⟩ := ak_now (A := fun _ _ => 0) hR h
    obtain ⟨kg, cg, -, -, -, -, g1, g2, g3, -, -, -, g7, -⟩ := hR.cur hg
    have e23 : C 23 m = nI c := by
      obtain ⟨-, c', -, -, -, -, -, -, z3, -, -, -, z7, -⟩ := hR.cur h
      rw [z3, ← z7, c7]
    have ow : f9_isOutdated gh C (nI m) = some (!decide (nI cg = nI b)) := by
      unfold f9_isOutdated f9_currentOf f9_baseOf
      rw [x1, o1_some, if_pos (by rw [q_no, q_no_eq (by omega)]; exact id), s9_read (L := 20) (by omega) rfl rfl (by omega), o1_some, o1_some, g3, s9_read (L := 20) (by omega) rfl rfl (by omega), o1_some, o1_some, e23, s9_read (L := 82) (by omega) rfl rfl (by omega), o1_some, o1_some, bs_eq hR (Or.inl c2), b3]
      by_cases q : nI cg = nI b
      · rw [if_neg (fun z => z q), decide_eq_true q]; rfl
      · rw [if_pos q, decide_eq_false q]; rfl
    rw [if_neg (by rw [q_no, q_no_eq (by omega)]; exact id), ow, o1_some]
    refine ⟨g, !decide (nI cg = nI b), hg, x3, ?_, ?_⟩
    · unfold f11_parentOf_44
      rw [q_10, q_mul]
      cases decide (nI cg = nI b)
      · rw [show (!false) = true from rfl, if_pos rfl, rvi_t, q_add, if_pos rfl]
      · rw [show (!true) = false from rfl, if_neg (by simp), rvi_f, q_add, if_neg (by simp)]
    · rw [g7, c7, q_nc (by omega), b3]
      by_cases q : nI cg = nI b
      · rw [decide_eq_true q]; exact ⟨fun _ => q, fun _ => rfl⟩
      · rw [decide_eq_false q]; exact ⟨fun z => absurd z (by simp), fun z => absurd z q⟩
theorem ak_worth (hR : Rn n gh C R) {m k s p l : Nat} (h : m < gh.1 0) (hk : R 14 m = nI k) (hk80 : k ≤ 80) (hs : s < k) (hp : p < 6) (hl : l < 2) : f11_worth gh C (nI p) (nI m) (nI s) (nI l) = some (.inl (wI (wP n R m p l (s + 1)))) := by
  obtain ⟨c, -, -, -, -, -, -, e⟩ := ok_set hR h hk hk80 hs
  unfold f11_worth
  rw [ok_person hp, x1_inl, ok_change hR h, x1_inl, e, x1_inl, ok_label hl, x1_inl, hR.worthC (C1 := C) h hp hl hk hk80 hs rfl rfl rfl rfl rfl, o1_some]
theorem ak_fewest (hR : Rn n gh C R) {m : Nat} (h : m < gh.1 0) : ∃ r, f11_fewest gh C (nI m) = some (.inl (nI r)) ∧ isMin 64 (fun k => okS n R m (nI k)) (some r) := by
  obtain ⟨r, r1, r2⟩ := hR.fewC h
  refine ⟨r, ?_, r2⟩
  unfold f11_fewest
  rw [ok_change hR h, x1_inl, r1]
theorem ak_lacks (hR : Rn n gh C R) {m : Nat} (h : m < gh.1 0) : ∃ r, f11_lacks gh C (nI m) = some (.inl (oI r)) ∧ isMin 256 (fun k => bt (hd (R 45 0).toNatClampNeg R (fcS R m ^^^ nI k)) 15) r := by
  obtain ⟨nr, n1, n2, n3, n4, -⟩ := hR.followB
  obtain ⟨r, r1, r2⟩ := s8_lacking n4 (fcS R m)
  refine ⟨r, ?_, ?_⟩
  · unfold f11_lacks
    rw [ok_change hR h, x1_inl, ak_facts hR h, o1_some, r1, o1_some]
  · rw [n3, q_nc (by omega)]; exact r2
theorem ak_unres (hR : Rn n gh C R) {m : Nat} (h : m < gh.1 0) : ∃ v, f11_countUnresolved gh C (nI m) = some (nI v) ∧ f11_unresolved gh C (nI m) = some (.inl (nI v)) := by
  obtain ⟨v, v1, -⟩ := hR.unres h
  refine ⟨v, v1, ?_⟩
  unfold f11_unresolved
  rw [ok_change hR h, x1_inl, v1, o1_some]
theorem ak_group (hR : Rn n gh C R) {m : Nat} (h : m < gh.1 0) (ho : R 13 m = nI 0) : ∃ x, f11_group gh C (nI m) = some (.inl x) ∧ isG n (gh.1 0) R m x := by
  obtain ⟨x, x1, x2⟩ := hR.groupC h
  obtain ⟨-, -, -, ⟨s, -, e1, e2⟩, -⟩ := hR.chg m h
  refine ⟨x, ?_, x2⟩
  unfold f11_group
  rw [ok_change hR h, x1_inl, if_pos (is1 h hR.ch20), e1, ← e2, ho, if_neg (fun z => z rfl), x1, o1_some]
end
