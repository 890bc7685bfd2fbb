/-! THE LAW: changes are opened, uploaded to, rebased -/
section
variable {n n' : Nat} {gh gh' : rC_gh} {C C' R R' M M' A A' : rv_Mem} {Ls : Nat} {xs : Nat → Int32} {k69 : rC_gh → rv_Mem → rv_Mem → Bool → Int32 → Option (Bool × rC_gh × rv_Mem × rv_Mem)}
theorem lw_477 (hR : Rn n gh C R) (J : JI n gh R A) {k X V p m s f D d : Nat} (hk : k < 90) (hX : X < 2147483648) (hV : V < 2147483648) (hn46 : n < 46) (hp : p < 6) (hm : gh.1 0 ≠ 0 → m < gh.1 0) (hm0 : gh.1 0 = 0 → m = 0) (hs : s < 2147483648) (hf : f < 4) (hd : R 52 0 = nI d) (hD : d ≤ D) (x9 : Int32) (h8 : gh.1 0 ≠ 8) : stO k69 k D (gp_law_477 Ls xs k69 gh C A (nI k) (nI X) (nI V) x9 (nI p) (nI m) (nI s) (nI f)) := by
  have c8 := J.ch8
  have hc := hR.ch20
  obtain ⟨C2, R2, x1, x2, x3, x4, x5, x6, x7, x8, x9', x10⟩ := t_open hR J hp (by omega) (by omega) (rv_u A 0 (4 * gh.1 0) (nI p)) 0 0 0 0
  have hgh : (rC_gi gh 0 0).1 0 = gh.1 0 + 1 := rfl
  have hn2 := x2.n80
  obtain ⟨kk, c, b, -, -, y1, y2, y3, -, -, -, y4, -, -, -, y5⟩ := ak_now (A := rv_u A 0 (4 * gh.1 0) (nI p)) x2 (m := gh.1 0) (by omega)
  have e0 : (1 : Nat) - 1 = 0 := rfl
  have hcn : c = n := by
    have e : curS (n + 1) R2 (gh.1 0) = nI n := by
      unfold curS
      rw [x4, q_1, q_sub (by omega), e0]
      exact mAt_eq x8 x9'
    rw [e, q_eq (by omega) (by omega)] at y4
    exact y4.symm
  subst hcn
  have i4 : (4 : Int32) * nI (gh.1 0) = nI (4 * gh.1 0) := by rw [q_4, q_mul]
  have r4 : rv_in (nI (4 * gh.1 0)) (lk_n 0) = true := q_inb (show 4 * gh.1 0 < 32 by omega) (by omega)
  unfold gp_law_477 gp_law_567
  rw [show f11_changes gh C = some (nI (gh.1 0)) from rfl, o1_some, if_pos (show nI (gh.1 0) < 8 by rw [q_8, q_lt (by omega) (by omega)]; omega), o1_some, i4, if_pos r4, q_nc (by omega), lt_do, x1, o3k, if_pos rfl, ak_sets x2 (m := gh.1 0) (by omega), x1k, x4, if_pos (show nI 1 = 1 from rfl), y5, o2_some, ak_before x2 (Or.inl ⟨y3, rfl⟩), x1k, ak_before x2 (x := -1) (c := 80) (Or.inr ⟨rfl, rfl⟩), x1k, if_pos x5, ak_turn x2 (m := gh.1 0) (by omega), x1k, x6, if_pos rfl, ak_rev x2 (m := gh.1 0) (by omega), x1k, x7, if_pos rfl]
  exact lw_end x2 x3 hk hX hV (fun _ => by
    rw [hgh]
    by_cases z : gh.1 0 = 0
    · have := hm0 z; omega
    · have := hm z; omega) hs hf (by rw [x10]; exact hd) hD
theorem lw_upload (hR : Rn n gh C R) (J : JI n gh R A) {k X V p m s f D d : Nat} (hk : k < 90) (hX : X < 2147483648) (hV : V < 2147483648) (hp : p < 6) (hm : m < gh.1 0) (hs : s < 2147483648) (hf : f < 4) (hd : R 52 0 = nI d) (hD : d ≤ D) (x9 : Int32) (h9 : x9 < 16) : stO k69 k D (gp_law_572 Ls xs k69 gh C A (nI k) (nI X) (nI V) x9 (nI p) (nI m) (nI s) (nI f)) := by
  have hc := hR.ch20
  have hn := hR.n80
  obtain ⟨kk, k1, k2, -, k4, -⟩ := hR.sets hm
  unfold gp_law_572 gp_law_697
  rw [show f11_changes gh C = some (nI (gh.1 0)) from rfl, o1_some, if_neg (show ¬ nI (gh.1 0) = 0 by rw [q_0, q_eq (by omega) (by omega)]; omega), if_pos h9, ak_sets hR hm, x1k]
  rcases t_upload hR J hp hm 0 0 0 with x1 | ⟨k', C2, R2, x1, x2, x3, x4, x5, ⟨b, b1, b2, b3, b4⟩, x6, F⟩
  · rw [x1, o3k, if_pos rfl, ak_sets hR hm, x1k, if_pos rfl]
    exact lw_end hR J hk hX hV (fun _ => hm) hs hf hd hD
  · obtain ⟨f1, f2, f3, -, f5, -, f7⟩ := F
    have hn2 := x3.n80
    obtain ⟨kk2, c, b', -, -, y1, y2, y3, -, -, -, y4, -, -, -, y5⟩ := ak_now (A := A) x3 hm
    have hcn : c = n := by
      have e : curS (n + 1) R2 m = nI n := by
        unfold curS
        rw [f5, q_1, q_sub (by omega), Nat.add_sub_cancel]
        exact mAt_eq f2 f3
      rw [e, q_eq (by omega) (by omega)] at y4
      exact y4.symm
    subst hcn
    have hb : bt (R2 20 m) p = false := by
      cases z : bt (R2 20 m) p with
      | false => rfl
      | true => exact absurd rfl (f7 p (by omega) z).1
    rw [x1, o3k, if_neg (show ¬ nI k' = -1263 from fun z => by
      have : nI k' < 0 := by rw [z]; decide
      rw [q_0, q_lt (by omega) (by omega)] at this; omega), x4, if_pos rfl, y5, o2_some, ak_before x3 (Or.inl ⟨y3, rfl⟩), x1k, ak_before x3 (x := -1) (c := 80) (Or.inr ⟨rfl, rfl⟩), x1k, if_pos (by rw [b3, b4 80 (by omega), b2]), ak_turn x3 hm, x1k, if_pos (by rw [b_test0 (by omega)]; exact hb)]
    exact lw_end x3 x6 hk hX hV (fun _ => hm) hs hf (by rw [f1 52 (by omega) (by omega) (by omega) (by omega) (by omega) (by omega)]; exact hd) hD
theorem lw_rebase (hR : Rn n gh C R) (J : JI n gh R A) {k X V p m s f D d : Nat} (hk : k < 90) (hX : X < 2147483648) (hV : V < 2147483648) (hp : p < 6) (hm : m < gh.1 0) (hs : s < 2147483648) (hf : f < 4) (hd : R 52 0 = nI d) (hD : d ≤ D) (x9 : Int32) (h9 : ¬ x9 < 16) (h9' : x9 < 18) : stO k69 k D (gp_law_572 Ls xs k69 gh C A (nI k) (nI X) (nI V) x9 (nI p) (nI m) (nI s) (nI f)) := by
  have hc := hR.ch20
  have hn := hR.n80
  obtain ⟨kk, c, b0, k1, k2, k3, c2, c1, -, -, -, c7, -, -, -, c8⟩ := ak_now (A := A) hR hm
  unfold gp_law_572 gp_law_810
  rw [show f11_changes gh C = some (nI (gh.1 0)) from rfl, o1_some, if_neg (show ¬ nI (gh.1 0) = 0 by rw [q_0, q_eq (by omega) (by omega)]; omega), if_neg h9, if_pos h9', ak_sets hR hm, x1k, c8, o2_some, ak_before hR (Or.inl ⟨c1, rfl⟩), x1k]
  rcases t_rebase hR J hp hm 0 0 0 with ⟨C', x1, x2⟩ | ⟨k', C2, R2, b, x1, x2, x3, x4, x5, x6, x7, x8, x9', x10, x11, x12, x13⟩
  · rw [x1, o3k, if_pos rfl, ak_sets x2 hm, x1k, if_pos rfl]
    exact lw_end x2 J hk hX hV (fun _ => hm) hs hf hd hD
  · have hn2 := x3.n80
    obtain ⟨kk2, c', b', -, -, y1, y2, y3, -, -, -, y4, -, -, -, y5⟩ := ak_now (A := A) x3 hm
    have hcn : c' = n := by
      rw [x8, q_eq (by omega) (by omega)] at y4
      exact y4.symm
    subst hcn
    have hne : ¬ R2 2 c' = R 2 c := by
      rw [x10]
      rw [c7, q_nc (by omega)] at x11
      exact fun z => x11 z.symm
    have hpar : ∃ v, f11_parentOf gh C2 (nI m) = some (.inl v) ∧ v - v / 10 * 10 ≤ 0 := by
      rcases ak_parent x3 hm with ⟨-, e⟩ | ⟨g, w, g1, g2, e, g3⟩
      · exact ⟨_, e, by decide⟩
      · have hw : w = false := g3.mpr (by rw [x12 g g1 g2, x8, q_nc (by omega), x10])
        subst hw
        refine ⟨_, e, ?_⟩
        rw [if_neg (by simp), q_rem (L := 10) (d := 10) rfl (by omega) (by omega) (by omega), show (10 * g + 0) % 10 = 0 by omega]
        decide
    obtain ⟨v, v1, v2⟩ := hpar
    rw [x1, o3k, if_neg (show ¬ nI k' = -1263 from fun z => by
      have : nI k' < 0 := by rw [z]; decide
      rw [q_0, q_lt (by omega) (by omega)] at this; omega), x5, if_pos rfl, y5, o2_some, ak_before x3 (Or.inl ⟨y3, rfl⟩), x1k, if_pos hne, v1, x1k, if_pos v2]
    exact lw_end x3 x4 hk hX hV (fun _ => hm) hs hf (by rw [x13]; exact hd) hD
end
