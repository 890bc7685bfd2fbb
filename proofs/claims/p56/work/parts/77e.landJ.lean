/-! LANDING: the act, and what holds after it -/
section
variable {n n' : Nat} {gh gh' : rC_gh} {C C' R R' M M' A A' : rv_Mem}
theorem bs_pos {x : Int32} {s : Nat} (hs : s < 20) (h : bt x s = true) : 1 ≤ bs x 20 := by
  rw [bs_cn]
  exact cn_pos (p := bt x) (k := 0) (d := 20) (j := s) (Nat.zero_le _) (by omega) h
theorem t_lands (hR : Rn n gh C R) {p h : Nat} (hp : p < 6) (hh : h < gh.1 0) (a b0 c : Int32) :
    (∃ v C', gp_act gh C A 20 (nI p) (nI h) a b0 c = some (v, gh, C') ∧ Rn n gh C' R ∧ v ≤ 0 ∧ (v = 0 ∨ v = -1 ∨ v = -1263)) ∨ ∃ n' g C' R', gp_act gh C A 20 (nI p) (nI h) a b0 c = some (nI (bs g 20), gh, C') ∧ R 13 h = nI 0 ∧ isG n (gh.1 0) R h g ∧ Rn n' gh C' R' ∧ ldF n n' gh C R g C' R' := by
  have hc := hR.ch20
  have eC : f11_land gh C (nI p) (nI h) = rv_x2 (f11_needOpenAndSeen gh C (nI p) (100 + h)) C (fun r10 => rv_o1 (f5_groupOf gh C (nI h)) (fun r14 => f11_land_25 gh rv_FU C (nI p) r14 0)) := by
    unfold f11_land
    rw [ok_person hp, x2_inl, ok_change hR hh, x2_inl]
  rcases hR.shut hh hp with ⟨z1, z2, z3⟩ | ⟨z1, z2⟩
  · rw [z1, x2_inl] at eC
    obtain ⟨g, g1, g2⟩ := hR.groupC hh
    rw [g1, o1_some] at eC
    obtain ⟨b, M', l1, l2, l3, l4⟩ := hR.landable g (nI p)
    cases b with
    | false =>
      left
      exact ⟨0, C, by rw [ga_20, eC, l3 rfl, x3k], hR, by decide, Or.inl rfl⟩
    | true =>
      rw [l4 rfl] at eC
      rcases landRunX hR hh g2 z3 (nI p) with ⟨M', t1, t2⟩ | ⟨n', M', C', S', t1, t2, t3, t4⟩
      · left
        exact ⟨-1, M', by rw [ga_20, eC, t1, o2_some, if_pos rfl, x3k], t2, by decide, Or.inr (Or.inl rfl)⟩
      · right
        exact ⟨n', g, C', S', by rw [ga_20, eC, t1, o2_some, if_neg (by simp), t2, x3k], z3, g2, t3, t4⟩
  · left
    rw [z1] at eC
    exact ⟨-1263, C, by rw [ga_20, eC, x2_inr, x3e, hh3], hR, by decide, Or.inr (Or.inr rfl)⟩
theorem ld_new {g : Int32} (hR : Rn n gh C R) (hR' : Rn n' gh C' R') (D : ldF n n' gh C R g C' R') : ∀ c, n ≤ c → c < n' → R' 5 c = NO := fun c h1 h2 => by
  obtain ⟨-, -, d3, -, -, -, d7, -⟩ := D
  rcases hR'.own c h2 with ⟨-, z⟩ | ⟨h, s, p, a1, a2, a3, a4, a5, a6, a7, -⟩
  · exact z
  · exfalso
    obtain ⟨k, k1, k2, k3, k4, k5, k6⟩ := hR'.set.1 h a1
    obtain ⟨k', m1, m2, m3, m4, m5, m6⟩ := hR.set.1 h a1
    have hk : k' = k := by
      have e := k4
      rw [d3 14 (by omega), m4, q_eq (by omega) (by omega)] at e; exact e
    subst hk
    rw [k4, q_nc (by omega)] at a6
    obtain ⟨c', y1, y2, y3, -⟩ := m6 s a6
    rw [d7 h, y3, q_eq (by have := hR.n80; omega) (by have := hR'.n80; omega)] at a7
    omega
theorem JI_land {g : Int32} (hR : Rn n gh C R) (hR' : Rn n' gh C' R') (J : JI n gh R A) (h0 : 0 < gh.1 0) (D : ldF n n' gh C R g C' R') : JI n' gh R' A := by
  have hN := ld_new hR hR' D
  obtain ⟨d1, d2, d3, d4, d5, d6, d7, d8, d9, L, d10, -, -, -⟩ := D
  have hn := hR.n80
  have hn' := hR'.n80
  have hc := hR.ch20
  have hn2 := hR.cnt.1.1
  have o5 : ∀ c, c < n → R' 5 c = R 5 c := fun c hc => d2 5 c (by omega) hc
  have k := fun q (hq : q = 6 ∨ (10 ≤ q ∧ q ≤ 52 ∧ q ≠ 13 ∧ q ≠ 18 ∧ q ≠ 20 ∧ q ≠ 21 ∧ q ≠ 51)) => d3 q hq
  have hcur : ∀ j, j < gh.1 0 → curS n' R' j = curS n R j ∧ ∀ c, C 23 j = nI c → curS n R j = nI c ∧ (c < n → R 5 c = nI j) := fun j hj => by
    obtain ⟨k1, c1, -, -, -, -, a1, a2, a3, a4, -, -, a7, -⟩ := hR.cur hj
    obtain ⟨k2, c2, -, -, -, -, b1, b2, b3, b4, -, -, b7, -⟩ := hR'.cur hj
    rw [d8] at b3
    refine ⟨by rw [b7, a7, ← a3, ← b3], fun c hc' => ⟨by rw [a7, ← a3, hc'], fun hcn => ?_⟩⟩
    have e : c1 = c := by rw [a3, q_eq (by omega) (by omega)] at hc'; exact hc'
    rw [← e]; exact a4
  have hrv : ∀ h, h < gh.1 0 → rvS R' h = rvS R h := fun h hh => by
    rw [← rvS_eq hR hh, ← rvS_eq hR' hh, d6 h hh]
  have hfl : ∀ h, flN R' h = flN R h := fun h => by unfold flN; rw [k 15 (by omega), k 16 (by omega)]
  have henc : ∀ j, enc R' j = enc R j := fun j => by
    unfold enc
    rw [k 26 (by omega), k 27 (by omega), k 28 (by omega), k 29 (by omega), k 30 (by omega)]
  have cases13 : ∀ h, h < gh.1 0 → (bt g h = true ∧ R' 13 h = nI 1 ∧ R' 20 h = 0) ∨ (bt g h = false ∧ R' 13 h = R 13 h ∧ R' 20 h = R 20 h ∧ R' 18 h = R 18 h) := fun h hh => by
    cases hb : bt g h with
    | true => exact Or.inl ⟨rfl, d4 h hh hb⟩
    | false => exact Or.inr ⟨rfl, d5 h (fun _ => hb)⟩
  refine ⟨⟨?_, ?_⟩, by rw [k 45 (by omega)]; exact J.r45, by rw [k 46 (by omega)]; exact J.r46, by rw [k 47 (by omega)]; exact J.r47, by rw [k 48 (by omega)]; exact J.r48, by rw [k 49 (by omega)]; exact J.r49, J.ch8, fun r j hr hj z => ?_, fun h hh z1 z2 => ?_, fun c c' h s s' hc1 hc2 hh hs hs' x1 x2 x3 x4 hlt => ?_, fun h hh i hi hb => ?_, fun h hh => ?_, fun h hh => ?_, fun h hh => ?_, fun h hh => ?_, J.cN, J.pA, fun j hj => ?_, fun z => by omega⟩
  · rw [d2 1 0 (by omega) (by omega)]; exact J.j1.1
  · rw [d2 1 1 (by omega) (by omega)]; exact J.j1.2
  · obtain ⟨t, t0, e1, e2, e3, e4⟩ := d10 r hr
    rw [e1, q_nc (by omega)] at z
    cases hL : L r with
    | zero =>
      rw [hL] at e4
      have e5 : t = t0 := e4
      subst e5
      obtain ⟨⟨u, u1, -, u3, -⟩, -⟩ := hR.tip r hr
      have hu : u = t := by rw [u3, q_eq (by omega) (by omega)] at e2; exact e2
      subst hu
      rw [o5 u u1] at z
      obtain ⟨y1, y2⟩ := J.tips r j hr hj (by rw [e2, q_nc (by omega)]; exact z)
      refine ⟨?_, by rw [e1, ← e2, y2, (hcur j hj).1]⟩
      rcases cases13 j hj with ⟨-, w, -⟩ | ⟨-, w, -⟩
      · exact w
      · rw [w]; exact y1
    | succ m =>
      rw [hL] at e4
      obtain ⟨⟨f1, j', f2, f3, f4, f5⟩, -⟩ := e4
      by_cases w : n ≤ t
      · rw [hN t w e3, q_no_eq' (by omega)] at z; exact z.elim
      · rcases f5 with f5 | f5
        · exact absurd f5 w
        · obtain ⟨y1, y2⟩ := (hcur j' f2).2 t f5
          rw [o5 t (by omega), y2 (by omega), q_eq (by omega) (by omega)] at z
          subst z
          exact ⟨(d4 j' f2 f3).1, by rw [e1, (hcur j' f2).1, y1]⟩
  · obtain ⟨-, -, ⟨_, -, -, -, a5⟩, -⟩ := hR'.chg h hh
    obtain ⟨c, c1, -, c3, -⟩ := a5 z1
    rw [c3, q_nc (by omega)] at z2
    rcases cases13 h hh with ⟨w, -⟩ | ⟨w, w1, -, w3⟩
    · obtain ⟨c', f0, f1, f2⟩ := d9 h hh w
      have e : c = c' := by rw [c3, q_eq (by omega) (by omega)] at f1; exact f1
      subst e
      by_cases y : n ≤ c
      · rw [hN c y c1, q_no_eq' (by omega)] at z2; exact z2.elim
      · rcases f2 with f2 | f2
        · exact absurd f2 y
        · rw [f1, (hcur h hh).1, ((hcur h hh).2 c f2).1]
    · rw [w1] at z1
      obtain ⟨-, -, ⟨_, -, -, -, a5'⟩, -⟩ := hR.chg h hh
      obtain ⟨c', c1', -, c3', -⟩ := a5' z1
      have e : c' = c := by rw [w3, c3', q_eq (by omega) (by omega)] at c3; exact c3
      subst e
      rw [o5 c' c1'] at z2
      rw [w3, (hcur h hh).1]
      exact J.lw h hh z1 (by rw [c3', q_nc (by omega)]; exact z2)
  · by_cases e : n ≤ c
    · rw [hN c e hc1, q_no_eq' (by omega)] at x1; exact x1.elim
    · by_cases e' : n ≤ c'
      · rw [hN c' e' hc2, q_no_eq' (by omega)] at x2; exact x2.elim
      · rw [o5 c (by omega)] at x1
        rw [o5 c' (by omega)] at x2
        rw [k 6 (by omega)] at x3 x4
        exact J.mono c c' h s s' (by omega) (by omega) hh hs hs' x1 x2 x3 x4 hlt
  · rcases cases13 h hh with ⟨-, -, w⟩ | ⟨-, -, w, -⟩
    · rw [w, b_0] at hb; cases hb
    · rw [w] at hb
      rw [k 12 (by omega), hrv h hh]
      exact J.turnA h hh i hi hb
  · rcases cases13 h hh with ⟨-, -, w⟩ | ⟨-, w1, w, -⟩
    · exact Or.inl w
    · rw [w, w1, k 15 (by omega)]; exact J.turnB h hh
  · rw [k 12 (by omega)]; exact J.cA0 h hh
  · rw [hfl]; exact J.cA1 h hh
  · rw [k 17 (by omega)]; exact J.cA2 h hh
  · rw [henc]; exact J.qA j hj
end
