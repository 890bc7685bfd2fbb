/-! ABANDONING, FLAGS -/
theorem o1_inv {α γ : Type} {x : Option α} {k : α → Option γ} {r : γ} (h : rv_o1 x k = some r) : ∃ v, x = some v ∧ k v = some r := by
  cases x with
  | none => cases h
  | some v => exact ⟨v, rfl, h⟩
theorem o2_inv {α β γ : Type} {x : Option (α × β)} {k : α → β → Option γ} {r : γ} (h : rv_o2 x k = some r) : ∃ v w, x = some (v, w) ∧ k v w = some r := by
  cases x with
  | none => cases h
  | some v => obtain ⟨a, b⟩ := v; exact ⟨a, b, rfl, h⟩
theorem fr_tells_53 : ∀ (fuel : Nat) (M : rv_Mem) (x1 x2 x3 x4 : Int32) (M' : rv_Mem), f12_tells_53 fuel M x1 x2 x3 x4 = some M' → ∀ q, q ≠ 51 → q ≠ 21 → M' q = M q
  | 0, _, _, _, _, _, _, h => by cases h
  | fuel + 1, M, x1, x2, x3, x4, M', h => by
    intro q h51 h21
    have h : f12_tells_53_s (f12_tells_53 fuel) M x1 x2 x3 x4 = some M' := h
    have st : ∀ s1 s2 b, f12_tells_89 (f12_tells_53 fuel) M x1 x2 x3 x4 s1 s2 b = some M' → M' q = M q := fun s1 s2 b h => by
      unfold f12_tells_89 at h
      split at h
      · have h : f12_tells_53 fuel (rv_u M 51 s1.toNatClampNeg (s2 + rv_i b)) x1 x2 x3 (x4 + 1) = some M' := h
        rw [fr_tells_53 fuel _ _ _ _ _ _ h q h51 h21, mu_ne h51]
      · cases h
    unfold f12_tells_53_s f12_tells_88 at h
    split at h
    · split at h
      · split at h
        · split at h
          · exact st _ _ _ h
          · exact st _ _ _ h
        · exact st _ _ _ h
      · cases h
    · split at h
      · have h : some (rv_u M 21 x1.toNatClampNeg (M 52 0)) = some M' := h
        injection h with h
        rw [← h, mu_ne h21]
      · cases h
theorem fr_tells {M M' : rv_Mem} {a b : Int32} (h : f12_tells M a b = some M') : ∀ q, q ≠ 51 → q ≠ 21 → M' q = M q := by
  have e48 : ∀ s0 s1, f12_tells_48 M a b s0 s1 = some M' → ∀ q, q ≠ 51 → q ≠ 21 → M' q = M q := fun s0 s1 h => fr_tells_53 _ _ _ _ _ _ _ h
  unfold f12_tells f12_tells_34 at h
  obtain ⟨r2, -, h⟩ := o1_inv h
  repeat' split at h
  all_goals first
    | exact e48 _ _ h
    | (obtain ⟨r4, -, h⟩ := o1_inv h
       split at h
       · exact e48 _ _ h
       · cases h)
    | cases h
section
variable {n n' : Nat} {gh gh' : rC_gh} {C C' R R' A A' : rv_Mem}
theorem fr_abandons {g : Nat} (hg : g < 20) {who : Int32} (h : f12_abandons R (nI g) who = some R') : (∀ q, q ≠ 13 → q ≠ 20 → q ≠ 51 → q ≠ 21 → R' q = R q) ∧ R' 13 = rv_u R 13 g 2 13 ∧ R' 20 g = 0 ∧ ∀ x, x ≠ g → R' 20 x = R 20 x := by
  unfold f12_abandons at h
  rw [if_pos (q_inb hg (by omega)), lt_do, if_pos (q_inb hg (by omega)), lt_do, q_nc (by omega)] at h
  obtain ⟨M, h1, h2⟩ := o1_inv h
  injection h2 with h2
  subst h2
  have f := fr_tells h1
  refine ⟨fun q a b c d => by rw [f q c d, mu_ne b, mu_ne a], by rw [f 13 (by omega) (by omega), mu_ne (by omega)], by rw [f 20 (by omega) (by omega), mu_same], fun x hx => by rw [f 20 (by omega) (by omega), mu_ne2 hx, mu_ne (by omega)]⟩
theorem JI_abandon (hR : Rn n gh C R) (hR' : Rn n gh C' R') (J : JI n gh R A) {m : Nat} (hm : m < gh.1 0) (ho : R 13 m = nI 0) (h : (∀ q, q ≠ 13 → q ≠ 20 → q ≠ 51 → q ≠ 21 → R' q = R q) ∧ R' 13 = rv_u R 13 m 2 13 ∧ R' 20 m = 0 ∧ ∀ x, x ≠ m → R' 20 x = R 20 x) : JI n gh R' A := by
  obtain ⟨hk, h13, h20, h20o⟩ := h
  have h13m : R' 13 m = 2 := by rw [h13, mu_same]
  have h13o : ∀ g, g ≠ m → R' 13 g = R 13 g := fun g hg => by rw [h13, mu_ne2 hg]
  have n1 : ¬ (2 : Int32) = nI 1 := by decide
  have n2 : ¬ nI 0 = nI 1 := by decide
  refine JI_new J (fun q hq => hk q (by omega) (by omega) (by omega) (by omega)) (fun g _ z => ?_) (fun g _ z => ?_) (fun x hx i hi z => ?_) (fun x hx => ?_) (fun _ _ => rfl) (fun x hx => ?_) (fun x hx => ?_) J.cN (fun _ _ => rfl)
  · by_cases y : g = m
    · subst y; rw [ho] at z; exact absurd z n2
    · rw [h13o g y]; exact z
  · by_cases y : g = m
    · subst y; rw [h13m] at z; exact absurd z n1
    · rw [h13o g y] at z
      exact ⟨z, by rw [hk 18 (by omega) (by omega) (by omega) (by omega)]⟩
  · by_cases y : x = m
    · subst y; rw [h20, b_0] at z; cases z
    · rw [h20o x y] at z
      rw [hk 12 (by omega) (by omega) (by omega) (by omega), rvS_keys hR hR' (fun q hq => hk q (by omega) (by omega) (by omega) (by omega)) hx]
      exact J.turnA x hx i hi z
  · by_cases y : x = m
    · subst y; exact Or.inl h20
    · rw [h20o x y, h13o x y, hk 15 (by omega) (by omega) (by omega) (by omega)]; exact J.turnB x hx
  · rw [J.cA1 x hx]; unfold flN; rw [hk 15 (by omega) (by omega) (by omega) (by omega), hk 16 (by omega) (by omega) (by omega) (by omega)]
  · rw [J.cA2 x hx, hk 17 (by omega) (by omega) (by omega) (by omega)]
theorem chS_bd (n : Nat) (R : rv_Mem) (g N : Nat) : up (chS n R g) N 0 0 ≤ N := by
  have P := up_inv (g := chS n R g) (fun k a => a ≤ k) N 0 0 (Nat.le_refl _) (fun j a _ _ ha => by
    unfold chS
    split <;> omega)
  rw [Nat.zero_add] at P
  exact P
theorem t_abandon (hR : Rn n gh C R) (J : JI n gh R A) {m p : Nat} (hm : m < gh.1 0) (hp : p < 6) (b c d : Int32) : (gp_act gh C A 7 (nI p) (nI m) b c d = some (-1263, gh, C)) ∨ ∃ v C' R', gp_act gh C A 7 (nI p) (nI m) b c d = some (nI v, gh, C') ∧ v ≤ 20 ∧ Rn n gh C' R' ∧ JI n gh R' A ∧ R' 52 = R 52 ∧ R' 13 m = nI 2 ∧ R' 20 m = 0 := by
  have hc := hR.ch20
  rcases hR.shut hm hp with ⟨s1, -, s3⟩ | ⟨s1, -⟩
  · right
    obtain ⟨C', R', c1, r1, hR', -, -⟩ := Rn_abandon hR hm s3 (nI p)
    obtain ⟨k1, -⟩ := hR'.children hm
    have fr := fr_abandons (by omega) r1
    refine ⟨_, C', R', ?_, Nat.le_trans (chS_bd n R' m (gh.1 0)) hc, hR', JI_abandon hR hR' J hm s3 fr, fr.1 52 (by omega) (by omega) (by omega) (by omega), by rw [fr.2.1, mu_same]; rfl, fr.2.2.1⟩
    rw [ga_7]; unfold f11_abandon
    rw [ok_person hp, x2_inl, ok_change hR hm, x2_inl, s1, x2_inl, c1, o1_some]
    have k1 : f11_abandon_28 gh rv_FU C' (nI m) 0 0 = some (.inl (nI (up (chS n R' m) (gh.1 0) 0 0), C')) := k1
    rw [k1, x3k]
  · left
    rw [ga_7]; unfold f11_abandon
    rw [ok_person hp, x2_inl, ok_change hR hm, x2_inl, s1, x2_inr, x3e, hh3]
theorem flN_num (R : rv_Mem) (m : Nat) : rv_i (rv_z (R 15 m)) + (if rv_z (R 16 m) = true then 2 else 0) = nI (flN R m) := by
  unfold flN
  cases rv_z (R 15 m) <;> cases rv_z (R 16 m) <;> rfl
theorem ga_9f (gh : rC_gh) (C A : rv_Mem) (x : Int32) {t : Nat} (ht : t < 4) : gp_act gh C A 9 x (nI (t % 2)) (nI (t / 2)) 0 0 = lk_x3 (f11_setFlags gh C x (decide (t % 2 = 1)) (decide (t / 2 = 1))) (fun r2 M5 => (some (r2, gh, M5))) (fun w3 M6 => lk_hh w3 (some ((-1261), gh, M6)) (some ((-1262), gh, M6)) (some ((-1263), gh, M6))) := by
  rw [ga_9]
  rcases (show t = 0 ∨ t = 1 ∨ t = 2 ∨ t = 3 by omega) with rfl | rfl | rfl | rfl <;> rfl
theorem t_flags0 (hR : Rn n gh C R) {m t : Nat} (hm : m < gh.1 0) (ht : t < 4) (ho : ¬ R 13 m = nI 0) (A0 : rv_Mem) : gp_act gh C A0 9 (nI m) (nI (t % 2)) (nI (t / 2)) 0 0 = some (-1263, gh, C) := by
  obtain ⟨-, -, -, ⟨s, s1, s2, s3⟩, -⟩ := hR.chg m hm
  rw [ga_9f gh C A0 _ ht]; unfold f11_setFlags
  rw [ok_change hR hm, x2_inl, if_pos (is1 hm hR.ch20), s2, ← s3, if_pos (show ¬ R 13 m = 0 from ho), x3e, hh3]
theorem t_flags (hR : Rn n gh C R) (J : JI n gh R A) {m t : Nat} (hm : m < gh.1 0) (ht : t < 4) (ho : R 13 m = nI 0) (A0 : rv_Mem) : ∃ C' R', gp_act gh C A0 9 (nI m) (nI (t % 2)) (nI (t / 2)) 0 0 = some (nI (flN R m), gh, C') ∧ Rn n gh C' R' ∧ JI n gh R' (rv_u A 0 (4 * m + 1) (nI t)) ∧ R' 52 = R 52 := by
  have hc := hR.ch20
  have hg20 : m < 20 := by omega
  generalize hp2 : decide (t % 2 = 1) = p2
  generalize hp3 : decide (t / 2 = 1) = p3
  have href : f12_setFlags R (nI m) p2 p3 = some (nI (flN R m), rv_u (rv_u (rv_u (rv_u (rv_u R 66 0 0) 20 m (if p2 = true then 0 else R 20 m)) 15 m (rv_i p2)) 16 m (rv_i p3)) 20 m (gvT 0 (rv_i p2) (if p2 = true then 0 else R 20 m) (if rv_z (R 15 m) = true ∧ p2 = false then C (100 + m) 9 else 0))) := by
    rw [← flN_num]
    unfold f12_setFlags f12_setFlags_27 f12_goes f12_setFlags_49 f12_setFlags_63 f12_setFlags_83 f12_setFlags_84 f12_setFlags_105 f12_setFlags_136
    rw [r12_change hR hm]
    have hin : rv_in (nI m) 20 = true := q_inb hg20 (by omega)
    have hs : R 13 m = 0 := ho
    have hrv : ∀ t : Int32, f12_reviewersOf (rv_u (rv_u (rv_u (rv_u R 66 0 0) 20 m t) 15 m (rv_i p2)) 16 m (rv_i p3)) (nI m) = some (C (100 + m) 9) := fun t => hR.rvM (fun k hk => by rw [mu_ne (by omega), mu_ne (by omega), mu_ne (by omega), mu_ne (by omega)]) hm
    have hgv : ∀ t x : Int32, f12_givesTurns (rv_u (rv_u (rv_u (rv_u R 66 0 0) 20 m t) 15 m (rv_i p2)) 16 m (rv_i p3)) (nI m) x = some (rv_u (rv_u (rv_u (rv_u (rv_u R 66 0 0) 20 m t) 15 m (rv_i p2)) 16 m (rv_i p3)) 20 m (gvT 0 (rv_i p2) t x)) := fun t x => by
      rw [s12_givesTurns hg20]
      rw [mu_ne (show 13 ≠ 16 by omega), mu_ne (show 13 ≠ 15 by omega), mu_ne (show 13 ≠ 20 by omega), mu_ne (show 13 ≠ 66 by omega), mu_ne (show 15 ≠ 16 by omega), mu_same, mu_ne (show 20 ≠ 16 by omega), mu_ne (show 20 ≠ 15 by omega), mu_same, hs]
    have k15 : rv_u R 66 0 0 15 = R 15 := mu_ne (by omega)
    have k16 : rv_u R 66 0 0 16 = R 16 := mu_ne (by omega)
    have k20 : rv_u R 66 0 0 20 = R 20 := mu_ne (by omega)
    simp only [o1_some, bt_f, if_false, hin, if_true, q_nc (show m < 2147483648 by omega), hs, lt_do, o2_some, k15, k16, k20]
    cases h6 : rv_z (R 15 m) <;> cases h7 : rv_z (R 16 m) <;> cases h2 : p2 <;> subst h2 <;> simp only [bt_f, bf_t, if_true, if_false, hrv, hgv, o1_some, false_and, and_false, and_true, true_and]
  generalize hE : rv_u (rv_u (rv_u (rv_u (rv_u R 66 0 0) 20 m (if p2 = true then 0 else R 20 m)) 15 m (rv_i p2)) 16 m (rv_i p3)) 20 m (gvT 0 (rv_i p2) (if p2 = true then 0 else R 20 m) (if rv_z (R 15 m) = true ∧ p2 = false then C (100 + m) 9 else 0)) = E at href
  have hk : ∀ j, j ≠ 15 → j ≠ 16 → j ≠ 20 → j ≠ 66 → E j = R j := fun j h1 h2 h3 h4 => by rw [← hE, mu_ne h3, mu_ne h2, mu_ne h1, mu_ne h3, mu_ne h4]
  have h15 : E 15 m = rv_i p2 := by rw [← hE, mu_ne (by omega), mu_ne (by omega), mu_same]
  have h16 : E 16 m = rv_i p3 := by rw [← hE, mu_ne (by omega), mu_same]
  have h15o : ∀ x, x ≠ m → E 15 x = R 15 x := fun x hx => by rw [← hE, mu_ne (by omega), mu_ne (by omega), mu_ne2 hx, mu_ne (by omega), mu_ne (by omega)]
  have h16o : ∀ x, x ≠ m → E 16 x = R 16 x := fun x hx => by rw [← hE, mu_ne (by omega), mu_ne2 hx, mu_ne (by omega), mu_ne (by omega), mu_ne (by omega)]
  have h20o : ∀ x, x ≠ m → E 20 x = R 20 x := fun x hx => by rw [← hE, mu_ne2 hx, mu_ne (by omega), mu_ne (by omega), mu_ne2 hx, mu_ne (by omega)]
  have h20 : E 20 m = gvT 0 (rv_i p2) (if p2 = true then 0 else R 20 m) (if rv_z (R 15 m) = true ∧ p2 = false then C (100 + m) 9 else 0) := by rw [← hE, mu_same]
  have hft : flN E m = t := by
    unfold flN
    rw [h15, h16, rvz_i, rvz_i, ← hp2, ← hp3]
    rcases (show t = 0 ∨ t = 1 ∨ t = 2 ∨ t = 3 by omega) with rfl | rfl | rfl | rfl <;> rfl
  have key : ∀ C', f11_setFlags gh C (nI m) p2 p3 = some (.inl (nI (flN R m), C')) → Rel gh C' E → ∃ C' R', gp_act gh C A0 9 (nI m) (nI (t % 2)) (nI (t / 2)) 0 0 = some (nI (flN R m), gh, C') ∧ Rn n gh C' R' ∧ JI n gh R' (rv_u A 0 (4 * m + 1) (nI t)) ∧ R' 52 = R 52 := fun C' e1 ⟨n', h3⟩ => by
    have en := Rn_n hR h3 (by rw [hk 0 (by omega) (by omega) (by omega) (by omega)])
    subst en
    have hrv : ∀ x, x < gh.1 0 → rvS E x = rvS R x := fun x hx => rvS_keys hR h3 (fun q hq => hk q (by omega) (by omega) (by omega) (by omega)) hx
    refine ⟨C', E, by rw [ga_9f gh C A0 _ ht, hp2, hp3, e1, x3k], h3, ?_, hk 52 (by omega) (by omega) (by omega) (by omega)⟩
    refine JI_new J (fun q hq => hk q (by omega) (by omega) (by omega) (by omega)) (fun g _ z => by rw [hk 13 (by omega) (by omega) (by omega) (by omega)]; exact z) (fun h _ z => ⟨by rw [hk 13 (by omega) (by omega) (by omega) (by omega)] at z; exact z, by rw [hk 18 (by omega) (by omega) (by omega) (by omega)]⟩) (fun h hh i hi z => ?_) (fun h hh => ?_) (fun h _ => up_A (by omega)) (fun h hh => ?_) (fun h hh => ?_) (fun h h1 h2 => ?_) (fun q hq => mu_ne hq)
    · rw [hk 12 (by omega) (by omega) (by omega) (by omega), hrv h hh]
      by_cases y : h = m
      · subst y
        rw [h20] at z
        unfold gvT at z
        rw [rvz_i] at z
        cases p2 with
        | true =>
          rw [if_neg (fun y => by simp at y), if_pos rfl, b_0] at z
          cases z
        | false =>
          rw [if_pos ⟨rfl, rfl⟩, if_neg (by simp), b_or] at z
          rcases Bool.or_eq_true_iff.mp z with z | z
          · exact J.turnA h hh i hi z
          · split at z
            · right; rw [← rvS_eq hR hh]; exact z
            · rw [b_0] at z; cases z
      · rw [h20o h y] at z; exact J.turnA h hh i hi z
    · by_cases y : h = m
      · subst y
        cases p2 with
        | true =>
          left; rw [h20]; unfold gvT
          rw [rvz_i, if_neg (fun y => by simp at y), if_pos rfl]
        | false =>
          right
          exact ⟨by rw [hk 13 (by omega) (by omega) (by omega) (by omega)]; exact ho, by rw [h15]; rfl⟩
      · rw [h20o h y, hk 13 (by omega) (by omega) (by omega) (by omega), h15o h y]; exact J.turnB h hh
    · by_cases y : h = m
      · subst y; rw [mu_same, hft]
      · rw [up_A (by omega), J.cA1 h hh]; unfold flN; rw [h15o h y, h16o h y]
    · rw [up_A (by omega), J.cA2 h hh, hk 17 (by omega) (by omega) (by omega) (by omega)]
    · rw [up_A (by omega), up_A (by omega)]; exact J.cN h h1 h2
  rcases h_setFlags gh C R ⟨n, hR⟩ (nI m) p2 p3 with ⟨r, C', R', e1, e2, -, h3⟩ | ⟨C', R', v', -, e2, e3, -⟩ | ⟨C', R', v', -, e2, e3, -⟩
  · rw [href] at e2
    injection e2 with e2
    injection e2 with e2 e3
    exact key C' (by rw [e1, e2]) (by rw [e3]; exact h3)
  · rw [href] at e2
    injection e2 with e2
    injection e2 with e2 e4
    rw [← e4, ← hE, mu_ne (by omega), mu_ne (by omega), mu_ne (by omega), mu_ne (by omega), mu_same] at e3
    exact absurd e3 (by decide)
  · rw [href] at e2
    injection e2 with e2
    injection e2 with e2 e4
    rw [← e4, ← hE, mu_ne (by omega), mu_ne (by omega), mu_ne (by omega), mu_ne (by omega), mu_same] at e3
    exact absurd e3 (by decide)
end
