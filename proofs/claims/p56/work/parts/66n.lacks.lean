/-! statements, lacks -/
/-- what holds for facts -/
def hd (nr : Nat) (R : rv_Mem) (x : Int32) : Int32 := hold nr (R 46) (R 47) (R 48) (R 49) (rlk nr (R 46) (R 47) (R 48) (R 49) 16) x
theorem Rn.followB {n : Nat} {gh : rC_gh} {C R : rv_Mem} (hR : Rn n gh C R) : ∃ nr, 1 ≤ nr ∧ nr ≤ 20 ∧ R 45 0 = nI nr ∧ (∀ x, f8_follow gh C x = some (hd nr R x)) ∧ ∀ M, (∀ k, 45 ≤ k → k ≤ 49 → M k = R k) → ∀ x, bt x 31 = false → ∃ M', f12_holding M x = some (hd nr R x, M') ∧ ∀ q, q ≠ 65 → M' q = M q := by
  obtain ⟨nr, a1, a2, a3, a4, a5, a6, a7, m, b1, b2, b3⟩ := hR.rules'
  have hh := rul_heads a2 a5
  refine ⟨nr, a1, a2, a4, fun x => s8_follow (rul_rules a3 a5) hh a7 b2 b3 b1 x, fun M hM x hx => ?_⟩
  have e45 := hM 45 (by omega) (by omega)
  have e46 := hM 46 (by omega) (by omega)
  have e47 := hM 47 (by omega) (by omega)
  have e48 := hM 48 (by omega) (by omega)
  have e49 := hM 49 (by omega) (by omega)
  obtain ⟨M', m1, m2⟩ := s12_holding (M0 := M) (nr := nr) (by rw [e45]; exact a4) (by rw [e46]; exact hh) (by rw [e46, e47, e48, e49]; exact a6) x hx
  rw [e46, e47, e48, e49] at m1
  exact ⟨M', m1, m2⟩
def scr5 (M M0 : rv_Mem) : Prop := ∀ q, q < 53 ∨ (61 < q ∧ q ≠ 65) → M q = M0 q
theorem Rn_s5 {n : Nat} {gh : rC_gh} {C R M : rv_Mem} (hR : Rn n gh C R) (h : scr5 M R) : Rn n gh C M := Rn_scr (fun k hk => h k (by omega)) (by rw [h 64 (by omega)]; exact hR.h64) hR
theorem h_statements : ∀ gh MC MR, Rel gh MC MR → ∀ p1, rS_statements Rel gh MC MR p1 := fun gh C R h p1 => by
  obtain ⟨n, hR⟩ := h
  unfold rS_statements f11_statements f12_statements
  rcases asks_in hR p1 with ⟨h, hh, rfl, e1, e2⟩ | ⟨e1, e2⟩
  · left
    have hR1 : Rn n gh C (rv_u R 66 0 0) := Rn_66 hR
    obtain ⟨F, M', f1, f2, f3, f4⟩ := hR1.facts hh 0
    obtain ⟨nr, -, -, -, g1, g2⟩ := hR1.followB
    obtain ⟨M2, m1, m2⟩ := g2 M' (fun k h1 h2 => f3 k (by omega)) F (f4 31 (by omega) (by omega))
    rw [e1, e2]
    refine ⟨hd nr (rv_u R 66 0 0) F, M2, ?_, ?_, ?_, ⟨n, Rn_s5 hR1 (fun q hq => by rw [m2 q (by omega), f3 q (by omega)])⟩⟩
    · simp only [x1_inl]; rw [f1, o1_some, g1, o1_some]
    · simp only [o2_some, if_true]; rw [f2, o2_some, m1, o2_some]
    · rw [m2 66 (by omega), f3 66 (by omega), mu_same]
  · right
    rw [e1, e2]
    exact ⟨rv_u R 66 0 1, 0, rfl, rfl, mu_same _ _ _ _, ⟨n, Rn_66 hR⟩⟩
theorem s8_lacking {gh : rC_gh} {C : rv_Mem} {hold : Int32 → Int32} (hf : ∀ x, f8_follow gh C x = some (hold x)) (F : Int32) : ∃ r, f8_lackingFacts gh C F = some (oI r) ∧ isMin 256 (fun k => bt (hold (F ^^^ nI k)) 15) r := by
  have L := rv_ui (z := (fun _ _ _ => none)) (F := f8_lackingFacts_4_s gh C) (fun t k (r : Option Nat) => t F (oI r) (nI k)) 256 (fun k r => isMin k (fun k => bt (hold (F ^^^ nI k)) 15) r) (fun r => some (oI r)) ?_ ?_ rv_FU 0 none (Nat.zero_le _) (FU_lt (by omega)) (fun x hx => absurd hx (Nat.not_lt_zero _))
  · obtain ⟨r, r1, r2⟩ := L
    exact ⟨r, r2, r1⟩
  · rintro t k r hk hr
    refine ⟨upM (fun k => bt (hold (F ^^^ nI k)) 15) k r, ?_, ?_⟩
    · have h1 := upM_min (fun k => bt (hold (F ^^^ nI k)) 15) k
      have h2 := upM_min (fun k => bt (hold (F ^^^ nI k)) 15) (k + 1)
      rw [up_snoc, Nat.zero_add, ← isMin_uniq hr h1] at h2
      exact h2
    · show f8_lackingFacts_4_s gh C t F (oI r) (nI k) = t F (oI (upM (fun k => bt (hold (F ^^^ nI k)) 15) k r)) (nI (k + 1))
      have fifteen : ∀ x, f11_isIn x 15 = some (bt x 15) := fun x => s11_isIn (k := 15) (by omega)
      have e32 : f8_lackingFacts_32 gh C t F (oI r) (nI k) true = if bt (hold (F ^^^ nI k)) 15 = true then t F (nI k) (nI (k + 1)) else t F (oI r) (nI (k + 1)) := by
        unfold f8_lackingFacts_32 f8_lackingFacts_56
        rw [if_pos rfl, hf, o1_some, fifteen, o1_some, q_succ]
      unfold f8_lackingFacts_4_s f8_lackingFacts_27
      rw [if_pos (by rw [show (256 : Int32) = nI 256 from rfl, q_lt (by omega) (by omega)]; exact hk), e32]
      cases r with
      | none =>
        rw [if_neg (show ¬ ¬ oI none = -1 from fun z => z rfl)]
        show _ = t F (oI (if bt (hold (F ^^^ nI k)) 15 = true then some k else none)) (nI (k + 1))
        split <;> rfl
      | some m =>
        have hm := hr.1
        have eo : oI (some m) = nI m := rfl
        have bk := bs_le (nI k) 20
        have bm := bs_le (nI m) 20
        rw [eo, if_pos (by rw [q_no, q_no_eq (by omega)]; exact fun z => z), sJ_bits256 k (by omega), o1_some, sJ_bits256 m (by omega), o1_some]
        simp (disch := omega) only [q_lt]
        unfold f8_lackingFacts_32 f8_lackingFacts_56
        show _ = t F (oI (if bs (nI k) 20 < bs (nI m) 20 ∧ bt (hold (F ^^^ nI k)) 15 = true then some k else some m)) (nI (k + 1))
        by_cases c1 : bs (nI k) 20 < bs (nI m) 20
        · rw [if_pos c1]
          by_cases c2 : bt (hold (F ^^^ nI k)) 15 = true
          · rw [if_pos c2, if_pos ⟨c1, c2⟩]; rfl
          · rw [if_neg c2, if_neg (fun z => c2 z.2)]; rfl
        · rw [if_neg c1, if_neg (by simp), if_neg (fun z => c1 z.1), q_succ]; rfl
  · rintro t r -
    show f8_lackingFacts_4_s gh C t F (oI r) (nI 256) = _
    unfold f8_lackingFacts_4_s
    rw [if_neg (by decide)]
theorem h_lacks : ∀ gh MC MR, Rel gh MC MR → ∀ p1, rS_lacks Rel gh MC MR p1 := fun gh C R h p1 => by
  obtain ⟨n, hR⟩ := h
  unfold rS_lacks f11_lacks f12_lacks
  rcases asks_in hR p1 with ⟨h, hh, rfl, e1, e2⟩ | ⟨e1, e2⟩
  · left
    have hR1 : Rn n gh C (rv_u R 66 0 0) := Rn_66 hR
    obtain ⟨F, M', f1, f2, f3, f4⟩ := hR1.facts hh 0
    obtain ⟨nr, -, -, -, g1, g2⟩ := hR1.followB
    obtain ⟨r, r1, r2⟩ := s8_lacking g1 F
    -- the reference, downward
    have L := rv_ud (z := (fun _ _ _ _ => none)) (F := f12_lacksOf_14_s) (fun t k (s : rv_Mem × Option Nat) => t s.1 F (oI s.2) (dn k)) 0 (fun k s => k ≤ 256 ∧ scr5 s.1 (rv_u R 66 0 0) ∧ dnI 256 k (fun k => bt (hd nr (rv_u R 66 0 0) (F ^^^ nI k)) 15) s.2) (fun s => some (oI s.2, s.1)) ?_ ?_ rv_FU 256 (M', none) (Nat.zero_le _) (FU_lt (by omega)) ⟨by omega, fun q hq => f3 q (by omega), fun x h1 h2 => by omega⟩
    · obtain ⟨⟨M2, r'⟩, ⟨-, x1, x2⟩, x3⟩ := L
      have x2 : dnI 256 0 (fun k => bt (hd nr (rv_u R 66 0 0) (F ^^^ nI k)) 15) r' := x2
      have x1 : scr5 M2 (rv_u R 66 0 0) := x1
      have er := isMin_uniq (dnI_min x2) r2
      subst er
      rw [e1, e2]
      refine ⟨oI r', M2, ?_, ?_, ?_, ⟨n, Rn_s5 hR1 x1⟩⟩
      · simp only [x1_inl]; rw [f1, o1_some, r1, o1_some]
      · simp only [o2_some, if_true]
        unfold f12_lacksOf
        rw [f2, o2_some]
        rw [show f12_lacksOf_14 rv_FU M' F (-1) 255 = some (oI r', M2) from x3, o2_some]
      · rw [x1 66 (by omega), mu_same]
    · rintro t k' ⟨M, r'⟩ hk' ⟨i0, i1, i2⟩
      obtain ⟨k, rfl⟩ : ∃ k, k' = k + 1 := ⟨k' - 1, by omega⟩
      have i1 : scr5 M (rv_u R 66 0 0) := i1
      have i2 : dnI 256 (k + 1) (fun k => bt (hd nr (rv_u R 66 0 0) (F ^^^ nI k)) 15) r' := i2
      have i3 := dnI_step (show k < 256 by omega) i2
      have f31 : bt (F ^^^ nI k) 31 = false := by
        rw [b_xor, f4 31 (by omega) (by omega), b_lt256 k (by omega) 31 (by omega) (by omega)]; rfl
      obtain ⟨M2, m1, m2⟩ := g2 M (fun q h1 h2 => i1 q (by omega)) (F ^^^ nI k) f31
      refine ⟨(M2, dnM (fun k => bt (hd nr (rv_u R 66 0 0) (F ^^^ nI k)) 15) k r'), ⟨by omega, fun q hq => by show M2 q = _; rw [m2 q (by omega), i1 q hq], i3⟩, ?_⟩
      show f12_lacksOf_14_s t M F (oI r') (nI k) = t M2 F (oI (dnM (fun k => bt (hd nr (rv_u R 66 0 0) (F ^^^ nI k)) 15) k r')) (dn k)
      have fifteen : ((hd nr (rv_u R 66 0 0) (F ^^^ nI k) >>> ((15 : Int32) &&& 31)) &&& 1 = 1) = (bt (hd nr (rv_u R 66 0 0) (F ^^^ nI k)) 15 = true) := b_test (k := 15) (by omega)
      unfold f12_lacksOf_14_s f12_lacksOf_41 f12_lacksOf_65 f12_lacksOf_70 f12_lacksOf_71
      rw [if_pos (by rw [q_0, q_le (by omega) (by omega)]; omega), m1, o2_some, dn_m1]
      cases r' with
      | none =>
        show _ = t M2 F (oI (if bt (hd nr (rv_u R 66 0 0) (F ^^^ nI k)) 15 = true then some k else none)) (dn k)
        by_cases c : bt (hd nr (rv_u R 66 0 0) (F ^^^ nI k)) 15 = true
        · rw [if_pos (fifteen.mpr c), if_pos rfl, if_neg (show ¬ ¬ oI none = -1 from fun z => z rfl), if_pos c]; rfl
        · rw [if_neg (fun z => c (fifteen.mp z)), if_neg (by simp), if_neg c]
      | some m =>
        have hm : m < 256 := i2.2.1
        have eo : oI (some m) = nI m := rfl
        have bk := bs_le (nI k) 20
        have bm := bs_le (nI m) 20
        show _ = t M2 F (oI (if bt (hd nr (rv_u R 66 0 0) (F ^^^ nI k)) 15 = true ∧ bs (nI k) 20 ≤ bs (nI m) 20 then some k else some m)) (dn k)
        rw [eo, s12_bits, o1_some, s12_bits, o1_some]
        simp (disch := omega) only [q_le]
        by_cases c : bt (hd nr (rv_u R 66 0 0) (F ^^^ nI k)) 15 = true
        · rw [if_pos (fifteen.mpr c), if_pos trivial, if_pos (by rw [q_no, q_no_eq (by omega)]; exact fun z => z)]
          by_cases c2 : bs (nI k) 20 ≤ bs (nI m) 20
          · rw [if_pos c2, if_pos ⟨c, c2⟩]; rfl
          · rw [if_neg c2, if_neg (fun z => c2 z.2)]; rfl
        · rw [if_neg (fun z => c (fifteen.mp z)), if_neg (by simp), if_neg (fun z => c z.1)]; rfl
    · rintro t ⟨M, r'⟩ _
      show f12_lacksOf_14_s t M F (oI r') NO = _
      unfold f12_lacksOf_14_s
      rw [if_neg q_le0no]
  · right
    rw [e1, e2]
    exact ⟨rv_u R 66 0 1, 0, rfl, rfl, mu_same _ _ _ _, ⟨n, Rn_66 hR⟩⟩
