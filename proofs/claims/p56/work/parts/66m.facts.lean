/-! FACTS -/
theorem scr_refl (M : rv_Mem) : scr M M := fun _ _ => rfl
theorem scr_trans {A B D : rv_Mem} (h1 : scr A B) (h2 : scr B D) : scr A D := fun q hq => (h1 q hq).trans (h2 q hq)
theorem Rn_s {n : Nat} {gh : rC_gh} {C R M : rv_Mem} (hR : Rn n gh C R) (h : scr M R) : Rn n gh C M := Rn_scr (fun k hk => h k (by omega)) (by rw [h 64 (by omega)]; exact hR.h64) hR
/-- whether somebody but wo votes v -/
def vt (n : Nat) (R : rv_Mem) (h l k : Nat) (v wo : Int32) : Bool := !ar (fun i => !(!decide (nI i = wo) && decide (wI (wP n R h i l k) = v))) 0 6
theorem Rn.votedR {n : Nat} {gh : rC_gh} {C R M : rv_Mem} (hR : Rn n gh C R) (hM : scr M R) {h l k : Nat} (hh : h < gh.1 0) (hl : l < 2) (hk : R 14 h = nI k) (hk80 : k ≤ 80) (v wo : Int32) : ∃ M', f12_isVoted M (nI h) (nI l) v wo = some (vt n R h l k v wo, M') ∧ scr M' R := by
  have L := rv_ui (z := (fun _ _ _ _ _ _ _ => none)) (F := f12_isVoted_6_s) (fun t j (s : rv_Mem × Bool) => t s.1 (nI h) (nI l) v wo s.2 (nI j)) 6 (fun j s => scr s.1 R ∧ s.2 = !ar (fun i => !(!decide (nI i = wo) && decide (wI (wP n R h i l k) = v))) 0 j) (fun s => some (s.2, s.1)) ?_ ?_ rv_FU 0 (M, false) (Nat.zero_le _) (FU_lt (by omega)) ⟨hM, rfl⟩
  · obtain ⟨⟨M', b⟩, ⟨x1, x2⟩, x3⟩ := L
    have x2 : b = vt n R h l k v wo := x2
    subst x2
    exact ⟨M', x3, x1⟩
  · rintro t j ⟨M1, b⟩ hj ⟨i1, i2⟩
    have i1 : scr M1 R := i1
    have i2 : b = !ar (fun i => !(!decide (nI i = wo) && decide (wI (wP n R h i l k) = v))) 0 j := i2
    obtain ⟨cx, M2, w1, w2, w3⟩ := hR.worthM (M := M1) (p := j) (l := l) (fun k hk => i1 k (by omega)) (by rw [i1 64 (by omega)]; exact hR.h64) hh hj hl hk hk80
    have es : (!ar (fun i => !(!decide (nI i = wo) && decide (wI (wP n R h i l k) = v))) 0 (j + 1)) = (b || (!decide (nI j = wo) && decide (wI (wP n R h j l k) = v))) := by
      rw [ar_snoc, Nat.zero_add, Bool.not_and, Bool.not_not, ← i2]
    have step : f12_isVoted_6_s t M1 (nI h) (nI l) v wo b (nI j) = if b = false then (if ¬ nI j = wo then (if wI (wP n R h j l k) = v then t M2 (nI h) (nI l) v wo true (nI (j + 1)) else t M2 (nI h) (nI l) v wo false (nI (j + 1))) else t M1 (nI h) (nI l) v wo false (nI (j + 1))) else t M1 (nI h) (nI l) v wo true (nI (j + 1)) := by
      unfold f12_isVoted_6_s f12_isVoted_41 f12_isVoted_45 f12_isVoted_46
      rw [if_pos (by rw [q_6, q_lt (by omega) (by omega)]; exact hj), w1, o1_some, w2, o2_some, q_succ]
    show ∃ a' : rv_Mem × Bool, (scr a'.1 R ∧ a'.2 = _) ∧ f12_isVoted_6_s t M1 (nI h) (nI l) v wo b (nI j) = _
    rw [step, es]
    cases b with
    | true => exact ⟨(M1, true), ⟨i1, rfl⟩, rfl⟩
    | false =>
      rw [if_pos rfl, Bool.false_or]
      by_cases c1 : nI j = wo
      · rw [if_neg (fun z => z c1), decide_eq_true c1]
        exact ⟨(M1, false), ⟨i1, rfl⟩, rfl⟩
      · rw [if_pos c1, decide_eq_false c1]
        by_cases c2 : wI (wP n R h j l k) = v
        · rw [if_pos c2, decide_eq_true c2]
          exact ⟨(M2, true), ⟨scr_trans w3 i1, rfl⟩, rfl⟩
        · rw [if_neg c2, decide_eq_false c2]
          exact ⟨(M2, false), ⟨scr_trans w3 i1, rfl⟩, rfl⟩
  · rintro t ⟨M1, b⟩ _
    show f12_isVoted_6_s t M1 (nI h) (nI l) v wo b (nI 6) = _
    unfold f12_isVoted_6_s
    rw [if_neg (by rw [q_6, q_lt (by omega) (by omega)]; omega)]
theorem vt_pw {n : Nat} {R : rv_Mem} {h l k : Nat} {v wo x : Int32} (hx : ∀ i, i < 32 → bt x i = (decide (i < 6) && (!decide (nI i = wo) && decide (wI (wP n R h i l k) = v)))) : (vt n R h l k v wo = true) ↔ ¬ x = 0 := by
  unfold vt
  rw [b_zero]
  constructor
  · intro hv hz
    have : ar (fun i => !(!decide (nI i = wo) && decide (wI (wP n R h i l k) = v))) 0 6 = true := by
      rw [ar_iff]
      intro j _ hj
      have := hz j (by omega)
      rw [hx j (by omega), decide_eq_true (show j < 6 by omega), Bool.true_and] at this
      rw [this]; rfl
    rw [this] at hv
    cases hv
  · intro hz
    cases e : ar (fun i => !(!decide (nI i = wo) && decide (wI (wP n R h i l k) = v))) 0 6 with
    | false => rfl
    | true =>
      exfalso
      apply hz
      intro i hi
      rw [hx i hi]
      by_cases c : i < 6
      · have := (ar_iff 6 0).mp e i (Nat.zero_le _) (by omega)
        rw [decide_eq_true c, Bool.true_and]
        revert this
        cases (!decide (nI i = wo) && decide (wI (wP n R h i l k) = v)) <;> simp
      · rw [decide_eq_false c, Bool.false_and]
theorem Rn.approved {n : Nat} {gh : rC_gh} {C R : rv_Mem} (hR : Rn n gh C R) {h k o : Nat} (hh : h < gh.1 0) (hk : R 14 h = nI k) (hk80 : k ≤ 80) (ho : R 12 h = nI o) (ho6 : o < 6) : ∃ x M', f12_isApproved R (nI h) = some (okS n R h x, M') ∧ scr M' R ∧ ∀ i, i < 32 → bt x i = (decide (i < 6) && decide (wI (wP n R h i 0 k) = 2) && !decide (i = o)) := by
  have hc20 := hR.ch20
  obtain ⟨c, b, r0, c1, c2, c3, c4, c5, c6, c7, c8, c9, c10, -⟩ := hR.curB hh
  have hn := hR.n80
  have er : (R 1 (curS n R h).toNatClampNeg).toNatClampNeg = r0 := by rw [c5, q_nc (by omega), c9, q_nc (by omega)]
  -- the files
  have files : ∀ M x, scr M R → f12_isApproved_56 rv_FU M (nI h) x true 0 = some (okS n R h x, M) := by
    intro M x hM
    have J := rv_ui (z := (fun _ _ _ _ _ => none)) (F := f12_isApproved_56_s) (fun T f b => T M (nI h) x b (nI f)) 4 (fun f b => b = ar (fun f => decide (fl R (curS n R h).toNatClampNeg f = fl R (R 2 (curS n R h).toNatClampNeg).toNatClampNeg f) || !decide (ownS R (R 1 (curS n R h).toNatClampNeg).toNatClampNeg f &&& x = 0)) 0 f) (fun b => some (b, M)) ?_ ?_ rv_FU 0 true (Nat.zero_le _) (FU_lt (by omega)) rfl
    · obtain ⟨b, b1, b2⟩ := J
      have b1 : b = okS n R h x := b1
      rw [← b1]
      exact b2
    · rintro T f b hf rfl
      refine ⟨_, rfl, ?_⟩
      show f12_isApproved_56_s T M (nI h) x _ (nI f) = T M (nI h) x _ (nI (f + 1))
      rw [ar_snoc, Nat.zero_add]
      unfold f12_isApproved_56_s f12_isApproved_92 f12_isApproved_96 f12_isApproved_97
      rw [if_pos (by rw [q_4, q_lt (by omega) (by omega)]; exact hf), q_succ, hR.chgR (fun k h1 => hM k (by omega)) hh hf, o1_some, hR.repoM (fun k h1 => hM k (by omega)) hh c10 c4, o1_some, s12_ownersOf c4 hf, o1_some, ownS_scr (hM 41 (by omega)) (hM 42 (by omega)) (hM 43 (by omega)) (hM 44 (by omega)), er]
      cases ar (fun f => decide (fl R (curS n R h).toNatClampNeg f = fl R (R 2 (curS n R h).toNatClampNeg).toNatClampNeg f) || !decide (ownS R r0 f &&& x = 0)) 0 f with
      | false => rfl
      | true =>
        rw [if_pos rfl]
        cases decide (fl R (curS n R h).toNatClampNeg f = fl R (R 2 (curS n R h).toNatClampNeg).toNatClampNeg f) with
        | true => rfl
        | false =>
          show (if ¬ (ownS R r0 f &&& x) = 0 then T M (nI h) x true (nI (f + 1)) else T M (nI h) x false (nI (f + 1))) = T M (nI h) x (!decide (ownS R r0 f &&& x = 0)) (nI (f + 1))
          by_cases e : ownS R r0 f &&& x = 0
          · rw [if_neg (fun z => z e), decide_eq_true e]; rfl
          · rw [if_pos e, decide_eq_false e]; rfl
    · intro T b hb
      show f12_isApproved_56_s T M (nI h) x b (nI 4) = _
      unfold f12_isApproved_56_s
      rw [if_neg (by rw [q_4, q_lt (by omega) (by omega)]; omega)]
  have L := rv_ui (z := (fun _ _ _ _ => none)) (F := f12_isApproved_4_s) (fun t j (s : rv_Mem × Int32) => t s.1 (nI h) s.2 (nI j)) 6 (fun j s => scr s.1 R ∧ ∀ i, i < 32 → bt s.2 i = (decide (i < j) && decide (wI (wP n R h i 0 k) = 2) && !decide (i = o))) (fun s => some (okS n R h s.2, s.1)) ?_ ?_ rv_FU 0 (R, 0) (Nat.zero_le _) (FU_lt (by omega)) ⟨scr_refl R, fun i _ => by rw [b_0]; simp⟩
  · obtain ⟨⟨M', x⟩, ⟨x1, x2⟩, x3⟩ := L
    exact ⟨x, M', x3, x1, x2⟩
  · rintro t j ⟨M1, x⟩ hj ⟨i1, i2⟩
    have i1 : scr M1 R := i1
    have i2 : ∀ i, i < 32 → bt x i = (decide (i < j) && decide (wI (wP n R h i 0 k) = 2) && !decide (i = o)) := i2
    obtain ⟨cx, M2, w1, w2, w3⟩ := hR.worthM (M := M1) (p := j) (l := 0) (fun k hk => i1 k (by omega)) (by rw [i1 64 (by omega)]; exact hR.h64) hh hj (by omega) hk hk80
    have w2 : f12_worthOf M1 (nI j) cx 0 = some (wI (wP n R h j 0 k), M2) := w2
    have or0 : x ||| 0 = x := Int32.or_zero
    have step : f12_isApproved_4_s t M1 (nI h) x (nI j) = if j = o then t M1 (nI h) x (nI (j + 1)) else if wI (wP n R h j 0 k) = 2 then t M2 (nI h) (x ||| ((1 : Int32) <<< (nI j &&& 31))) (nI (j + 1)) else t M2 (nI h) x (nI (j + 1)) := by
      unfold f12_isApproved_4_s f12_isApproved_42 f12_isApproved_43
      rw [if_pos (by rw [q_6, q_lt (by omega) (by omega)]; exact hj), if_pos (q_inb (show h < 20 by omega) (by omega)), q_nc (by omega), i1 12 (by omega), ho, w1, o1_some, w2, o2_some, q_succ, or0]
      simp (disch := omega) only [q_eq]
      by_cases e : j = o
      · rw [if_neg (fun z => z e), if_pos e]
      · rw [if_pos e, if_neg e]
    show ∃ a' : rv_Mem × Int32, (scr a'.1 R ∧ ∀ i, i < 32 → bt a'.2 i = _) ∧ f12_isApproved_4_s t M1 (nI h) x (nI j) = _
    rw [step]
    by_cases e : j = o
    · rw [if_pos e]
      refine ⟨(M1, x), ⟨i1, fun i hi => ?_⟩, rfl⟩
      show bt x i = _
      rw [i2 i hi]
      by_cases ei : i = j
      · subst ei; simp [e]
      · by_cases e2 : i < j
        · simp [e2, show i < j + 1 by omega]
        · simp [e2, show ¬ i < j + 1 by omega]
    · rw [if_neg e]
      by_cases c : wI (wP n R h j 0 k) = 2
      · rw [if_pos c]
        refine ⟨(M2, x ||| ((1 : Int32) <<< (nI j &&& 31))), ⟨scr_trans w3 i1, fun i hi => ?_⟩, rfl⟩
        show bt (x ||| ((1 : Int32) <<< (nI j &&& 31))) i = _
        rw [b_or, b_shl1 j (by omega) i hi, i2 i hi]
        by_cases ei : i = j
        · subst ei; simp [c, e]
        · by_cases e2 : i < j
          · simp [ei, e2, show i < j + 1 by omega]
          · simp [ei, e2, show ¬ i < j + 1 by omega]
      · rw [if_neg c]
        refine ⟨(M2, x), ⟨scr_trans w3 i1, fun i hi => ?_⟩, rfl⟩
        show bt x i = _
        rw [i2 i hi]
        by_cases ei : i = j
        · subst ei; simp [c]
        · by_cases e2 : i < j
          · simp [e2, show i < j + 1 by omega]
          · simp [e2, show ¬ i < j + 1 by omega]
  · rintro t ⟨M1, x⟩ ⟨i1, -⟩
    show f12_isApproved_4_s t M1 (nI h) x (nI 6) = _
    unfold f12_isApproved_4_s
    rw [if_neg (by rw [q_6, q_lt (by omega) (by omega)]; omega)]
    exact files M1 x i1
theorem om_none {ρ : Type} {a : Option ρ} {f : Nat → Option ρ} : rv_om none a f = a := rfl
theorem om_some {ρ : Type} {k : Nat} {a : Option ρ} {f : Nat → Option ρ} : rv_om (some k) a f = f k := rfl
/-- the parent as a thing, or null -/
theorem Rn.findP {n : Nat} {gh : rC_gh} {C R : rv_Mem} (hR : Rn n gh C R) {h : Nat} (hh : h < gh.1 0) {x : Int32} (x1 : f9_parentNumber gh C (nI h) = some x) : (x = NO → f11_findParent gh C (100 + h) = some none) ∧ ∀ g, g < gh.1 0 → x = nI g → f11_findParent gh C (100 + h) = some (some (100 + g)) := by
  have hc20 := hR.ch20
  refine ⟨fun e => ?_, fun g hg e => ?_⟩
  · unfold f11_findParent f11_findParent_41
    rw [if_pos (is1 hh hc20), (hR.chg h hh).1, x1, o1_some, e, if_neg q_le0no]
  · unfold f11_findParent
    rw [if_pos (is1 hh hc20), (hR.chg h hh).1, x1, o1_some, e, q_0, if_pos (by rw [q_le (by omega) (by omega)]; omega), if_pos (by rw [q_lt (by omega) (by omega)]; exact hg), if_pos (q_inb hg (by omega)), q_nc (by omega), if_pos (is1 hg hc20)]
theorem Rn.settled {n : Nat} {gh : rC_gh} {C R : rv_Mem} (hR : Rn n gh C R) {h : Nat} (hh : h < gh.1 0) (g : Int32) : ∃ w, f11_isParentSettled gh C (100 + h) g = some w ∧ f12_isParentIn R (nI h) g = some w := by
  have hc20 := hR.ch20
  obtain ⟨x, x1, x2, -, x4⟩ := hR.parent hh
  unfold f11_isParentSettled f12_isParentIn f11_isParentSettled_29 f12_isParentIn_30
  rcases x4 with rfl | ⟨q, hq, rfl⟩
  · rw [(hR.findP hh x1).1 rfl, o1_some, om_none, x2, o1_some, if_neg (fun z => z rfl)]
    exact ⟨true, rfl, rfl⟩
  · have ne : ¬ nI q = -1 := by rw [q_no, q_no_eq (by omega)]; exact fun z => z
    obtain ⟨s, s1, s2, s3⟩ := (hR.chg q hq).2.2.2.1
    rw [(hR.findP hh x1).2 q hq rfl, o1_some, om_some, x2, o1_some, if_pos ne, if_pos (is1 hq hc20), if_pos (q_inb (show q < 20 by omega) (by omega)), q_nc (by omega), s2, s3, (hR.chg q hq).1, s11_isIn (by omega), o1_some]
    simp only [b_test (show q < 32 by omega)]
    by_cases e : nI s = 1
    · rw [if_neg (fun z => z e)]
      exact ⟨true, rfl, rfl⟩
    · rw [if_pos e]
      cases bt g q with
      | true => exact ⟨true, rfl, rfl⟩
      | false => exact ⟨false, rfl, rfl⟩
theorem b_lt256 : ∀ v, v < 256 → ∀ i, i < 32 → 8 ≤ i → bt (nI v) i = false := by decide +kernel
theorem Rn.facts {n : Nat} {gh : rC_gh} {C R : rv_Mem} (hR : Rn n gh C R) {h : Nat} (hh : h < gh.1 0) (g : Int32) : ∃ F M', f11_factsOf gh C (100 + h) g = some F ∧ f12_factsOf R (nI h) g = some (F, M') ∧ scr M' R ∧ ∀ i, i < 32 → 8 ≤ i → bt F i = false := by
  have hc20 := hR.ch20
  have hn := hR.n80
  have i1 := is1 hh hc20
  obtain ⟨k, k1, k2, k3, k4, -⟩ := hR.sets hh
  obtain ⟨a1, ⟨o, o1, o2, o3⟩, -, -, a5, a6, -⟩ := hR.chg h hh
  obtain ⟨c, b, r, c1, c2, c3, c4, c5, c6, c7, c8, c9, c10, c11, c12⟩ := hR.curB hh
  -- the class's sets
  have pw := fun l (hl : l < 2) v => hR.pw (C1 := C) (l := l) hh hl k4 k2 k1 v rfl rfl rfl rfl rfl
  obtain ⟨x, x1, x2⟩ := pw 0 (by omega) 2
  obtain ⟨y, y1, y2⟩ := pw 0 (by omega) (-2)
  obtain ⟨z, z1, z2⟩ := pw 1 (by omega) 1
  obtain ⟨w, w1, w2⟩ := pw 1 (by omega) (-1)
  have x1 : f10_peopleWith gh C (100 + h) 0 2 = some x := x1
  have y1 : f10_peopleWith gh C (100 + h) 0 (-2) = some y := y1
  have z1 : f10_peopleWith gh C (100 + h) 1 1 = some z := z1
  have w1 : f10_peopleWith gh C (100 + h) 1 (-1) = some w := w1
  obtain ⟨p, p6, p20, p7⟩ : ∃ p, p < 6 ∧ C 20 c = nI p ∧ R 7 c = nI p := by
    rcases hR.own c c2 with ⟨-, z⟩ | ⟨h', s', p', -, -, -, -, -, -, -, q1, q2, q3⟩
    · rw [c12] at z; exact absurd z (by rw [q_no_eq (by omega)]; exact fun y => y)
    · exact ⟨p', q1, q2, q3⟩
  obtain ⟨v, v1, v2, -⟩ := hR.unres hh
  obtain ⟨pw', s1, s2⟩ := hR.settled hh g
  -- the reference's
  obtain ⟨xa, M1, f1, f2, f3⟩ := hR.approved hh k4 k2 o3 o1
  have exa : x &&& (((1 : Int32) <<< (nI o &&& 31)) ^^^ (-1)) = xa := by
    apply b_ext
    intro i hi
    rw [b_and, b_not _ hi, b_shl1 o (by omega) i hi, x2 i hi, f3 i hi]
  have noN : ∀ i, i < 6 → ¬ nI i = -1 := fun i hi => by rw [q_no, q_no_eq (by omega)]; exact fun z => z
  have vtN : ∀ l v x, (∀ i, i < 32 → bt x i = (decide (i < 6) && decide (wI (wP n R h i l k) = v))) → ((vt n R h l k v (-1) = true) ↔ ¬ x = 0) := fun l v x hx => vt_pw (fun i hi => by
    rw [hx i hi]
    by_cases c : i < 6
    · rw [decide_eq_false (noN i c)]; rfl
    · rw [decide_eq_false c]; rfl)
  obtain ⟨M2, g1, g2⟩ := hR.votedR f2 (l := 0) hh (by omega) k4 k2 (-2) (-1)
  obtain ⟨M3, e1, e2⟩ := hR.votedR g2 (l := 1) hh (by omega) k4 k2 1 (-1)
  obtain ⟨M4, d1, d2⟩ := hR.votedR e2 (l := 1) hh (by omega) k4 k2 (-1) (-1)
  have g1 : f12_isVoted M1 (nI h) 0 (-2) (-1) = some (vt n R h 0 k (-2) (-1), M2) := g1
  have e1 : f12_isVoted M2 (nI h) 1 1 (-1) = some (vt n R h 1 k 1 (-1), M3) := e1
  have d1 : f12_isVoted M3 (nI h) 1 (-1) (-1) = some (vt n R h 1 k (-1) (-1), M4) := d1
  have tail : ∀ M (s0 s1 : Int32), scr M R → ∃ M', f11_factsOf_119 gh C (100 + h) g x (nI p) s0 s1 = some ((((((s0 ||| s1) ||| (if nI v = 0 then 8 else 0)) ||| (if rv_z (R 15 h) = true then 16 else 0)) ||| (if rv_z (R 16 h) = true then 32 else 0)) ||| (if pw' = true then 64 else 0)) ||| (if vt n R h 0 k 2 (nI p) = true then 128 else 0)) ∧ f12_factsOf_62 M (nI h) g s0 s1 = some ((((((s0 ||| s1) ||| (if nI v = 0 then 8 else 0)) ||| (if rv_z (R 15 h) = true then 16 else 0)) ||| (if rv_z (R 16 h) = true then 32 else 0)) ||| (if pw' = true then 64 else 0)) ||| (if vt n R h 0 k 2 (nI p) = true then 128 else 0), M') ∧ scr M' R := by
    intro M s0 s1' hM
    have hRM := Rn_s hR hM
    obtain ⟨v', u1, u2, -⟩ := hRM.unres hh
    rw [v1] at u1
    have ev : nI v' = nI v := (Option.some.inj u1).symm
    rw [ev] at u2
    obtain ⟨pw2, t1, t2⟩ := hRM.settled hh g
    rw [s1] at t1
    have ep : pw2 = pw' := (Option.some.inj t1).symm
    rw [ep] at t2
    obtain ⟨M5, m1, m2⟩ := hR.votedR hM (l := 0) hh (by omega) k4 k2 2 (nI p)
    have m1 : f12_isVoted M (nI h) 0 2 (nI p) = some (vt n R h 0 k 2 (nI p), M5) := m1
    have v128 : (vt n R h 0 k 2 (nI p) = true) ↔ ¬ (x &&& (((1 : Int32) <<< (nI p &&& 31)) ^^^ (-1))) = 0 := vt_pw (fun i hi => by
      rw [b_and, b_not _ hi, b_shl1 p (by omega) i hi, x2 i hi]
      by_cases c6 : i < 6
      · have : (nI i = nI p) = (i = p) := q_eq (by omega) (by omega)
        simp only [this, c6, decide_true, Bool.true_and]
        cases decide (wI (wP n R h i 0 k) = 2) <;> cases decide (i = p) <;> rfl
      · rw [decide_eq_false c6]; rfl)
    have hin : rv_in (nI h) 20 = true := q_inb (by omega) (by omega)
    refine ⟨M5, ?_, ?_, m2⟩
    · unfold f11_factsOf_119 f11_factsOf_141 f11_factsOf_159 f11_factsOf_177 f11_factsOf_197 f11_factsOf_220
      simp only [i1, if_true, a1, v1, o1_some, a5, a6, s1]
      by_cases q0 : nI v = 0 <;> simp only [q0, if_true, if_false] <;> cases rv_z (R 15 h) <;> simp only [bf_t, if_true, if_false] <;> cases rv_z (R 16 h) <;> simp only [bf_t, if_true, if_false] <;> cases pw' <;> simp only [bf_t, if_true, if_false] <;> (by_cases q1 : (x &&& (((1 : Int32) <<< (nI p &&& 31)) ^^^ (-1))) = 0) <;> simp only [v128, q1, not_true_eq_false, not_false_eq_true, if_true, if_false]
    · unfold f12_factsOf_62 f12_factsOf_79 f12_factsOf_97 f12_factsOf_115 f12_factsOf_133 f12_factsOf_163
      have e7 : M 7 c = nI p := by rw [hM 7 (by omega)]; exact p7
      have ec : f12_current M (nI h) = some (nI c) := by rw [hR.curM (fun k hk => hM k (by omega)) hh]; exact c11
      simp only [u2, o1_some, hin, if_true, q_nc (show h < 2147483648 by omega), hM 15 (by omega), hM 16 (by omega), t2, ec, q_inb (show c < 82 by omega) (show c < 2147483648 by omega), q_nc (show c < 2147483648 by omega), e7, m1, o2_some]
      by_cases q0 : nI v = 0 <;> simp only [q0, if_true, if_false] <;> cases rv_z (R 15 h) <;> simp only [bf_t, if_true, if_false] <;> cases rv_z (R 16 h) <;> simp only [bf_t, if_true, if_false] <;> cases pw' <;> simp only [bf_t, if_true, if_false] <;> cases vt n R h 0 k 2 (nI p) <;> simp only [bf_t, if_true, if_false]
  have small : ∀ s0 s1' : Int32, (∀ i, i < 32 → 8 ≤ i → bt s0 i = false) → (∀ i, i < 32 → 8 ≤ i → bt s1' i = false) → ∀ i, i < 32 → 8 ≤ i → bt ((((((s0 ||| s1') ||| (if nI v = 0 then 8 else 0)) ||| (if rv_z (R 15 h) = true then 16 else 0)) ||| (if rv_z (R 16 h) = true then 32 else 0)) ||| (if pw' = true then 64 else 0)) ||| (if vt n R h 0 k 2 (nI p) = true then 128 else 0)) i = false := by
    intro s0 s1' h0 h1 i hi h8
    have q0 := b_0 i
    have q8 : bt 8 i = false := b_lt256 8 (by omega) i hi h8
    have q16 : bt 16 i = false := b_lt256 16 (by omega) i hi h8
    have q32 : bt 32 i = false := b_lt256 32 (by omega) i hi h8
    have q64 : bt 64 i = false := b_lt256 64 (by omega) i hi h8
    have q128 : bt 128 i = false := b_lt256 128 (by omega) i hi h8
    have it : ∀ (P : Prop) [Decidable P] (a : Int32), bt a i = false → bt (if P then a else 0) i = false := fun P _ a ha => by
      split
      · exact ha
      · exact q0
    rw [b_or, b_or, b_or, b_or, b_or, b_or, h0 i hi h8, h1 i hi h8, it _ 8 q8, it _ 16 q16, it _ 32 q32, it _ 64 q64, it _ 128 q128]
    rfl
  have zor : ∀ y : Int32, (0 : Int32) ||| y = y := fun y => Int32.zero_or
  have eC : f11_factsOf gh C (100 + h) g = f11_factsOf_59 gh C (100 + h) g x (nI p) (okS n R h xa) := by
    unfold f11_factsOf f9_currentOf f9_uploaderOf
    rw [x1, o1_some, if_pos i1, a1, s9_read (L := 20) (by omega) (by decide) rfl (by omega), o1_some, o1_some, c6, s9_read (L := 82) (by omega) (by decide) rfl (by omega), o1_some, o1_some, p20, o2, exa, hR.ownC hh, o1_some]
    cases okS n R h xa <;> rfl
  have eR : f12_factsOf R (nI h) g = f12_factsOf_13 M1 (nI h) g (okS n R h xa) := by
    unfold f12_factsOf
    rw [f1, o2_some]
    cases okS n R h xa <;> rfl
  rw [eC, eR]
  -- what the first three say
  have four : ∃ s1' s0, (∀ i, i < 32 → 8 ≤ i → bt s0 i = false) ∧ (∀ i, i < 32 → 8 ≤ i → bt s1' i = false) ∧ f11_factsOf_59 gh C (100 + h) g x (nI p) (okS n R h xa) = f11_factsOf_119 gh C (100 + h) g x (nI p) s0 s1' ∧ ∃ M, scr M R ∧ f12_factsOf_13 M1 (nI h) g (okS n R h xa) = f12_factsOf_62 M (nI h) g s0 s1' := by
    have b1 : ∀ b : Bool, ∀ i, i < 32 → 8 ≤ i → bt (rv_i b) i = false := fun b i hi h8 => by
      cases b
      · exact b_0 i
      · exact b_lt256 1 (by omega) i hi h8
    have vy := vtN 0 (-2) y y2
    have vz := vtN 1 1 z z2
    have vw := vtN 1 (-1) w w2
    unfold f11_factsOf_59 f11_factsOf_83 f11_factsOf_118 f12_factsOf_13 f12_factsOf_32 f12_factsOf_61
    simp only [y1, z1, w1, o1_some, g1, o2_some, e1, d1, zor]
    by_cases cy : y = 0
    · have hy : vt n R h 0 k (-2) (-1) = false := by
        cases e : vt n R h 0 k (-2) (-1) with
        | false => rfl
        | true => exact absurd cy (vy.mp e)
      simp only [cy, hy, if_true, bf_t, if_false]
      by_cases cz : z = 0
      · have hz : vt n R h 1 k 1 (-1) = false := by
          cases e : vt n R h 1 k 1 (-1) with
          | false => rfl
          | true => exact absurd cz (vz.mp e)
        simp only [cz, hz, not_true_eq_false, bf_t, if_false]
        exact ⟨0, _, fun i hi h8 => by rw [b_or, b1 _ i hi h8, show bt 2 i = false from b_lt256 2 (by omega) i hi h8]; rfl, fun i _ _ => b_0 i, rfl, M3, e2, rfl⟩
      · have hz : vt n R h 1 k 1 (-1) = true := vz.mpr cz
        simp only [cz, hz, not_false_eq_true, if_true]
        by_cases cw : w = 0
        · have hw : vt n R h 1 k (-1) (-1) = false := by
            cases e : vt n R h 1 k (-1) (-1) with
            | false => rfl
            | true => exact absurd cw (vw.mp e)
          simp only [cw, hw, if_true]
          exact ⟨4, _, fun i hi h8 => by rw [b_or, b1 _ i hi h8, show bt 2 i = false from b_lt256 2 (by omega) i hi h8]; rfl, fun i hi h8 => b_lt256 4 (by omega) i hi h8, rfl, M4, d2, rfl⟩
        · have hw : vt n R h 1 k (-1) (-1) = true := vw.mpr cw
          simp only [cw, hw, if_false, bt_f]
          exact ⟨0, _, fun i hi h8 => by rw [b_or, b1 _ i hi h8, show bt 2 i = false from b_lt256 2 (by omega) i hi h8]; rfl, fun i _ _ => b_0 i, rfl, M4, d2, rfl⟩
    · have hy : vt n R h 0 k (-2) (-1) = true := vy.mpr cy
      simp only [cy, hy, if_true, if_false]
      by_cases cz : z = 0
      · have hz : vt n R h 1 k 1 (-1) = false := by
          cases e : vt n R h 1 k 1 (-1) with
          | false => rfl
          | true => exact absurd cz (vz.mp e)
        simp only [cz, hz, not_true_eq_false, bf_t, if_false]
        exact ⟨0, _, fun i hi h8 => by rw [b_or, b1 _ i hi h8, b_0]; rfl, fun i _ _ => b_0 i, rfl, M3, e2, rfl⟩
      · have hz : vt n R h 1 k 1 (-1) = true := vz.mpr cz
        simp only [cz, hz, not_false_eq_true, if_true]
        by_cases cw : w = 0
        · have hw : vt n R h 1 k (-1) (-1) = false := by
            cases e : vt n R h 1 k (-1) (-1) with
            | false => rfl
            | true => exact absurd cw (vw.mp e)
          simp only [cw, hw, if_true]
          exact ⟨4, _, fun i hi h8 => by rw [b_or, b1 _ i hi h8, b_0]; rfl, fun i hi h8 => b_lt256 4 (by omega) i hi h8, rfl, M4, d2, rfl⟩
        · have hw : vt n R h 1 k (-1) (-1) = true := vw.mpr cw
          simp only [cw, hw, if_false, bt_f]
          exact ⟨0, _, fun i hi h8 => by rw [b_or, b1 _ i hi h8, b_0]; rfl, fun i _ _ => b_0 i, rfl, M4, d2, rfl⟩
  obtain ⟨s1', s0, h0, h1, r1, M, hM, r2⟩ := four
  obtain ⟨M', t1, t2, t3⟩ := tail M s0 s1' hM
  exact ⟨_, M', by rw [r1, t1], by rw [r2, t2], t3, small s0 s1' h0 h1⟩
