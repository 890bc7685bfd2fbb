/-! THE FACTS, AND WHAT FOLLOWS WITH THE ONE RULE -/
section
variable {n : Nat} {gh : rC_gh} {C R : rv_Mem}
theorem vtX {R : rv_Mem} {h l k : Nat} {v x : Int32} (hx : ∀ i, i < 32 → bt x i = (decide (i < 6) && decide (wI (wP n R h i l k) = v))) : (vt n R h l k v (-1) = true) ↔ ¬ x = 0 := by
  have noN : ∀ i, i < 6 → ¬ nI i = -1 := fun i hi => by rw [q_no, q_no_eq (by omega)]; exact fun z => z
  exact vt_pw (fun i hi => by
    rw [hx i hi]
    by_cases c : i < 6
    · rw [decide_eq_false (noN i c)]; rfl
    · rw [decide_eq_false c]; rfl)
theorem settledX (hR : Rn n gh C R) {h : Nat} (hh : h < gh.1 0) : ∃ pw, f11_isParentSettled gh C (100 + h) 0 = some pw ∧ (parS n R h = NO → pw = true) ∧ ∀ g, g < gh.1 0 → parS n R h = nI g → pw = decide (R 13 g = nI 1) := by
  have hc := hR.ch20
  obtain ⟨x, x1, -, x3, x4⟩ := hR.parent hh
  obtain ⟨f1, f2⟩ := hR.findP hh x1
  rcases x4 with e | ⟨g, hg, e⟩
  · refine ⟨true, ?_, fun _ => rfl, fun g hg z => ?_⟩
    · unfold f11_isParentSettled
      rw [f1 e, o1_some]; rfl
    · rw [x3, e] at z
      exact absurd z (by rw [q_no_eq' (by omega)]; exact id)
  · obtain ⟨-, -, -, ⟨s, s0, s1, s2⟩, -⟩ := hR.chg g hg
    refine ⟨decide (R 13 g = nI 1), ?_, fun z => ?_, fun g' hg' z => ?_⟩
    · unfold f11_isParentSettled
      rw [f2 g hg e, o1_some, om_some, if_pos (is1 hg hc), s1, (hR.chg g hg).1, ← s2]
      by_cases q : R 13 g = nI 1
      · rw [if_neg (fun z => z q), decide_eq_true q]; rfl
      · rw [if_pos (show ¬ R 13 g = 1 from q), show (0 : Int32) = nI 0 from rfl, s11_isIn (by omega), o1_some, decide_eq_false q, show bt (nI 0) g = false from b_0 g, if_neg (by simp)]
    · rw [x3, e] at z
      exact absurd z (by rw [q_no_eq (by omega)]; exact id)
    · rw [x3, e, q_eq (by omega) (by omega)] at z
      rw [z]
/-- a set of facts -/
def fB (b0 b1 b2 b3 b4 b5 b6 b7 : Bool) : Int32 := ((((((rv_i b0 ||| (if b1 = true then 2 else 0)) ||| (if b2 = true then 4 else 0)) ||| (if b3 = true then 8 else 0)) ||| (if b4 = true then 16 else 0)) ||| (if b5 = true then 32 else 0)) ||| (if b6 = true then 64 else 0)) ||| (if b7 = true then 128 else 0)
theorem fcX (hR : Rn n gh C R) {h k o : Nat} (hh : h < gh.1 0) (k4 : R 14 h = nI k) (k1 : 1 ≤ k) (k2 : k ≤ 80) (o3 : R 12 h = nI o) (o1 : o < 6) : ∃ (v p : Nat) (pw : Bool) (xa : Int32), p < 6 ∧ f11_countUnresolved gh C (nI h) = some (nI v) ∧ f11_isParentSettled gh C (100 + h) 0 = some pw ∧ (∀ i, i < 32 → bt xa i = (decide (i < 6) && decide (wI (wP n R h i 0 k) = 2) && !decide (i = o))) ∧
    fcS R h = fB (okS n R h xa) (!vt n R h 0 k (-2) (-1)) (vt n R h 1 k 1 (-1) && !vt n R h 1 k (-1) (-1)) (decide (nI v = 0)) (rv_z (R 15 h)) (rv_z (R 16 h)) pw (vt n R h 0 k 2 (nI p)) := by
  have hc20 := hR.ch20
  have hn := hR.n80
  have i1 := is1 hh hc20
  obtain ⟨a1, ⟨o', o1', o2, o3'⟩, -, -, a5, a6, -⟩ := hR.chg h hh
  have eo : o' = o := by rw [o3, q_eq (by omega) (by omega)] at o3'; exact o3'.symm
  subst eo
  obtain ⟨c, b, r, c1, c2, c3, c4, c5, c6, c7, c8, c9, c10, c11, c12⟩ := hR.curB hh
  have pw := fun l (hl : l < 2) v => hR.pw (C1 := C) (l := l) hh hl k4 k2 k1 v rfl rfl rfl rfl rfl
  obtain ⟨x, x1, x2⟩ := pw 0 (by omega) 2
  obtain ⟨y, y1, y2⟩ := pw 0 (by omega) (-2)
  obtain ⟨z, z1, z2⟩ := pw 1 (by omega) 1
  obtain ⟨w, w1, w2⟩ := pw 1 (by omega) (-1)
  have x1 : f10_peopleWith gh C (100 + h) 0 2 = some x := x1
  have y1 : f10_peopleWith gh C (100 + h) 0 (-2) = some y := y1
  have z1 : f10_peopleWith gh C (100 + h) 1 1 = some z := z1
  have w1 : f10_peopleWith gh C (100 + h) 1 (-1) = some w := w1
  obtain ⟨p, p6, p20, p7⟩ : ∃ p, p < 6 ∧ C 20 c = nI p ∧ R 7 c = nI p := by
    rcases hR.own c c2 with ⟨-, z⟩ | ⟨h', s', p', -, -, -, -, -, -, -, q1, q2, q3⟩
    · rw [c12] at z; exact absurd z (by rw [q_no_eq (by omega)]; exact fun y => y)
    · exact ⟨p', q1, q2, q3⟩
  obtain ⟨v, v1, -⟩ := hR.unres hh
  obtain ⟨pw', s1, -⟩ := hR.settled hh 0
  refine ⟨v, p, pw', x &&& (((1 : Int32) <<< (nI o' &&& 31)) ^^^ (-1)), p6, v1, s1, fun i hi => ?_, ?_⟩
  · rw [b_and, b_not _ hi, b_shl1 o' (by omega) i hi, x2 i hi]
  generalize hxa : x &&& (((1 : Int32) <<< (nI o' &&& 31)) ^^^ (-1)) = xa
  have zor : ∀ y : Int32, (0 : Int32) ||| y = y := fun y => Int32.zero_or
  have eC : f11_factsOf gh C (100 + h) 0 = f11_factsOf_59 gh C (100 + h) 0 x (nI p) (okS n R h xa) := by
    unfold f11_factsOf f9_currentOf f9_uploaderOf
    rw [x1, o1_some, if_pos i1, a1, s9_read (L := 20) (by omega) (by decide) rfl (by omega), o1_some, o1_some, c6, s9_read (L := 82) (by omega) (by decide) rfl (by omega), o1_some, o1_some, p20, o2, hxa, hR.ownC hh, o1_some]
    cases okS n R h xa <;> rfl
  have v128 : (vt n R h 0 k 2 (nI p) = true) ↔ ¬ (x &&& (((1 : Int32) <<< (nI p &&& 31)) ^^^ (-1))) = 0 := vt_pw (fun i hi => by
    rw [b_and, b_not _ hi, b_shl1 p (by omega) i hi, x2 i hi]
    by_cases c6 : i < 6
    · have : (nI i = nI p) = (i = p) := q_eq (by omega) (by omega)
      simp only [this, c6, decide_true, Bool.true_and]
      cases decide (wI (wP n R h i 0 k) = 2) <;> cases decide (i = p) <;> rfl
    · rw [decide_eq_false c6]; rfl)
  have tail : ∀ s0 s1' : Int32, f11_factsOf_119 gh C (100 + h) 0 x (nI p) s0 s1' = some ((((((s0 ||| s1') ||| (if decide (nI v = 0) = true then 8 else 0)) ||| (if rv_z (R 15 h) = true then 16 else 0)) ||| (if rv_z (R 16 h) = true then 32 else 0)) ||| (if pw' = true then 64 else 0)) ||| (if vt n R h 0 k 2 (nI p) = true then 128 else 0)) := by
    intro s0 s1'
    unfold f11_factsOf_119 f11_factsOf_141 f11_factsOf_159 f11_factsOf_177 f11_factsOf_197 f11_factsOf_220
    simp only [i1, if_true, a1, v1, o1_some, a5, a6, s1]
    by_cases q0 : nI v = 0 <;> simp only [q0, decide_true, decide_false, bf_t, if_true, if_false] <;> cases rv_z (R 15 h) <;> simp only [bf_t, if_true, if_false] <;> cases rv_z (R 16 h) <;> simp only [bf_t, if_true, if_false] <;> cases pw' <;> simp only [bf_t, if_true, if_false] <;> (by_cases q1 : (x &&& (((1 : Int32) <<< (nI p &&& 31)) ^^^ (-1))) = 0) <;> simp only [v128, q1, not_true_eq_false, not_false_eq_true, if_true, if_false]
  have vy := vtX y2
  have vz := vtX z2
  have vw := vtX w2
  have e59 : f11_factsOf_59 gh C (100 + h) 0 x (nI p) (okS n R h xa) = f11_factsOf_119 gh C (100 + h) 0 x (nI p) (rv_i (okS n R h xa) ||| (if (!vt n R h 0 k (-2) (-1)) = true then 2 else 0)) (if (vt n R h 1 k 1 (-1) && !vt n R h 1 k (-1) (-1)) = true then 4 else 0) := by
    have by_ : y = 0 ↔ vt n R h 0 k (-2) (-1) = false := by
      cases e : vt n R h 0 k (-2) (-1) with
      | false => exact ⟨fun _ => rfl, fun _ => Classical.byContradiction (fun q => by rw [vy.mpr q] at e; cases e)⟩
      | true => exact ⟨fun q => absurd q (vy.mp e), fun q => by cases q⟩
    have bz_ : z = 0 ↔ vt n R h 1 k 1 (-1) = false := by
      cases e : vt n R h 1 k 1 (-1) with
      | false => exact ⟨fun _ => rfl, fun _ => Classical.byContradiction (fun q => by rw [vz.mpr q] at e; cases e)⟩
      | true => exact ⟨fun q => absurd q (vz.mp e), fun q => by cases q⟩
    have bw_ : w = 0 ↔ vt n R h 1 k (-1) (-1) = false := by
      cases e : vt n R h 1 k (-1) (-1) with
      | false => exact ⟨fun _ => rfl, fun _ => Classical.byContradiction (fun q => by rw [vw.mpr q] at e; cases e)⟩
      | true => exact ⟨fun q => absurd q (vw.mp e), fun q => by cases q⟩
    unfold f11_factsOf_59 f11_factsOf_83 f11_factsOf_118
    simp only [y1, z1, w1, o1_some, zor, by_, bz_, bw_]
    cases vt n R h 0 k (-2) (-1) <;> cases vt n R h 1 k 1 (-1) <;> cases vt n R h 1 k (-1) (-1) <;> rfl
  have e := ak_facts hR hh
  rw [eC, e59, tail] at e
  exact (Option.some.inj e).symm
theorem hd1 (h46 : R 46 0 = 15) (h47 : R 47 0 = 7) (h48 : R 48 0 = 48) (h49 : rv_z (R 49 0) = false) (x : Int32) : hd 1 R x = if (7 &&& (x ^^^ (-1))) = 0 ∧ (48 &&& x) = 0 then x ||| ((1 : Int32) <<< ((15 : Int32) &&& 31)) else x := by
  have e0 : rlh (R 47) (R 48) (fun _ => 0) 0 = 0 := by
    unfold rlh
    rw [h47, h48]
    decide +kernel
  have rl : rlr 1 (R 46) (R 47) (R 48) (R 49) (fun _ => 0) = fun _ => 0 := by
    funext s
    show rl1 (R 46) (R 47) (R 48) (R 49) 0 (fun _ => 0) s = 0
    unfold rl1
    rw [e0]
    split <;> rfl
  have rk : ∀ k, rlk 1 (R 46) (R 47) (R 48) (R 49) k = fun _ => 0 := by
    intro k
    induction k with
    | zero => rfl
    | succ k ih =>
      show rlr 1 (R 46) (R 47) (R 48) (R 49) (rlk 1 (R 46) (R 47) (R 48) (R 49) k) = _
      rw [ih, rl]
  have hh : heads 1 (R 46) := ⟨by omega, fun i hi => ⟨15, by omega, by omega, by rw [show i = 0 by omega]; exact h46⟩⟩
  have ps1 : ∀ y, ps 1 (R 46) (R 47) (R 48) (R 49) (fun _ => 0) 0 y = if (7 &&& (y ^^^ (-1))) = 0 ∧ (48 &&& y) = 0 then y ||| ((1 : Int32) <<< ((15 : Int32) &&& 31)) else y := by
    intro y
    show (if rv_z (R 49 0) = false ∧ (fun _ => 0) (R 46 0).toNatClampNeg = 0 ∧ (R 47 0 &&& (y ^^^ (-1))) = 0 ∧ (R 48 0 &&& y) = 0 then y ||| ((1 : Int32) <<< (R 46 0 &&& 31)) else y) = _
    rw [h46, h47, h48, h49]
    by_cases c : (7 &&& (y ^^^ (-1))) = 0 ∧ (48 &&& y) = 0
    · rw [if_pos c, if_pos ⟨rfl, rfl, c.1, c.2⟩]
    · rw [if_neg c, if_neg (fun z => c z.2.2)]
  have fixed : ps 1 (R 46) (R 47) (R 48) (R 49) (fun _ => 0) 0 (ps 1 (R 46) (R 47) (R 48) (R 49) (fun _ => 0) 0 x) = ps 1 (R 46) (R 47) (R 48) (R 49) (fun _ => 0) 0 x := by
    rw [ps1 x]
    by_cases c : (7 &&& (x ^^^ (-1))) = 0 ∧ (48 &&& x) = 0
    · rw [if_pos c, ps1]
      split
      · rw [Int32.or_assoc, Int32.or_self]
      · rfl
    · rw [if_neg c, ps1, if_neg c]
  unfold hd
  rw [rk, ← hold_low (m := 0) x (by omega) (fun _ => Nat.le_refl _), ← ps1 x]
  show st 1 (R 46) (R 47) (R 48) (R 49) (fun _ => 0) 0 x = _
  exact (st_of hh (L := 0) (x := x) (i := 1) fixed).symm
end
/-- what the law asks of the facts -/
theorem fB_due : ∀ b0 b1 b2 b3 b4 b5 b6 b7 : Bool, ∀ T, T = (if (7 &&& (fB b0 b1 b2 b3 b4 b5 b6 b7 ^^^ (-1))) = 0 ∧ (48 &&& fB b0 b1 b2 b3 b4 b5 b6 b7) = 0 then fB b0 b1 b2 b3 b4 b5 b6 b7 ||| ((1 : Int32) <<< ((15 : Int32) &&& 31)) else fB b0 b1 b2 b3 b4 b5 b6 b7) →
    (T &&& 127) = ((((((rv_i b0 ||| (if b1 = true then 2 else 0)) ||| (if b2 = true then 4 else 0)) ||| (if b3 = true then 8 else 0)) ||| (nI ((if b4 = true then 1 else 0) + (if b5 = true then 2 else 0)) <<< ((4 : Int32) &&& 31))) ||| (if b6 = true then 64 else 0))) ∧ ((T &&& 128) = 0 ∨ b7 = true) ∧ (((T >>> ((15 : Int32) &&& 31)) = 1) ↔ (((7 &&& (T ^^^ (-1))) ||| (T &&& 48)) = 0)) ∧ ((7 &&& (T ^^^ (-1))) ||| (T &&& 48)) = nI ((if b0 = true then 0 else 1) + (if b1 = true then 0 else 2) + (if b2 = true then 0 else 4) + (if b4 = true then 16 else 0) + (if b5 = true then 32 else 0)) ∧ ((7 &&& (fB b0 b1 b2 b3 b4 b5 b6 b7 ^^^ (-1))) ||| (fB b0 b1 b2 b3 b4 b5 b6 b7 &&& 48)) = nI ((if b0 = true then 0 else 1) + (if b1 = true then 0 else 2) + (if b2 = true then 0 else 4) + (if b4 = true then 16 else 0) + (if b5 = true then 32 else 0)) ∧ bt (fB b0 b1 b2 b3 b4 b5 b6 b7) 15 = false := by
  intro b0 b1 b2 b3 b4 b5 b6 b7 T hT
  subst hT
  cases b0 <;> cases b1 <;> cases b2 <;> cases b3 <;> cases b4 <;> cases b5 <;> cases b6 <;> cases b7 <;> decide +kernel
theorem b_7 : ∀ i, i < 32 → bt 7 i = decide (i < 3) := by decide +kernel
theorem b_48 : ∀ i, i < 32 → bt 48 i = decide (i = 4 ∨ i = 5) := by decide +kernel
theorem b_55 : ∀ i, i < 32 → bt 55 i = decide (i < 3 ∨ i = 4 ∨ i = 5) := by decide +kernel
theorem and55 : ∀ k, k < 256 → nI k &&& 55 = nI (k &&& 55) ∧ (bs (nI (k &&& 55)) 20 < bs (nI k) 20 ∨ (bs (nI (k &&& 55)) 20 = bs (nI k) 20 ∧ (k &&& 55) ≤ k)) ∧ bt (nI k) 15 = false := by decide +kernel
theorem flip_iff (F K : Int32) : ((7 &&& ((F ^^^ K) ^^^ (-1))) = 0 ∧ (48 &&& (F ^^^ K)) = 0) ↔ (K &&& 55) = ((7 &&& (F ^^^ (-1))) ||| (F &&& 48)) := by
  have e1 : (((7 : Int32) &&& ((F ^^^ K) ^^^ (-1))) = 0) = (∀ i, i < 32 → bt (7 &&& ((F ^^^ K) ^^^ (-1))) i = false) := b_zero
  have e2 : (((48 : Int32) &&& (F ^^^ K)) = 0) = (∀ i, i < 32 → bt (48 &&& (F ^^^ K)) i = false) := b_zero
  rw [e1, e2]
  constructor
  · rintro ⟨h1, h2⟩
    apply b_ext
    intro i hi
    have a1 := h1 i hi
    have a2 := h2 i hi
    rw [b_and, b_7 i hi, b_not _ hi, b_xor] at a1
    rw [b_and, b_48 i hi, b_xor] at a2
    rw [b_and, b_55 i hi, b_or, b_and, b_7 i hi, b_not _ hi, b_and, b_48 i hi]
    by_cases c1 : i < 3
    · have c2 : ¬ (i = 4 ∨ i = 5) := by omega
      have c3 : i < 3 ∨ i = 4 ∨ i = 5 := by omega
      rw [decide_eq_true c1] at a1 ⊢
      rw [decide_eq_true c3, decide_eq_false c2]
      revert a1
      cases bt F i <;> cases bt K i <;> simp
    · by_cases c2 : i = 4 ∨ i = 5
      · have c3 : i < 3 ∨ i = 4 ∨ i = 5 := by omega
        rw [decide_eq_true c2] at a2 ⊢
        rw [decide_eq_true c3, decide_eq_false c1]
        revert a2
        cases bt F i <;> cases bt K i <;> simp
      · have c3 : ¬ (i < 3 ∨ i = 4 ∨ i = 5) := by omega
        rw [decide_eq_false c1, decide_eq_false c2, decide_eq_false c3]
        simp
  · intro h
    have hb : ∀ i, i < 32 → bt (K &&& 55) i = bt ((7 &&& (F ^^^ (-1))) ||| (F &&& 48)) i := fun i _ => by rw [h]
    constructor
    · intro i hi
      have a := hb i hi
      rw [b_and, b_55 i hi, b_or, b_and, b_7 i hi, b_not _ hi, b_and, b_48 i hi] at a
      rw [b_and, b_7 i hi, b_not _ hi, b_xor]
      by_cases c1 : i < 3
      · have c2 : ¬ (i = 4 ∨ i = 5) := by omega
        have c3 : i < 3 ∨ i = 4 ∨ i = 5 := by omega
        rw [decide_eq_true c1, decide_eq_true c3, decide_eq_false c2] at a
        rw [decide_eq_true c1]
        revert a
        cases bt F i <;> cases bt K i <;> simp
      · rw [decide_eq_false c1]; rfl
    · intro i hi
      have a := hb i hi
      rw [b_and, b_55 i hi, b_or, b_and, b_7 i hi, b_not _ hi, b_and, b_48 i hi] at a
      rw [b_and, b_48 i hi, b_xor]
      by_cases c2 : i = 4 ∨ i = 5
      · have c1 : ¬ i < 3 := by omega
        have c3 : i < 3 ∨ i = 4 ∨ i = 5 := by omega
        rw [decide_eq_false c1, decide_eq_true c3, decide_eq_true c2] at a
        rw [decide_eq_true c2]
        revert a
        cases bt F i <;> cases bt K i <;> simp
      · rw [decide_eq_false c2]; rfl
