/-! areFacts -/
def flN (R : rv_Mem) (h : Nat) : Nat := (if rv_z (R 15 h) = true then 1 else 0) + (if rv_z (R 16 h) = true then 2 else 0)
theorem vt_ex {n : Nat} {R : rv_Mem} {h l k : Nat} {v : Int32} : vt n R h l k v (-1) = true ↔ ∃ i, i < 6 ∧ wI (wP n R h i l k) = v := by
  unfold vt
  constructor
  · intro h1
    apply Classical.byContradiction
    intro h2
    have : ar (fun i => !(!decide (nI i = -1) && decide (wI (wP n R h i l k) = v))) 0 6 = true := (ar_iff _ _).mpr (fun j _ hj => by
      have q : ¬ wI (wP n R h j l k) = v := fun z => h2 ⟨j, by omega, z⟩
      show (!(!decide (nI j = -1) && decide (wI (wP n R h j l k) = v))) = true
      rw [decide_eq_false q, Bool.and_false]; rfl)
    rw [this] at h1
    cases h1
  · rintro ⟨i, hi, e⟩
    cases q : ar (fun i => !(!decide (nI i = -1) && decide (wI (wP n R h i l k) = v))) 0 6 with
    | false => rfl
    | true =>
      have := (ar_iff _ _).mp q i (by omega) (by omega)
      have : (!(!decide (nI i = -1) && decide (wI (wP n R h i l k) = v))) = true := this
      rw [decide_eq_true e, decide_eq_false (show ¬ nI i = -1 by rw [q_no, q_no_eq (by omega)]; exact id)] at this
      cases this
section
variable {n : Nat} {gh : rC_gh} {C R A : rv_Mem}
def aftail (gh : rC_gh) (A C : rv_Mem) (x2 x3 x4 x5 x6 : Int32) (w : Bool) (x10 : Int32) : Option (Bool × rv_Mem) := lk_x1 (f11_parentOf gh C x2) (fun r9 => (if 0 ≤ r9 then lk_x1 (f11_stateOf gh C (r9 / 10)) (fun r13 => (if r13 = 1 then gp_areFacts_374 gh A C x2 x3 x4 x5 x6 w x10 else gp_areFacts_379 gh A C x2 x3 x4 x5 x6 w x10 false)) (fun _ => none) else gp_areFacts_374 gh A C x2 x3 x4 x5 x6 w x10)) (fun _ => none)
theorem af_292 (hR : Rn n gh C R) {h c b r o : Nat} (hh : h < gh.1 0) (h8 : h < 8) (hA : A 0 (4 * h) = nI o) (ec : curS n R h = nI c) (hc : c < n) (eb : R 2 c = nI b) (hb : b < n) (hr : r < 2) (x3 x4 x5 x6 x10 : Int32) : ∀ d f fuel (w : Bool), f + d = 4 → d < fuel →
    gp_areFacts_292 gh A fuel C (nI h) x3 x4 x5 x6 (nI r) w x10 (nI f) = aftail gh A C (nI h) x3 x4 x5 x6 (w && ar (suf R c b r (x3 &&& (((1 : Int32) <<< (nI o &&& 31)) ^^^ (-1)))) f d) x10
  | d, f, 0, w, _, h2 => absurd h2 (Nat.not_lt_zero _)
  | 0, f, fuel + 1, w, h1, _ => by
    show gp_areFacts_292_s gh A (gp_areFacts_292 gh A fuel) C (nI h) x3 x4 x5 x6 (nI r) w x10 (nI f) = _
    unfold gp_areFacts_292_s
    rw [if_neg (by rw [q_4, q_lt (by omega) (by omega)]; omega)]
    show _ = aftail gh A C (nI h) x3 x4 x5 x6 (w && true) x10
    rw [Bool.and_true]; rfl
  | d + 1, f, fuel + 1, w, h1, h2 => by
    have hn := hR.n80
    have ih := fun w => af_292 hR hh h8 hA ec hc eb hb hr x3 x4 x5 x6 x10 d (f + 1) fuel w (by omega) (by omega)
    show gp_areFacts_292_s gh A (gp_areFacts_292 gh A fuel) C (nI h) x3 x4 x5 x6 (nI r) w x10 (nI f) = aftail gh A C (nI h) x3 x4 x5 x6 (w && (suf R c b r (x3 &&& (((1 : Int32) <<< (nI o &&& 31)) ^^^ (-1))) f && ar (suf R c b r (x3 &&& (((1 : Int32) <<< (nI o &&& 31)) ^^^ (-1)))) (f + 1) d)) x10
    unfold gp_areFacts_292_s gp_areFacts_336 gp_areFacts_340 gp_areFacts_341
    rw [if_pos (by rw [q_4, q_lt (by omega) (by omega)]; omega), q_succ]
    cases w with
    | false => rw [if_neg (by simp), ih]; rfl
    | true =>
      have e4 : (4 : Int32) * nI h = nI (4 * h) := by rw [q_4, q_mul]
      rw [if_pos rfl, ak_changed hR hh (by omega) ec hc eb hb, o2_some, ak_owners hR hr (by omega), x1k, e4, if_pos (show rv_in (nI (4 * h)) (lk_n 0) = true from q_inb (show 4 * h < 32 by omega) (by omega)), q_nc (by omega), hA, Int32.and_assoc]
      unfold suf
      cases decide (fl R c f = fl R b f) with
      | true => rw [if_neg (by simp), ih]; rfl
      | false =>
        rw [if_pos (show (!false) = true from rfl)]
        by_cases q : ownS R r f &&& (x3 &&& (((1 : Int32) <<< (nI o &&& 31)) ^^^ (-1))) = 0
        · rw [if_neg (fun z => z q), ih, decide_eq_true q]; rfl
        · rw [if_pos q, ih, decide_eq_false q]; rfl
theorem af_end (hR : Rn n gh C R) {h v : Nat} (hh : h < gh.1 0) (h8 : h < 8) (hA : A 0 (4 * h + 1) = nI (flN R h)) (h45 : R 45 0 = nI 1) (h46 : R 46 0 = 15) (h47 : R 47 0 = 7) (h48 : R 48 0 = 48) (h49 : rv_z (R 49 0) = false) {two : Int32} {low yes no rr : Nat} (hl : low ≤ 6) (hy : yes ≤ 6) (hno : no ≤ 6) {b0 b1 b2 pw b7 : Bool} (hv : f11_unresolved gh C (nI h) = some (.inl (nI v)))
    (hF : fcS R h = fB b0 b1 b2 (decide (nI v = 0)) (rv_z (R 15 h)) (rv_z (R 16 h)) pw b7) (e1 : low = 0 ↔ b1 = true) (e2 : (0 < yes ∧ no = 0) ↔ b2 = true) (e7 : b7 = true → ¬ two = 0) (hf : f11_fewest gh C (nI h) = some (.inl (nI rr))) :
    gp_areFacts_379 gh A C (nI h) two (nI low) (nI yes) (nI no) b0 (nI rr) pw = some (true, C) := by
  have e379 : gp_areFacts_379 gh A C (nI h) two (nI low) (nI yes) (nI no) b0 (nI rr) pw = gp_areFacts_391 gh A C (nI h) two (nI low) (nI yes) (nI no) (nI rr) pw b0 := by
    unfold gp_areFacts_379; cases b0 <;> rfl
  have e391 : gp_areFacts_391 gh A C (nI h) two (nI low) (nI yes) (nI no) (nI rr) pw b0 = gp_areFacts_401 gh A C (nI h) two (nI yes) (nI no) (nI rr) pw b0 (if b1 = true then 2 else 0) := by
    unfold gp_areFacts_391
    by_cases q : low = 0
    · rw [if_pos (by rw [q]; rfl), if_pos (e1.mp q)]
    · rw [if_neg (by rw [q_0, q_eq (by omega) (by omega)]; exact q), if_neg (fun z => q (e1.mpr z))]
  have e401 : gp_areFacts_401 gh A C (nI h) two (nI yes) (nI no) (nI rr) pw b0 (if b1 = true then 2 else 0) = gp_areFacts_417 gh A C (nI h) two (nI rr) pw (rv_i b0 ||| (if b1 = true then 2 else 0)) (if b2 = true then 4 else 0) := by
    unfold gp_areFacts_401 gp_areFacts_416
    by_cases q : 0 < yes
    · rw [if_pos (by rw [q_0, q_lt (by omega) (by omega)]; exact q)]
      by_cases q2 : no = 0
      · rw [if_pos (by rw [q2]; rfl), if_pos (e2.mp ⟨q, q2⟩)]
      · rw [if_neg (by rw [q_0, q_eq (by omega) (by omega)]; exact q2), if_neg (fun z => q2 (e2.mpr z).2)]
    · rw [if_neg (by rw [q_0, q_lt (by omega) (by omega)]; exact q), if_neg (fun z => q (e2.mpr z).1)]
  have e417 : ∀ s0 s1, gp_areFacts_417 gh A C (nI h) two (nI rr) pw s0 s1 = gp_areFacts_432 gh A C (nI h) two (nI rr) pw (s0 ||| s1) (if decide (nI v = 0) = true then 8 else 0) := fun s0 s1 => by
    unfold gp_areFacts_417
    rw [hv, x1k]
    by_cases q : nI v = 0
    · rw [if_pos q, if_pos (decide_eq_true q)]
    · rw [if_neg q, if_neg (fun z => q (of_decide_eq_true z))]
  have e432 : ∀ s0 s1, gp_areFacts_432 gh A C (nI h) two (nI rr) pw s0 s1 = gp_areFacts_454 gh A C (nI h) two (nI rr) ((s0 ||| s1) ||| (nI (flN R h) <<< ((4 : Int32) &&& 31))) (if pw = true then 64 else 0) := fun s0 s1 => by
    unfold gp_areFacts_432
    have e4 : (4 : Int32) * nI h + 1 = nI (4 * h + 1) := by rw [q_4, q_mul, q_succ]
    rw [e4, if_pos (show rv_in (nI (4 * h + 1)) (lk_n 0) = true from q_inb (show 4 * h + 1 < 32 by omega) (by omega)), q_nc (by omega), hA]
    cases pw <;> rfl
  rw [e379, e391, e401, e417, e432]
  have eT : stS R h = (if (7 &&& (fB b0 b1 b2 (decide (nI v = 0)) (rv_z (R 15 h)) (rv_z (R 16 h)) pw b7 ^^^ (-1))) = 0 ∧ (48 &&& fB b0 b1 b2 (decide (nI v = 0)) (rv_z (R 15 h)) (rv_z (R 16 h)) pw b7) = 0 then fB b0 b1 b2 (decide (nI v = 0)) (rv_z (R 15 h)) (rv_z (R 16 h)) pw b7 ||| ((1 : Int32) <<< ((15 : Int32) &&& 31)) else fB b0 b1 b2 (decide (nI v = 0)) (rv_z (R 15 h)) (rv_z (R 16 h)) pw b7) := by
    unfold stS
    rw [h45, q_nc (by omega), hd1 h46 h47 h48 h49, hF]
  obtain ⟨d1, d2, d3, d4, d5, d6⟩ := fB_due b0 b1 b2 (decide (nI v = 0)) (rv_z (R 15 h)) (rv_z (R 16 h)) pw b7 (stS R h) eT
  -- what is lacked
  obtain ⟨rl, l1, l2⟩ := ak_lacks hR hh
  rw [h45, q_nc (by omega), hF] at l2
  generalize hL : (if b0 = true then 0 else 1) + (if b1 = true then 0 else 2) + (if b2 = true then 0 else 4) + (if rv_z (R 15 h) = true then 16 else 0) + (if rv_z (R 16 h) = true then 32 else 0) = L at d4 d5
  have hL64 : L < 64 := by
    rw [← hL]
    cases b0 <;> cases b1 <;> cases b2 <;> cases rv_z (R 15 h) <;> cases rv_z (R 16 h) <;> decide
  have hokL : ∀ k, k < 256 → (bt (hd 1 R (fB b0 b1 b2 (decide (nI v = 0)) (rv_z (R 15 h)) (rv_z (R 16 h)) pw b7 ^^^ nI k)) 15 = true ↔ k &&& 55 = L) := fun k hk => by
    obtain ⟨k1, -, k3⟩ := and55 k hk
    have fi := flip_iff (fB b0 b1 b2 (decide (nI v = 0)) (rv_z (R 15 h)) (rv_z (R 16 h)) pw b7) (nI k)
    rw [d5, k1, q_eq (by have := Nat.and_le_left (n := k) (m := 55); omega) (by omega)] at fi
    rw [hd1 h46 h47 h48 h49]
    by_cases q : k &&& 55 = L
    · rw [if_pos (fi.mpr q), b_or]
      exact ⟨fun _ => q, fun _ => by rw [show bt ((1 : Int32) <<< ((15 : Int32) &&& 31)) 15 = true from by decide]; simp⟩
    · rw [if_neg (fun z => q (fi.mp z)), b_xor, d6, k3]
      exact ⟨fun z => by simp at z, fun z => absurd z q⟩
  have hmin : isMin 256 (fun k => bt (hd 1 R (fB b0 b1 b2 (decide (nI v = 0)) (rv_z (R 15 h)) (rv_z (R 16 h)) pw b7 ^^^ nI k)) 15) (some L) := by
    have hLL : L &&& 55 = L := by
      rw [← hL]
      cases b0 <;> cases b1 <;> cases b2 <;> cases rv_z (R 15 h) <;> cases rv_z (R 16 h) <;> decide
    refine ⟨by omega, (hokL L (by omega)).mpr hLL, fun x hx hok => ?_⟩
    have ex := (hokL x hx).mp hok
    have := (and55 x hx).2.1
    rw [ex] at this
    exact this
  have erl : rl = some L := isMin_uniq l2 hmin
  subst erl
  unfold gp_areFacts_454
  rw [show ((if rv_z (R 15 h) = true then 1 else 0) + (if rv_z (R 16 h) = true then 2 else 0)) = flN R h from rfl] at d1
  rw [ak_stmt hR hh, x1k, d1, if_pos rfl, d4]
  have e502 : gp_areFacts_502 gh A C (nI h) (nI rr) (stS R h) (nI L) = some (true, C) := by
    have e526 : ∀ s, gp_areFacts_526 gh A C (nI h) (nI rr) (nI L) s s = some (true, C) := fun s => by
      unfold gp_areFacts_526
      rw [if_pos rfl, l1, x1k, if_pos (show oI (some L) = nI L from rfl), hf, x1k, if_pos rfl]
    rw [d4] at d3
    unfold gp_areFacts_502 gp_areFacts_516
    by_cases q : (stS R h >>> ((15 : Int32) &&& 31)) = 1
    · rw [if_pos q, if_pos (d3.mp q)]; exact e526 true
    · rw [if_neg q, if_neg (fun z => q (d3.mpr z))]; exact e526 false
  rcases d2 with d2 | d2
  · rw [if_neg (fun z => z d2)]; exact e502
  · by_cases q : (stS R h &&& 128) = 0
    · rw [if_neg (fun z => z q)]; exact e502
    · rw [if_pos q, if_pos (e7 d2)]; exact e502
theorem areFacts_ok (hR : Rn n gh C R) (j1 : R 1 0 = nI 0 ∧ R 1 1 = nI 1) (h45 : R 45 0 = nI 1) (h46 : R 46 0 = 15) (h47 : R 47 0 = 7) (h48 : R 48 0 = 48) (h49 : rv_z (R 49 0) = false) {h : Nat} (hh : h < gh.1 0) (h8 : h < 8) (hA0 : A 0 (4 * h) = R 12 h) (hA1 : A 0 (4 * h + 1) = nI (flN R h)) : gp_areFacts gh C A (nI h) = some (true, C) := by
  have hn := hR.n80
  have hc20 := hR.ch20
  obtain ⟨k, c, b, k1, k2, k3, c1, c2, b1, c4, c5, c7, b3, b4, c8, enow⟩ := ak_now (A := A) hR hh
  obtain ⟨r, r0, -, r2⟩ := (hR.bas.1 c c2).1
  obtain ⟨-, ⟨o, o1, -, o3⟩, -⟩ := hR.chg h hh
  obtain ⟨v, p, pw, xa, p6, v1, s1, xb, hF⟩ := fcX hR hh k3 k1 k2 o3 o1
  obtain ⟨v', v2, v3⟩ := ak_unres hR hh
  have ev : nI v' = nI v := Option.some.inj (v2.symm.trans v1)
  rw [ev] at v3
  obtain ⟨pw', t1, t2, t3⟩ := settledX hR hh
  have ep : pw' = pw := Option.some.inj (t1.symm.trans s1)
  subst ep
  obtain ⟨two, low, yes, no, l1, l2, l3, l4, l5, l6, l7, l8⟩ := af_23 (A := A) hR hh k3 k1 k2 6 0 rv_FU 0 0 0 0 rfl (FU_lt (by omega)) (Nat.le_refl _) (Nat.le_refl _) (Nat.le_refl _) (fun i _ => by rw [b_0]; simp) ⟨fun _ i hi => absurd hi (Nat.not_lt_zero _), fun _ => rfl⟩ ⟨fun _ i hi => absurd hi (Nat.not_lt_zero _), fun _ => rfl⟩ ⟨fun _ i hi => absurd hi (Nat.not_lt_zero _), fun _ => rfl⟩
  obtain ⟨t', fw', m1, m2, m3⟩ := af_151 (A := A) hR hh c7 c2 b3 (show b < n by omega) r0 r2 two (nI low) (nI yes) (nI no) 64 rv_FU none 0 9 (Nat.le_refl _) (FU_lt (by omega)) (fun x h1 h2 => by omega) (Or.inl ⟨rfl, rfl⟩)
  obtain ⟨rr, f1, f2⟩ := ak_fewest hR hh
  have et : t' = some rr := isMin_uniq (dnI_min m1) f2
  have ef : fw' = nI rr := by
    rcases m2 with e | ⟨m, e, e2⟩
    · rw [et] at e; cases e
    · rw [et] at e
      rw [e2, Option.some.inj e]
  subst ef
  have L3 := af_292 hR hh h8 (hA0.trans o3) c7 c2 b3 (show b < n by omega) r0 two (nI low) (nI yes) (nI no) (nI rr) 4 0 rv_FU true rfl (FU_lt (by omega))
  have exa : two &&& (((1 : Int32) <<< (nI o &&& 31)) ^^^ (-1)) = xa := by
    apply b_ext
    intro i hi
    rw [b_and, b_not _ hi, b_shl1 o (by omega) i hi, l4 i hi, xb i hi]
  have eok : ar (suf R c b r xa) 0 4 = okS n R h xa := by
    unfold okS suf
    rw [c7, q_nc (by omega), b3, q_nc (by omega), r2, q_nc (by omega)]
  rw [exa, Bool.true_and, eok] at L3
  have fin := af_end (A := A) (two := two) hR hh h8 hA1 h45 h46 h47 h48 h49 l1 l2 l3 v3 hF (by
    rw [l5]
    constructor
    · intro z
      cases q : vt n R h 0 k (-2) (-1) with
      | false => rfl
      | true => obtain ⟨i, hi, e⟩ := vt_ex.mp q; exact absurd e (z i hi)
    · intro z i hi e
      rw [vt_ex.mpr ⟨i, hi, e⟩] at z; cases z) (by
    constructor
    · rintro ⟨z1, z2⟩
      have y1 : vt n R h 1 k 1 (-1) = true := by
        cases q : vt n R h 1 k 1 (-1) with
        | true => rfl
        | false =>
          have : yes = 0 := l6.mpr (fun i hi e => by rw [vt_ex.mpr ⟨i, hi, e⟩] at q; cases q)
          omega
      have y2 : vt n R h 1 k (-1) (-1) = false := by
        cases q : vt n R h 1 k (-1) (-1) with
        | false => rfl
        | true => obtain ⟨i, hi, e⟩ := vt_ex.mp q; exact absurd e (l7.mp z2 i hi)
      rw [y1, y2]; rfl
    · intro z
      have z' := Bool.and_eq_true_iff.mp z
      constructor
      · obtain ⟨i, hi, e⟩ := vt_ex.mp z'.1
        have : ¬ yes = 0 := fun q => l6.mp q i hi e
        omega
      · refine l7.mpr (fun i hi e => ?_)
        have := z'.2
        rw [vt_ex.mpr ⟨i, hi, e⟩] at this; cases this) (fun z q => by
    have h2 : ar (fun i => !(!decide (nI i = nI p) && decide (wI (wP n R h i 0 k) = 2))) 0 6 = true := (ar_iff _ _).mpr (fun j _ hj => by
      have := l4 j (by omega)
      rw [q, b_0, decide_eq_true (show j < 6 by omega), Bool.true_and] at this
      show (!(!decide (nI j = nI p) && decide (wI (wP n R h j 0 k) = 2))) = true
      rw [← this, Bool.and_false]; rfl)
    unfold vt at z
    rw [h2] at z; cases z) f1
  unfold gp_areFacts
  rw [ak_sets hR hh, x1k, k3, q_1, q_sub (by omega)]
  refine Eq.trans l8 ?_
  rw [enow, o2_some, ak_repo hR j1 c2, o2_some, r2]
  refine Eq.trans m3 (Eq.trans L3 ?_)
  unfold aftail
  rcases ak_parent hR hh with ⟨e1, e2⟩ | ⟨g, w, g1, g2, g3, -⟩
  · rw [e2, x1k, if_neg (by rw [q_0, q_le_no (by omega)]; exact id)]
    have := t2 e1
    subst this
    exact fin
  · have hw : (if w = true then 1 else 0) ≤ 1 := by split <;> omega
    have e10 : (10 * g + (if w = true then 1 else 0)) / 10 = g := by omega
    rw [g3, x1k, if_pos (by rw [q_0, q_le (by omega) (by omega)]; omega), q_div (L := 10) (d := 10) rfl (by omega) (by omega) (by omega), e10, ak_state hR g1, x1k]
    have e3 := t3 g g1 g2
    by_cases q : R 13 g = nI 1
    · rw [if_pos (show R 13 g = 1 from q)]
      rw [decide_eq_true q] at e3
      subst e3
      exact fin
    · rw [if_neg (show ¬ R 13 g = 1 from q)]
      rw [decide_eq_false q] at e3
      subst e3
      exact fin
end
