/-! TURNS AND ACTS -/
theorem Rn.curM {n : Nat} {gh : rC_gh} {C R M : rv_Mem} (hR : Rn n gh C R) (hk : ∀ k, k ≤ 6 ∨ k = 14 → M k = R k) {h : Nat} (hh : h < gh.1 0) : f12_current M (nI h) = f12_current R (nI h) := by
  have hc := hR.ch20
  unfold f12_current
  rw [s12_commitAt (n := n) (by rw [hk 0 (by omega)]; exact hR.cnt.2.2.1) hR.n80, s12_commitAt (n := n) hR.cnt.2.2.1 hR.n80, hk 5 (by omega), hk 6 (by omega), hk 14 (by omega)]
theorem Rn.worthM {n : Nat} {gh : rC_gh} {C R M : rv_Mem} (hR : Rn n gh C R) (hkm : ∀ k, k ≤ 6 ∨ k = 14 ∨ k = 22 ∨ k = 23 → M k = R k) (h64 : rv_z (M 64 0) = false) {h p l k : Nat} (hh : h < gh.1 0) (hp : p < 6) (hl : l < 2) (hk : R 14 h = nI k) (hk80 : k ≤ 80) : ∃ x M', f12_current M (nI h) = some x ∧ f12_worthOf M (nI p) x (nI l) = some (wI (wP n R h p l k), M') ∧ scr M' M := by
  obtain ⟨k', c, k1, k2, k3, k4, c1, c2, c3, c4, c5, c6, c7, c8⟩ := hR.cur hh
  have ek : k' = k := by rw [hk, q_eq (by omega) (by omega)] at k3; exact k3.symm
  subst ek
  obtain ⟨ca, a1, a2, a3, a4, a5, a6⟩ := hR.at hh k2 hk (show k' - 1 < k' by omega)
  have hn := hR.n80
  have e : ca = c := by rw [c6, q_eq (by omega) (by omega)] at a3; exact a3.symm
  subst e
  obtain ⟨M', m1, m2⟩ := s12_worthOf hR (fun k hk => hkm k (by omega)) h64 hh hp hl hk k2 (show k' - 1 < k' by omega) a6 a4 a5 a2
  rw [show k' - 1 + 1 = k' by omega] at m1
  exact ⟨nI ca, M', by rw [hR.curM (fun k hk => hkm k (by omega)) hh]; exact c8, m1, m2⟩
theorem Rn.pw {n : Nat} {gh : rC_gh} {C C1 R : rv_Mem} (hR : Rn n gh C R) {h l k : Nat} (hh : h < gh.1 0) (hl : l < 2) (hk : R 14 h = nI k) (hk80 : k ≤ 80) (h1 : 1 ≤ k) (v : Int32) (e4 : C1 (100 + h) 4 = C (100 + h) 4) (e120 : C1 (120 + h) = C (120 + h)) (e21 : C1 21 = C 21) (e41 : C1 41 = C 41) (e42 : C1 42 = C 42) :
    ∃ x, f10_peopleWith gh C1 (100 + h) (nI l) v = some x ∧ ∀ i, i < 32 → bt x i = (decide (i < 6) && decide (wI (wP n R h i l k) = v)) := by
  have hc := hR.ch20
  have i1 := is1 hh hc
  obtain ⟨k', k1, k2, k3, k4, -⟩ := hR.sets hh
  have ekk : k' = k := by rw [hk, q_eq (by omega) (by omega)] at k4; exact k4.symm
  subst ekk
  have L := rv_ui (z := (fun _ _ _ _ _ => none)) (F := f10_peopleWith_6_s gh C1) (fun t j x => t (100 + h) (nI l) v x (nI j)) 6 (fun j x => ∀ i, i < 32 → bt x i = (decide (i < j) && decide (wI (wP n R h i l k') = v))) some ?_ ?_ rv_FU 0 0 (Nat.zero_le _) (FU_lt (by omega)) (fun i _ => by rw [b_0]; simp)
  · obtain ⟨x, x1, x2⟩ := L
    exact ⟨x, x2, x1⟩
  · intro t j x hj hI
    have ew := hR.worthC (C1 := C1) (p := j) (s := k' - 1) hh hj hl hk k2 (by omega) e4 e120 e21 e41 e42
    rw [show k' - 1 + 1 = k' by omega] at ew
    have es : nI k' - 1 = nI (k' - 1) := q_sub h1
    have step : f10_peopleWith_6_s gh C1 t (100 + h) (nI l) v x (nI j) = if wI (wP n R h j l k') = v then t (100 + h) (nI l) v (x ||| ((1 : Int32) <<< (nI j &&& 31))) (nI (j + 1)) else t (100 + h) (nI l) v x (nI (j + 1)) := by
      unfold f10_peopleWith_6_s f10_peopleWith_40
      rw [if_pos (by rw [q_6, q_lt (by omega) (by omega)]; exact hj), if_pos i1, e4, k3, es, ew, o1_some, q_succ]
    by_cases c : wI (wP n R h j l k') = v
    · refine ⟨x ||| ((1 : Int32) <<< (nI j &&& 31)), fun i hi => ?_, by rw [step, if_pos c]⟩
      rw [b_or, b_shl1 j (by omega) i hi, hI i hi]
      by_cases e : i = j
      · subst e; simp [c]
      · by_cases e2 : i < j
        · simp [e, e2, show i < j + 1 by omega]
        · simp [e, e2, show ¬ i < j + 1 by omega]
    · refine ⟨x, fun i hi => ?_, by rw [step, if_neg c]⟩
      rw [hI i hi]
      by_cases e : i = j
      · subst e; simp [c]
      · by_cases e2 : i < j
        · simp [e2, show i < j + 1 by omega]
        · simp [e2, show ¬ i < j + 1 by omega]
  · intro t x _
    show f10_peopleWith_6_s gh C1 t (100 + h) (nI l) v x (nI 6) = _
    unfold f10_peopleWith_6_s
    rw [if_neg (by rw [q_6, q_lt (by omega) (by omega)]; omega)]
theorem Rn.asked {n : Nat} {gh : rC_gh} {C R M : rv_Mem} (hR : Rn n gh C R) (hkm : ∀ k, k ≤ 12 ∨ k = 14 ∨ k = 19 ∨ (22 ≤ k ∧ k ≤ 32) → M k = R k) (h64 : rv_z (M 64 0) = false) {h k : Nat} (hh : h < gh.1 0) (hk : R 14 h = nI k) (hk80 : k ≤ 80) :
    ∃ x M', f12_askedOf M (nI h) = some (x, M') ∧ scr M' M ∧ ∀ i, i < 32 → bt x i = (bt (C (100 + h) 9) i && !(decide (i < 6) && decide (wI (wP n R h i 0 k) = 2))) := by
  have hc := hR.ch20
  have L := rv_ui (z := (fun _ _ _ _ => none)) (F := f12_askedOf_8_s) (fun t j (s : rv_Mem × Int32) => t s.1 (nI h) s.2 (nI j)) 6 (fun j s => scr s.1 M ∧ ∀ i, i < 32 → bt s.2 i = (bt (C (100 + h) 9) i && !(decide (i < j) && decide (wI (wP n R h i 0 k) = 2)))) (fun s => some (s.2, s.1)) ?_ ?_ rv_FU 0 (M, C (100 + h) 9) (Nat.zero_le _) (FU_lt (by omega)) ⟨fun _ _ => rfl, fun i _ => by simp⟩
  · obtain ⟨⟨M', x⟩, ⟨x1, x2⟩, x3⟩ := L
    refine ⟨x, M', ?_, x1, x2⟩
    unfold f12_askedOf
    rw [hR.rvM (fun k hk => hkm k (by omega)) hh, o1_some]
    exact x3
  · rintro t j ⟨M1, x⟩ hj ⟨i1, i2⟩
    have i1 : scr M1 M := i1
    have i2 : ∀ i, i < 32 → bt x i = (bt (C (100 + h) 9) i && !(decide (i < j) && decide (wI (wP n R h i 0 k) = 2))) := i2
    obtain ⟨cx, M2, w1, w2, w3⟩ := hR.worthM (M := M1) (p := j) (l := 0) (fun k hk => by rw [i1 k (by omega), hkm k (by omega)]) (by rw [i1 64 (by omega)]; exact h64) hh hj (by omega) hk hk80
    have w2 : f12_worthOf M1 (nI j) cx 0 = some (wI (wP n R h j 0 k), M2) := w2
    have step : f12_askedOf_8_s t M1 (nI h) x (nI j) = if wI (wP n R h j 0 k) = 2 then t M2 (nI h) (x &&& ((1 <<< (nI j &&& 31)) ^^^ (-1))) (nI (j + 1)) else t M2 (nI h) (x &&& (-1)) (nI (j + 1)) := by
      unfold f12_askedOf_8_s f12_askedOf_39
      rw [if_pos (by rw [q_6, q_lt (by omega) (by omega)]; exact hj), w1, o1_some, w2, o2_some, q_succ]
    have sc : scr M2 M := fun q hq => by rw [w3 q hq, i1 q hq]
    by_cases c : wI (wP n R h j 0 k) = 2
    · refine ⟨(M2, x &&& ((1 <<< (nI j &&& 31)) ^^^ (-1))), ⟨sc, fun i hi => ?_⟩, by show f12_askedOf_8_s t M1 (nI h) x (nI j) = _; rw [step, if_pos c]⟩
      show bt (x &&& ((1 <<< (nI j &&& 31)) ^^^ (-1))) i = _
      rw [b_and, b_not _ hi, b_shl1 j (by omega) i hi, i2 i hi]
      by_cases e : i = j
      · subst e; simp [c]
      · by_cases e2 : i < j
        · simp [e, e2, show i < j + 1 by omega]
        · simp [e, e2, show ¬ i < j + 1 by omega]
    · refine ⟨(M2, x &&& (-1)), ⟨sc, fun i hi => ?_⟩, by show f12_askedOf_8_s t M1 (nI h) x (nI j) = _; rw [step, if_neg c]⟩
      show bt (x &&& (-1)) i = _
      rw [b_and, b_m1 i hi, i2 i hi]
      by_cases e : i = j
      · subst e; simp [c]
      · by_cases e2 : i < j
        · simp [e2, show i < j + 1 by omega]
        · simp [e2, show ¬ i < j + 1 by omega]
  · rintro t ⟨M1, x⟩ _
    show f12_askedOf_8_s t M1 (nI h) x (nI 6) = _
    unfold f12_askedOf_8_s
    rw [if_neg (by rw [q_6, q_lt (by omega) (by omega)]; omega)]
theorem Rn_pass {n : Nat} {gh : rC_gh} {C R : rv_Mem} (hR : Rn n gh C R) {h p : Nat} (hh : h < gh.1 0) (hp : p < 6) (ask : Bool) : ∃ C1 C2 R1 R2, f11_passTurns gh C (nI p) (100 + h) ask = some C1 ∧ f11_noteAct gh C1 (nI p) (100 + h) = some C2 ∧ f12_tells R (nI h) (nI p) = some R1 ∧ f12_turnsOn R1 (nI h) (nI p) (!ask) = some R2 ∧ Rn n gh C2 R2 ∧ R2 66 = R 66 ∧ C2 (100 + h) 4 = C (100 + h) 4 ∧ R2 14 = R 14 := by
  have hc := hR.ch20
  obtain ⟨k, k1, k2, k3, k4, -⟩ := hR.sets hh
  obtain ⟨a1, ⟨o, o1, o2, o3⟩, ⟨r, r1, r2, r3, r4⟩, ⟨s, s1, s2, s3⟩, a5, a6, a7, a8, a9⟩ := hR.chg h hh
  obtain ⟨dd, dd1, dd2, dd3⟩ := hR.mis.2.2
  -- the reference tells
  obtain ⟨R1, t1, t2, t3, t4, t5⟩ := s12_tells (M := R) (h := h) (r := r) (by omega) (hR.rv hh) (hR.repoM (fun _ _ => rfl) hh r2 r1) r1 (nI p)
  -- both give turns: the same set
  have turns : ∃ x C1 R2, f11_passTurns gh C (nI p) (100 + h) ask = some C1 ∧ f12_turnsOn R1 (nI h) (nI p) (!ask) = some R2 ∧ (∀ q, q ≠ 100 + h → C1 q = C q) ∧ (∀ j, j ≠ 10 → C1 (100 + h) j = C (100 + h) j) ∧ C1 (100 + h) 10 = x ∧ (∀ q, q ≠ 20 → (q < 53 ∨ 61 < q) → R2 q = R1 q) ∧ R2 20 h = x ∧ (∀ q, q ≠ h → R2 20 q = R1 20 q) := by
    have n0 : ∀ j, j ≠ 10 → (rv_u C (100 + h) 10 (C (100 + h) 10 &&& (((1 : Int32) <<< (nI p &&& 31)) ^^^ (-1)))) (100 + h) j = C (100 + h) j := fun j hj => mu_ne2 hj
    have eC : f11_passTurns gh C (nI p) (100 + h) ask = (if ¬ nI p = nI o then f0_giveTurns gh (rv_u C (100 + h) 10 (C (100 + h) 10 &&& (((1 : Int32) <<< (nI p &&& 31)) ^^^ (-1)))) (100 + h) ((1 : Int32) <<< (nI o &&& 31)) else (if ask = true then rv_o1 (f10_peopleWith gh (rv_u C (100 + h) 10 (C (100 + h) 10 &&& (((1 : Int32) <<< (nI p &&& 31)) ^^^ (-1)))) (100 + h) 0 2) (fun r6 => f0_giveTurns gh (rv_u C (100 + h) 10 (C (100 + h) 10 &&& (((1 : Int32) <<< (nI p &&& 31)) ^^^ (-1)))) (100 + h) (C (100 + h) 9 &&& (r6 ^^^ (-1)))) else some (rv_u C (100 + h) 10 (C (100 + h) 10 &&& (((1 : Int32) <<< (nI p &&& 31)) ^^^ (-1)))))) := by
      unfold f11_passTurns
      rw [if_pos (is1 hh hc)]
      simp only [lt_do, n0 1 (by omega), n0 9 (by omega), o2]
      have id1 : ∀ X : Option rv_Mem, rv_o1 X (fun M4 => some M4) = X := fun X => by cases X <;> rfl
      simp only [id1]
    have v12 : R1 12 = R 12 := t2 12 (by omega) (by omega)
    have v20 : R1 20 = R 20 := t2 20 (by omega) (by omega)
    have eR : f12_turnsOn R1 (nI h) (nI p) (!ask) = (if ¬ nI p = nI o then f12_givesTurns (rv_u R1 20 h (R 20 h &&& ((1 <<< (nI p &&& 31)) ^^^ (-1)))) (nI h) (1 <<< (nI o &&& 31)) else (if (!ask) = false then rv_o2 (f12_askedOf (rv_u R1 20 h (R 20 h &&& ((1 <<< (nI p &&& 31)) ^^^ (-1)))) (nI h)) (fun r5 M6 => f12_givesTurns M6 (nI h) r5) else some (rv_u R1 20 h (R 20 h &&& ((1 <<< (nI p &&& 31)) ^^^ (-1)))))) := by
      unfold f12_turnsOn
      have hin : rv_in (nI h) 20 = true := q_inb (by omega) (by omega)
      have id1 : ∀ X : Option rv_Mem, rv_o1 X (fun M4 => some M4) = X := fun X => by cases X <;> rfl
      simp only [hin, if_true, lt_do, q_nc (show h < 2147483648 by omega), v20, mu_ne (show 12 ≠ 20 by omega), v12, o3, id1]
    have gC : ∀ x, ∃ C1, f0_giveTurns gh (rv_u C (100 + h) 10 (C (100 + h) 10 &&& (((1 : Int32) <<< (nI p &&& 31)) ^^^ (-1)))) (100 + h) x = some C1 ∧ (∀ q, q ≠ 100 + h → C1 q = C q) ∧ (∀ j, j ≠ 10 → C1 (100 + h) j = C (100 + h) j) ∧ C1 (100 + h) 10 = gvT (nI s) (C (100 + h) 6) (C (100 + h) 10 &&& (((1 : Int32) <<< (nI p &&& 31)) ^^^ (-1))) x := fun x => by
      obtain ⟨C1, g1, g2, g3, g4⟩ := s0_giveTurns (gh := gh) (C := rv_u C (100 + h) 10 (C (100 + h) 10 &&& (((1 : Int32) <<< (nI p &&& 31)) ^^^ (-1)))) hh hc x
      refine ⟨C1, g1, fun q hq => by rw [g2 q hq, mu_ne hq], fun j hj => by rw [g3 j hj, mu_ne2 hj], ?_⟩
      rw [g4, n0 5 (by omega), n0 6 (by omega), mu_same, s2]
    have gR : ∀ M x, (∀ q, q ≠ 20 → (q < 53 ∨ 61 < q) → M q = R1 q) → M 20 h = R 20 h &&& ((1 <<< (nI p &&& 31)) ^^^ (-1)) → (∀ q, q ≠ h → M 20 q = R1 20 q) → ∃ R2, f12_givesTurns M (nI h) x = some R2 ∧ (∀ q, q ≠ 20 → (q < 53 ∨ 61 < q) → R2 q = R1 q) ∧ R2 20 h = gvT (nI s) (R 15 h) (R 20 h &&& ((1 <<< (nI p &&& 31)) ^^^ (-1))) x ∧ (∀ q, q ≠ h → R2 20 q = R1 20 q) := fun M x m1 m2 m3 => by
      refine ⟨_, s12_givesTurns (by omega) x, fun q h1 h2 => by rw [mu_ne h1, m1 q h1 h2], ?_, fun q hq => by rw [mu_ne2 hq, m3 q hq]⟩
      rw [mu_same, m2, m1 13 (by omega) (by omega), m1 15 (by omega) (by omega), t2 13 (by omega) (by omega), t2 15 (by omega) (by omega), s3]
    have sameT : ∀ x, gvT (nI s) (C (100 + h) 6) (C (100 + h) 10 &&& (((1 : Int32) <<< (nI p &&& 31)) ^^^ (-1))) x = gvT (nI s) (R 15 h) (R 20 h &&& ((1 <<< (nI p &&& 31)) ^^^ (-1))) x := fun x => by rw [a8]; exact gvT_cong a5
    by_cases ep : p = o
    · subst ep
      rw [if_neg (fun z => z rfl)] at eC eR
      cases ask with
      | true =>
        rw [if_pos rfl] at eC
        rw [if_pos (show (!true) = false from rfl)] at eR
        obtain ⟨x, x1, x2⟩ := hR.pw (C1 := rv_u C (100 + h) 10 (C (100 + h) 10 &&& (((1 : Int32) <<< (nI p &&& 31)) ^^^ (-1)))) (l := 0) hh (by omega) k4 k2 k1 2 (n0 4 (by omega)) (mu_ne (by omega)) (mu_ne (by omega)) (mu_ne (by omega)) (mu_ne (by omega))
        have x1 : f10_peopleWith gh (rv_u C (100 + h) 10 (C (100 + h) 10 &&& (((1 : Int32) <<< (nI p &&& 31)) ^^^ (-1)))) (100 + h) 0 2 = some x := x1
        obtain ⟨y, M6, y1, y2, y3⟩ := hR.asked (M := rv_u R1 20 h (R 20 h &&& ((1 <<< (nI p &&& 31)) ^^^ (-1)))) (fun q hq => by rw [mu_ne (by omega), t2 q (by omega) (by omega)]) (by rw [mu_ne (by omega), t2 64 (by omega) (by omega)]; exact hR.h64) hh k4 k2
        have exy : C (100 + h) 9 &&& (x ^^^ (-1)) = y := by
          apply b_ext
          intro i hi
          rw [b_and, b_not _ hi, x2 i hi, y3 i hi]
        obtain ⟨C1, g1, g2, g3, g4⟩ := gC y
        obtain ⟨R2, j1, j2, j3, j4⟩ := gR M6 y (fun q h1 h2 => by rw [y2 q h2, mu_ne h1]) (by rw [y2 20 (by omega), mu_same]) (fun q hq => by rw [y2 20 (by omega), mu_ne2 hq])
        refine ⟨_, C1, R2, ?_, ?_, g2, g3, g4, j2, by rw [j3, sameT], j4⟩
        · rw [eC, x1, o1_some, exy, g1]
        · rw [eR, y1, o2_some, j1]
      | false =>
        rw [if_neg (by simp)] at eC
        rw [if_neg (show ¬ (!false) = false by simp)] at eR
        refine ⟨_, _, _, eC, eR, fun q hq => mu_ne hq, fun j hj => mu_ne2 hj, mu_same _ _ _ _, fun q h1 _ => mu_ne h1, by rw [mu_same, a8], fun q hq => mu_ne2 hq⟩
    · have en : ¬ nI p = nI o := by rw [q_eq (by omega) (by omega)]; exact ep
      rw [if_pos en] at eC eR
      obtain ⟨C1, g1, g2, g3, g4⟩ := gC ((1 : Int32) <<< (nI o &&& 31))
      obtain ⟨R2, j1, j2, j3, j4⟩ := gR (rv_u R1 20 h (R 20 h &&& ((1 <<< (nI p &&& 31)) ^^^ (-1)))) (1 <<< (nI o &&& 31)) (fun q h1 h2 => mu_ne h1) (mu_same _ _ _ _) (fun q hq => mu_ne2 hq)
      exact ⟨_, C1, R2, by rw [eC, g1], by rw [eR, j1], g2, g3, g4, j2, by rw [j3, sameT], j4⟩
  obtain ⟨x, C1, R2, p1, p2, p3, p4, p5, p6, p7, p8⟩ := turns
  obtain ⟨C2, c1, c2, c3, c4, c5⟩ := s11_noteAct (gh := gh) (C := C1) hh hc r1 (by rw [p4 2 (by omega)]; exact r2) (nI p)
  have v : ∀ q, q ≠ 20 → q ≠ 21 → q ≠ 51 → (q < 53 ∨ 61 < q) → R2 q = R q := fun q h1 h2 h3 h4 => by rw [p6 q h1 h4, t2 q h3 h2]
  have cf : ∀ j, j ≠ 10 → j ≠ 11 → C2 (100 + h) j = C (100 + h) j := fun j h1 h2 => by rw [c3 j h2, p4 j h1]
  have v21 : R2 21 h = nI dd := by rw [p6 21 (by omega) (by omega), t4, dd3]
  refine ⟨C1, C2, R1, R2, p1, c1, t1, p2, ?_, v 66 (by omega) (by omega) (by omega) (by omega), cf 4 (by omega) (by omega), v 14 (by omega) (by omega) (by omega) (by omega)⟩
  refine Rn_ch1 hR hh (fun q h1 h2 => by rw [c2 q h1 h2, p3 q h2]) (cf 4 (by omega) (by omega)) (fun q hq => v q (by omega) (by omega) (by omega) (by omega)) (fun q i hq hi => ?_) (by rw [v 64 (by omega) (by omega) (by omega) (by omega)]; exact hR.h64) ?_ (fun z => by rw [v 13 (by omega) (by omega) (by omega) (by omega)]; exact z) ?_ ?_
  · by_cases e20 : q = 20
    · subst e20; rw [p8 i hi, t2 20 (by omega) (by omega)]
    · by_cases e21 : q = 21
      · subst e21; rw [p6 21 (by omega) (by omega), t5 i hi]
      · rw [v q e20 e21 (by omega) (by omega)]
  · unfold chg1
    rw [cf 0 (by omega) (by omega), cf 1 (by omega) (by omega), cf 2 (by omega) (by omega), cf 5 (by omega) (by omega), cf 6 (by omega) (by omega), cf 7 (by omega) (by omega), cf 8 (by omega) (by omega), cf 12 (by omega) (by omega), v 12 (by omega) (by omega) (by omega) (by omega), v 5 (by omega) (by omega) (by omega) (by omega), v 1 (by omega) (by omega) (by omega) (by omega), v 13 (by omega) (by omega) (by omega) (by omega), v 18 (by omega) (by omega) (by omega) (by omega), v 15 (by omega) (by omega) (by omega) (by omega), v 16 (by omega) (by omega) (by omega) (by omega), v 17 (by omega) (by omega) (by omega) (by omega), v 52 (by omega) (by omega) (by omega) (by omega), p7, v21]
    refine ⟨a1, ⟨o, o1, o2, o3⟩, ⟨r, r1, r2, r3, r4⟩, ⟨s, s1, s2, s3⟩, a5, a6, a7, by rw [c3 10 (by omega), p5], dd, by rw [dd3, q_nc (by omega)]; exact Nat.le_refl _, rfl, fun _ => ?_⟩
    rw [c4, p3 0 (by omega), dd2]
  · intro i hi
    rw [cf 9 (by omega) (by omega), v 5 (by omega) (by omega) (by omega) (by omega), v 12 (by omega) (by omega) (by omega) (by omega), v 19 (by omega) (by omega) (by omega) (by omega), v 22 (by omega) (by omega) (by omega) (by omega), v 25 (by omega) (by omega) (by omega) (by omega), v 26 (by omega) (by omega) (by omega) (by omega), v 32 (by omega) (by omega) (by omega) (by omega)]
    exact hR.rev h hh i hi
  · intro q hq
    rw [c5 q, p6 51 (by omega) (by omega), t3 q, p4 9 (by omega), p4 1 (by omega), p4 7 (by omega), p4 6 (by omega), p3 13 (by omega), p3 12 (by omega), a5, a6, o2, o3, hR.mis.1 r r1]
    exact mlU_cong (hR.mis.2.1 q hq)
