/-! LANDING: one change, case by case -/
theorem s5_tryHead {gh : rC_gh} {M : rv_Mem} {i r t c w : Nat} (hc : gh.1 0 ≤ 20) (hi : i < gh.1 0) (hr : r < 2) (h2 : M 16 c = nI r) (h22 : M 22 r = nI t) (h23 : M 23 i = nI c) (h51 : M 51 r = nI w) (hc8 : c < 82) : f5_tryOne gh M (nI i) = (if nI w = 0 then rv_o1 (f9_write gh M 52 (nI i) (nI c)) (fun M9 => rv_o1 (f9_write gh M9 22 (nI r) (nI c)) (fun M11 => rv_o1 (f9_baseOf gh M11 (nI c)) (fun r13 => (if r13 = nI t then (some (true, M11)) else (some (false, M11)))))) else (if bt (M 6 5) i = true then (some (true, M)) else rv_o1 (f9_isFull gh M) (fun r17 => (if r17 = false then rv_o1 (f5_mergeBaseOf gh M (nI i)) (fun r19 => rv_o2 (f2_mergeRows gh M r19 (nI c) (nI t)) (fun r21 M22 => (if r21 = false then (some (false, M22)) else rv_o2 (f9_addCommit gh M22 81 (nI r) (nI t)) (fun r24 M25 => rv_o1 (f9_write gh M25 22 (nI r) r24) (fun M27 => rv_o1 (f5_standFor gh M27 (nI i) r24) (fun M29 => (some (true, M29)))))))) else (some (false, M)))))) := by
  unfold f5_tryOne f9_tipOf f9_currentOf f9_repositoryOf
  rw [s9_read (L := 20) (show i < 20 by omega) rfl rfl (by omega), o1_some, o1_some, h23, s9_read (L := 82) hc8 rfl rfl (by omega), o1_some, o1_some, h2, s9_read (L := 2) hr rfl rfl (by omega), o1_some, o1_some, h22, s9_read (L := 2) hr rfl rfl (by omega), o1_some, h51, s11_isIn (by omega), o1_some]
theorem s5_try0 {gh : rC_gh} {M : rv_Mem} {i r t c b : Nat} (hc : gh.1 0 ≤ 20) (hi : i < gh.1 0) (hr : r < 2) (h2 : M 16 c = nI r) (h22 : M 22 r = nI t) (h23 : M 23 i = nI c) (h51 : M 51 r = nI 0) (h17 : M 17 c = nI b) (hc8 : c < 82) (ht : t < 82) (hb : b < 82) : f5_tryOne gh M (nI i) = some (decide (b = t), rv_u (rv_u M 52 i (nI c)) 22 r (nI c)) := by
  rw [s5_tryHead hc hi hr h2 h22 h23 h51 hc8, if_pos (show nI 0 = 0 from rfl), s9_write (L := 20) (show i < 20 by omega) rfl rfl (by omega), o1_some, s9_write (L := 2) hr rfl rfl (by omega), o1_some]
  unfold f9_baseOf
  rw [s9_read (L := 82) hc8 rfl rfl (by omega), o1_some, o1_some, mu_ne (by omega), mu_ne (by omega), h17]
  by_cases e : b = t
  · rw [if_pos (show nI b = nI t by rw [e]), decide_eq_true e]
  · rw [if_neg (show ¬ nI b = nI t by rw [q_eq (by omega) (by omega)]; exact e), decide_eq_false e]
theorem s12_lands0 {S : rv_Mem} {i r t c b : Nat} {g : Int32} (hr : r < 2) (hrp : f12_repoOf S (nI i) = some (nI r)) (hcu : f12_current S (nI i) = some (nI c)) (h10 : S 10 r = 0) (h9 : S 9 r = nI t) (h2 : S 2 c = nI b) (hc8 : c < 82) (ht : t < 82) (hb : b < 82) : f12_landsOne S (nI i) g = if b = t then some (nI c, rv_u S 9 r (nI c)) else some (-2, rv_u S 9 r (nI t)) := by
  have r2 : rv_in (nI r) 2 = true := q_inb hr (by omega)
  have c82 : rv_in (nI c) 82 = true := q_inb hc8 (by omega)
  unfold f12_landsOne f12_landsOne_54
  rw [hrp, o1_some, if_pos r2, hcu, o1_some, if_pos r2, q_nc (show r < 2147483648 by omega), h10, if_pos rfl, if_pos c82, q_nc (show c < 2147483648 by omega), h2, h9]
  by_cases e : b = t
  · rw [if_pos (show nI b = nI t by rw [e]), if_pos r2, lt_do, if_pos c82, mu_ne (by omega), h2, if_pos (show nI b = nI t by rw [e]), if_pos e]
  · have ne : ¬ nI b = nI t := by rw [q_eq (by omega) (by omega)]; exact e
    rw [if_neg ne, if_pos r2, lt_do, if_pos c82, mu_ne (by omega), h2, if_neg ne, if_neg e]
theorem s5_trySq {gh : rC_gh} {M : rv_Mem} {i r t c w : Nat} (hc : gh.1 0 ≤ 20) (hi : i < gh.1 0) (hr : r < 2) (h2 : M 16 c = nI r) (h22 : M 22 r = nI t) (h23 : M 23 i = nI c) (h51 : M 51 r = nI w) (hw : w < 3) (hw0 : w ≠ 0) (hs : bt (M 6 5) i = true) (hc8 : c < 82) : f5_tryOne gh M (nI i) = some (true, M) := by
  rw [s5_tryHead hc hi hr h2 h22 h23 h51 hc8, if_neg (show ¬ nI w = 0 by rw [q_0, q_eq (by omega) (by omega)]; exact hw0), if_pos hs]
theorem s12_landsSq {S : rv_Mem} {i r c : Nat} {g : Int32} (hr : r < 2) (hrp : f12_repoOf S (nI i) = some (nI r)) (hcu : f12_current S (nI i) = some (nI c)) (h10 : S 10 r = nI 2) (hh : f12_hasChild S (nI i) g = some true) : f12_landsOne S (nI i) g = some (-1, S) := by
  have r2 : rv_in (nI r) 2 = true := q_inb hr (by omega)
  unfold f12_landsOne
  rw [hrp, o1_some, if_pos r2, hcu, o1_some, if_pos r2, q_nc (show r < 2147483648 by omega), h10, if_neg (show ¬ nI 2 = 0 by decide), if_pos r2, if_pos (show nI 2 = 2 from rfl), hh, o1_some, if_pos rfl]
theorem s12_landsM {S : rv_Mem} {i r c t w b : Nat} {g : Int32} {P : Nat → Int32} (hr : r < 2) (hrp : f12_repoOf S (nI i) = some (nI r)) (hcu : f12_current S (nI i) = some (nI c)) (hc8 : c < 82) (h10 : S 10 r = nI w) (hw : w < 3) (hw0 : w ≠ 0) (hh : w = 2 → f12_hasChild S (nI i) g = some false) (h9 : S 9 r = nI t) (h2 : S 2 c = nI b) (hP : f12_parent S (nI i) = some (P i)) : f12_landsOne S (nI i) g = f12_landsOne_112 rv_FU S g (nI r) (nI t) (nI c) (nI b) (P i) := by
  have r2 : rv_in (nI r) 2 = true := q_inb hr (by omega)
  have c82 : rv_in (nI c) 82 = true := q_inb hc8 (by omega)
  unfold f12_landsOne f12_landsOne_96
  rw [hrp, o1_some, if_pos r2, hcu, o1_some, if_pos r2, q_nc (show r < 2147483648 by omega), h10, if_neg (show ¬ nI w = 0 by rw [q_0, q_eq (by omega) (by omega)]; exact hw0), if_pos r2, h9, if_pos c82, hP, o1_some, q_nc (show c < 2147483648 by omega), h2]
  by_cases e : w = 2
  · rw [if_pos (show nI w = 2 by rw [e]; rfl), hh e, o1_some, if_neg (by simp)]
  · rw [if_neg (show ¬ nI w = 2 by rw [q_2, q_eq (by omega) (by omega)]; exact e)]
/-- without way 2 the base is one's own -/
theorem s12_base1 {S : rv_Mem} {g x : Int32} {r t c b w : Nat} (hr : r < 2) (h10 : S 10 r = nI w) (hw : w < 3) (hw2 : w ≠ 2) : f12_landsOne_112 rv_FU S g (nI r) (nI t) (nI c) (nI b) x = f12_landsOne_161 S (nI r) (nI t) (nI c) (nI b) := by
  show rv_fx _ (f12_landsOne_112_s) rv_FU S g (nI r) (nI t) (nI c) (nI b) x = _
  rw [fx_FU]
  generalize rv_fx _ (f12_landsOne_112_s) 99999 = T
  unfold f12_landsOne_112_s
  rw [if_pos (q_inb hr (by omega)), q_nc (by omega), h10, if_neg (show ¬ nI w = 2 by rw [q_2, q_eq (by omega) (by omega)]; exact hw2)]
theorem cg_sq {ch : Nat} {P : Nat → Int32} {wy : Nat → Nat} {g sq : Int32} (hc : ch ≤ 20) (hV : parV ch P) (hsq : ∀ p, p < 32 → (bt sq p = true ↔ sqd ch P wy g p)) (hwy : ∀ i p, i < ch → p < ch → P i = nI p → wy i = wy p) {i : Nat} (hi : i < ch) (hg : bt g i = true) : (wy i = 2 → cg P sq i = cg P g i) ∧ (wy i ≠ 2 → cg P sq i = NO) := by
  rcases hV i hi with z | ⟨p, p1, p2⟩
  · exact ⟨fun _ => by rw [cg_out (Or.inl z), cg_out (Or.inl z)], fun _ => cg_out (Or.inl z)⟩
  · constructor
    · intro h2
      cases hb : bt g p with
      | true => rw [cg_in (by omega) p2 hb, cg_in (by omega) p2 ((hsq p (by omega)).mpr ⟨i, hi, hg, p2, hb, h2⟩)]
      | false =>
        rw [cg_out (Or.inr ⟨p, by omega, p2, hb⟩)]
        refine cg_out (Or.inr ⟨p, by omega, p2, ?_⟩)
        cases hs : bt sq p with
        | false => rfl
        | true =>
          obtain ⟨j, j1, j2, j3, j4, j5⟩ := (hsq p (by omega)).mp hs
          rw [hb] at j4; cases j4
    · intro h2
      refine cg_out (Or.inr ⟨p, by omega, p2, ?_⟩)
      cases hs : bt sq p with
      | false => rfl
      | true =>
        obtain ⟨j, j1, j2, j3, j4, j5⟩ := (hsq p (by omega)).mp hs
        exact absurd ((hwy i p hi p1 p2).trans ((hwy j p j1 p1 j3).symm.trans j5)) h2
