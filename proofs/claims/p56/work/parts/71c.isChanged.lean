/-! isChanged, and the loops of areFacts -/
theorem ln_ext {A B : List Int32} (hA : A.length ≤ 10) (hB : B.length ≤ 10) (vA : ∀ p, p < A.length → ln A p ≠ NO) (vB : ∀ p, p < B.length → ln B p ≠ NO) (h : ∀ j, j < 10 → ln A j = ln B j) : A = B := by
  have hl : A.length = B.length := by
    rcases Nat.lt_trichotomy A.length B.length with h1 | h1 | h1
    · have e := h A.length (by omega)
      rw [ln_ge (Nat.le_refl _)] at e
      exact absurd e.symm (vB _ h1)
    · exact h1
    · have e := h B.length (by omega)
      rw [ln_ge (A := B) (Nat.le_refl _)] at e
      exact absurd e (vA _ h1)
  apply List.ext_getElem hl
  intro i h1 h2
  have e := h i (by omega)
  rw [lnN, lnN, dif_pos h1, dif_pos h2] at e
  exact e
section
variable {n : Nat} {gh : rC_gh} {C R A : rv_Mem}
theorem fl_val (hR : Rn n gh C R) {c f : Nat} (hc : c < n ∨ c = 80) (hf : f < 4) : ∀ p, p < (fl R c f).length → ln (fl R c f) p ≠ NO := fun p hp => by
  obtain ⟨v, v1, v2⟩ := ln_v hR hc hf hp
  rw [v2, ne_eq, q_no_eq (by omega)]; exact id
theorem fl_iff (hR : Rn n gh C R) {c c' f : Nat} (hc : c < n ∨ c = 80) (hc' : c' < n ∨ c' = 80) (hf : f < 4) : (∀ j, j < 10 → ln (fl R c f) j = ln (fl R c' f) j) ↔ fl R c f = fl R c' f :=
  ⟨fun h => ln_ext (fl_10 hR hc hf) (fl_10 hR hc' hf) (fl_val hR hc hf) (fl_val hR hc' hf) h, fun h j _ => by rw [h]⟩
theorem ic_loop (hR : Rn n gh C R) {c b f : Nat} (hc : c < n) (hb : b < n) (hf : f < 4) : ∀ d p fuel (w : Bool), p + d = 10 → d < fuel → gp_isChanged_19 gh A fuel C (nI f) (nI c) (nI b) w (nI p) = some (w || !ar (fun j => decide (ln (fl R c f) j = ln (fl R b f) j)) p d, C)
  | d, p, 0, w, _, h2 => absurd h2 (Nat.not_lt_zero _)
  | 0, p, fuel + 1, w, h1, _ => by
    show gp_isChanged_19_s gh A (gp_isChanged_19 gh A fuel) C (nI f) (nI c) (nI b) w (nI p) = _
    unfold gp_isChanged_19_s
    rw [if_neg (by rw [q_10, q_lt (by omega) (by omega)]; omega)]
    cases w <;> rfl
  | d + 1, p, fuel + 1, w, h1, h2 => by
    show gp_isChanged_19_s gh A (gp_isChanged_19 gh A fuel) C (nI f) (nI c) (nI b) w (nI p) = _
    unfold gp_isChanged_19_s gp_isChanged_51 gp_isChanged_56
    rw [if_pos (by rw [q_10, q_lt (by omega) (by omega)]; omega), q_succ]
    have ih := fun w => ic_loop hR hc hb hf d (p + 1) fuel w (by omega) (by omega)
    show _ = some (w || !(decide (ln (fl R c f) p = ln (fl R b f) p) && ar (fun j => decide (ln (fl R c f) j = ln (fl R b f) j)) (p + 1) d), C)
    cases w with
    | true => rw [if_neg (by simp), ih]; rfl
    | false =>
      rw [if_pos rfl, ak_line hR (Or.inl ⟨hc, rfl⟩) hf (by omega), x1k, ak_line hR (Or.inl ⟨hb, rfl⟩) hf (by omega), x1k]
      by_cases q : ln (fl R c f) p = ln (fl R b f) p
      · rw [if_neg (fun z => z q), ih, decide_eq_true q]; rfl
      · rw [if_pos q, ih, decide_eq_false q]; rfl
theorem ak_changed (hR : Rn n gh C R) {m f : Nat} (h : m < gh.1 0) (hf : f < 4) {c b : Nat} (ec : curS n R m = nI c) (hc : c < n) (eb : R 2 c = nI b) (hb : b < n) : gp_isChanged gh C A (nI m) (nI f) = some (!decide (fl R c f = fl R b f), C) := by
  have hn := hR.n80
  obtain ⟨k, c', b', -, -, -, -, c2, -, -, -, c7, -, -, -, e⟩ := ak_now (A := A) hR h
  have e1 : c' = c := by rw [ec, q_eq (by omega) (by omega)] at c7; exact c7.symm
  subst e1
  unfold gp_isChanged
  rw [e, o2_some, ak_before hR (Or.inl ⟨hc, rfl⟩), x1k, eb]
  have L := ic_loop (A := A) hR hc hb hf 10 0 rv_FU false rfl (FU_lt (by omega))
  refine Eq.trans L ?_
  congr 2
  have hi := fl_iff hR (f := f) (Or.inl hc) (Or.inl hb) hf
  by_cases q : fl R c' f = fl R b f
  · rw [decide_eq_true q, (ar_iff _ _).mpr (fun j _ hj => decide_eq_true (hi.mpr q j (by omega)))]; rfl
  · rw [decide_eq_false q]
    have : ar (fun j => decide (ln (fl R c' f) j = ln (fl R b f) j)) 0 10 = false := by
      cases e : ar (fun j => decide (ln (fl R c' f) j = ln (fl R b f) j)) 0 10 with
      | false => rfl
      | true => exact absurd (hi.mp (fun j hj => of_decide_eq_true ((ar_iff _ _).mp e j (by omega) (by omega)))) q
    rw [this]; rfl
/-- one person's votes are looked at -/
theorem af_step (hR : Rn n gh C R) {h k p : Nat} (hh : h < gh.1 0) (k4 : R 14 h = nI k) (k1 : 1 ≤ k) (k2 : k ≤ 80) (hp : p < 6) (T : rv_Mem → Int32 → Int32 → Int32 → Int32 → Int32 → Int32 → Int32 → Option (Bool × rv_Mem)) (two low yes no : Int32) :
    gp_areFacts_23_s gh A T C (nI h) two low yes no (nI (k - 1)) (nI p) = T C (nI h) (two ||| (if wI (wP n R h p 0 k) = 2 then (1 : Int32) <<< (nI p &&& 31) else 0)) (low + rv_i (decide (wI (wP n R h p 0 k) = -2))) (yes + rv_i (decide (wI (wP n R h p 1 k) = 1))) (no + rv_i (decide (wI (wP n R h p 1 k) = -1))) (nI (k - 1)) (nI (p + 1)) := by
  have w0 : f11_worth gh C (nI p) (nI h) (nI (k - 1)) 0 = some (.inl (wI (wP n R h p 0 k))) := by
    have := ak_worth hR hh k4 k2 (show k - 1 < k by omega) hp (show 0 < 2 by omega)
    rw [show k - 1 + 1 = k by omega] at this
    exact this
  have w1 : f11_worth gh C (nI p) (nI h) (nI (k - 1)) 1 = some (.inl (wI (wP n R h p 1 k))) := by
    have := ak_worth hR hh k4 k2 (show k - 1 < k by omega) hp (show 1 < 2 by omega)
    rw [show k - 1 + 1 = k by omega] at this
    exact this
  unfold gp_areFacts_23_s
  rw [if_pos (by rw [q_6, q_lt (by omega) (by omega)]; omega), w0, x1k, w1, x1k]
  generalize wI (wP n R h p 0 k) = x
  generalize wI (wP n R h p 1 k) = y
  unfold gp_areFacts_69 gp_areFacts_85 gp_areFacts_101 gp_areFacts_117
  rw [q_succ]
  by_cases c1 : x = 2 <;> by_cases c2 : x = -2 <;> by_cases c3 : y = 1 <;> by_cases c4 : y = -1 <;> simp only [c1, c2, c3, c4, if_true, if_false, decide_true, decide_false] <;> rfl
end
