/-! THE MERGED FILE, the reference: filling, and what a place does -/
def rowst (M : rv_Mem) (out : List Int32) : Prop := M 63 0 = nI out.length ∧ ∀ p, p < out.length → M 62 p = out.getD p 0
def f63 (M M0 : rv_Mem) : Prop := ∀ q, q ≠ 62 → q ≠ 63 → M q = M0 q
theorem getD_app {X Y : List Int32} {p : Nat} (h : p < X.length) : (X ++ Y).getD p 0 = X.getD p 0 := by
  rw [List.getD_eq_getElem?_getD, List.getD_eq_getElem?_getD, List.getElem?_append_left h]
theorem s12_fills {M : rv_Mem} {c f a n : Nat} {X out : List Int32} (h64 : rv_z (M 64 0) = false) (hc : c < 82) (hf : f < 4) (hX : fileR M c f X) (hr : rowst M out) (han : a + n ≤ X.length) (hl : out.length + n ≤ 24) : ∃ M', f12_fills M (nI c) (nI f) (nI a) (nI n) = some M' ∧ rowst M' (out ++ sl X a n) ∧ f63 M' M := by
  have lX := hX.1
  have L := rv_ui (z := (fun _ _ _ _ _ _ => none)) (F := f12_fills_3_s) (fun t j M => t M (nI c) (nI f) (nI a) (nI n) (nI j)) n (fun j M' => rowst M' (out ++ sl X a j) ∧ f63 M' M) some ?_ ?_ rv_FU 0 M (Nat.zero_le _) (FU_lt (by omega)) ⟨by unfold sl; simpa using hr, fun _ _ _ => rfl⟩
  · obtain ⟨M', ⟨x1, x2⟩, x3⟩ := L
    exact ⟨M', x3, x1, x2⟩
  · rintro t j M' hj ⟨i1, i2⟩
    have ln : (out ++ sl X a j).length = out.length + j := by rw [List.length_append, sl_len (by omega)]
    have r63 : M' 63 0 = nI (out.length + j) := by rw [i1.1, ln]
    have la : f12_lineAt M' (nI c) (nI f) (nI (a + j)) = some (X.getD (a + j) 0) := by
      rw [s12_lineAt (by rw [i2 64 (by omega) (by omega)]; exact h64) hc hf (by omega), i2 4 (by omega) (by omega), hX.2.2 (a + j) (by omega)]
    refine ⟨rv_u (rv_u M' 62 (out.length + j) (X.getD (a + j) 0)) 63 0 (nI (out.length + j + 1)), ⟨⟨?_, fun p hp => ?_⟩, fun q q1 q2 => by rw [mu_ne q2, mu_ne q1]; exact i2 q q1 q2⟩, ?_⟩
    · rw [mu_same, List.length_append, sl_len (by omega)]; rfl
    · rw [mu_ne (by omega)]
      rw [sl_succ (by omega), ← List.append_assoc] at hp ⊢
      rw [List.length_append, ln, List.length_singleton] at hp
      by_cases e : p = out.length + j
      · subst e
        rw [mu_same, List.getD_eq_getElem?_getD (l := _ ++ _), List.getElem?_append_right (by omega), ln, Nat.sub_self]
        rfl
      · rw [mu_ne2 e, getD_app (by omega)]
        exact i1.2 p (by omega)
    · show f12_fills_3_s t M' (nI c) (nI f) (nI a) (nI n) (nI j) = _
      unfold f12_fills_3_s
      rw [if_pos (by rw [q_lt (by omega) (by omega)]; exact hj), q_add, la, o1_some, r63, if_pos (q_inb (by omega) (by omega)), q_nc (by omega), lt_do, mu_ne (by omega), r63, q_succ, lt_do, q_succ]
  · rintro t M' ⟨i1, i2⟩
    show f12_fills_3_s t M' (nI c) (nI f) (nI a) (nI n) (nI n) = _
    unfold f12_fills_3_s
    rw [if_neg (by rw [q_lt (by omega) (by omega)]; omega)]
theorem sl_step {O : List Int32} {p k : Nat} : sl O p (k + 1 - p) = sl O p (k - p) ++ (if k < O.length ∧ p ≤ k then [O.getD k 0] else []) := by
  by_cases c1 : p ≤ k
  · by_cases c2 : k < O.length
    · rw [if_pos ⟨c2, c1⟩, show k + 1 - p = k - p + 1 by omega, sl_succ (by omega), show p + (k - p) = k by omega]
    · rw [if_neg (fun z => c2 z.1), List.append_nil]
      unfold sl
      rw [List.take_of_length_le (by simp; omega), List.take_of_length_le (by simp; omega)]
  · rw [if_neg (fun z => c1 z.2), List.append_nil, show k + 1 - p = 0 by omega, show k - p = 0 by omega]
theorem sl_0 {O : List Int32} {p : Nat} : sl O p 0 = [] := by unfold sl; simp
/-- places without a hunk -/
theorem mcs_run {O A B : List Int32} {p : Nat} {out : List Int32} : ∀ d k, (∀ j, k ≤ j → j < k + d → mad O A B j = none) → up (mcs O A B) d k (p, out ++ sl O p (k - p)) = (p, out ++ sl O p (k + d - p))
  | 0, k, _ => rfl
  | d + 1, k, h => by
    have e : mcs O A B k (p, out ++ sl O p (k - p)) = (p, out ++ sl O p (k + 1 - p)) := by
      unfold mcs mcs1
      rw [h k (Nat.le_refl _) (by omega)]
      show (p, (out ++ sl O p (k - p)) ++ (if k < O.length ∧ p ≤ k then [O.getD k 0] else [])) = _
      rw [sl_step, List.append_assoc]
    show up (mcs O A B) d (k + 1) (mcs O A B k (p, out ++ sl O p (k - p))) = _
    rw [e, mcs_run d (k + 1) (fun j h1 h2 => h j (by omega) (by omega)), show k + 1 + d = k + (d + 1) by omega]
/-- a place with a hunk -/
theorem mcs_hunk {O A B : List Int32} {p s d : Nat} {out X : List Int32} (h : mad O A B s = some (d, X)) : mcs O A B s (p, out ++ sl O p (s - p)) = (s + d, ((out ++ sl O p (s - p)) ++ X) ++ sl O (s + d) (s + 1 - (s + d))) := by
  unfold mcs mcs1
  rw [h]
  show (s + d, ((out ++ sl O p (s - p)) ++ X) ++ (if s < O.length ∧ s + d ≤ s then [O.getD s 0] else [])) = _
  rw [sl_step, show s - (s + d) = 0 by omega, sl_0, List.nil_append]
theorem hsd_ord {a b : Nat} {H : List (Nat × Nat × Nat × Nat)} {lp lq : Nat} (h : hsd a b H lp lq) : ∀ i j, i < j → j < H.length → (gH H i).1 + (gH H i).2.1 + 1 ≤ (gH H j).1 := by
  obtain ⟨h1, h2⟩ := hsd_idx H lp lq h
  intro i j
  induction j with
  | zero => intro hij; omega
  | succ j ih =>
    intro hij hj
    have := h2 j hj
    by_cases e : i = j
    · subst e; exact this.1
    · have := ih (by omega) (by omega)
      omega
/-- what is found at a place, by the next hunks' places -/
theorem hat_next {a b : Nat} {H : List (Nat × Nat × Nat × Nat)} (h : hsd a b H 0 0) {i k s : Nat} (h1 : ∀ j, j < i → (gH H j).1 < k) (hk : k ≤ s) : (i < H.length → (gH H i).1 = s → hat H s = some (gH H i)) ∧ ((i < H.length → s < (gH H i).1) → hat H s = none) := by
  have o := hsd_ord h
  refine ⟨fun hi e => hat_first H i hi e (fun j hj => by have := h1 j hj; omega), fun hs => hat_none H (fun j hj => ?_)⟩
  by_cases c : j < i
  · have := h1 j c; omega
  · have := hs (by omega)
    by_cases e : j = i
    · subst e; omega
    · have := o i j (by omega) hj; omega
