/-! THE REFERENCE'S TABLE -/
def wd (w : Bool) (x : Int32) : Int32 := if w = true then x - x / 100 * 100 else x
theorem s12_lineAtW {M : rv_Mem} {c f p : Nat} (hc : c < 82) (hf : f < 4) (hp : p < 10) : f12_lineAt M (nI c) (nI f) (nI p) = some (wd (rv_z (M 64 0)) (M 4 (10 * (4 * c + f) + p))) := by
  unfold f12_lineAt wd
  simp (disch := omega) only [q_4, q_10, q_add, q_mul, q_in, if_pos, q_nc]
  split <;> rfl
def dn (k : Nat) : Int32 := if k = 0 then NO else nI (k - 1)
theorem dn_s (k : Nat) : dn (k + 1) = nI k := rfl
/-- the table's own equation -/
def TE (a b : Nat) (A B : Nat → Int32) (T : Nat → Nat → Nat) : Prop := ∀ k n, k ≤ a → n ≤ b → T k n ≤ 20 ∧ T k n = max (if k < a ∧ n < b ∧ A k = B n then 1 + T (k + 1) (n + 1) else 0) (max (if k < a then T (k + 1) n else 0) (if n < b then T k (n + 1) else 0))
/-- below row k nothing is laid; in row k from n on -/
def tbI (M0 : rv_Mem) (a b : Nat) (T : Nat → Nat → Nat) (k n : Nat) (M : rv_Mem) : Prop := (∀ q, q ≠ 53 → M q = M0 q) ∧ ∀ i j, i ≤ a → j ≤ b → (k < i ∨ (i = k ∧ n ≤ j)) → M 53 (11 * i + j) = nI (T i j)
theorem tb_step {M0 : rv_Mem} {a b c1 c2 f k n : Nat} {T : Nat → Nat → Nat} {M : rv_Mem} (ha : a ≤ 10) (hb : b ≤ 10) (h1 : c1 < 82) (h2 : c2 < 82) (hf : f < 4) (hk : k ≤ a) (hn : n ≤ b) (hT : TE a b (fun i => wd (rv_z (M0 64 0)) (M0 4 (10 * (4 * c1 + f) + i))) (fun i => wd (rv_z (M0 64 0)) (M0 4 (10 * (4 * c2 + f) + i))) T) (hI : tbI M0 a b T k (n + 1) M)
    (t : rv_Mem → Int32 → Int32 → Int32 → Int32 → Int32 → Int32 → Option rv_Mem) (T' : rv_Mem → Int32 → Int32 → Int32 → Int32 → Int32 → Int32 → Int32 → Option rv_Mem) :
    ∃ M', tbI M0 a b T k n M' ∧ f12_laysTable_29_s t T' M (nI c1) (nI c2) (nI f) (nI a) (nI b) (nI k) (nI n) = T' M' (nI c1) (nI c2) (nI f) (nI a) (nI b) (nI k) (dn n) := by
  obtain ⟨i1, i2⟩ := hI
  have hw : rv_z (M 64 0) = rv_z (M0 64 0) := by rw [i1 64 (by omega)]
  have h4 : M 4 = M0 4 := i1 4 (by omega)
  obtain ⟨tb, te⟩ := hT k n hk hn
  have hdn : nI n + NO = dn n := by
    unfold dn
    by_cases h0 : n = 0
    · subst h0; rfl
    · rw [if_neg h0, q_dec (by omega)]
  have lay : ∀ v, v = T k n → tbI M0 a b T k n (rv_u M 53 (11 * k + n) (nI v)) := fun v hv => by
    refine ⟨fun q hq => by rw [mu_ne hq]; exact i1 q hq, fun i j hi hj hij => ?_⟩
    by_cases e : 11 * i + j = 11 * k + n
    · have e1 : i = k := by omega
      have e2 : j = n := by omega
      subst e1; subst e2
      rw [mu_same, hv]
    · rw [mu_ne2 e]
      exact i2 i j hi hj (by omega)
  -- the tail: pair is nI P
  have tail : ∀ P : Nat, P ≤ 21 → P = (if k < a ∧ n < b ∧ wd (rv_z (M0 64 0)) (M0 4 (10 * (4 * c1 + f) + k)) = wd (rv_z (M0 64 0)) (M0 4 (10 * (4 * c2 + f) + n)) then 1 + T (k + 1) (n + 1) else 0) → f12_laysTable_89 t T' M (nI c1) (nI c2) (nI f) (nI a) (nI b) (nI k) (nI n) (nI P) = T' (rv_u M 53 (11 * k + n) (nI (T k n))) (nI c1) (nI c2) (nI f) (nI a) (nI b) (nI k) (dn n) := by
    intro P hP21 hP
    have t190 : ∀ v, v < 2147483648 → f12_laysTable_190 t T' M (nI c1) (nI c2) (nI f) (nI a) (nI b) (nI k) (nI n) (nI (11 * k + n)) (nI v) = T' (rv_u M 53 (11 * k + n) (nI v)) (nI c1) (nI c2) (nI f) (nI a) (nI b) (nI k) (dn n) := fun v hv => by
      unfold f12_laysTable_190
      rw [if_pos (q_inb (show 11 * k + n < 121 by omega) (by omega)), q_nc (by omega)]
      show T' _ _ _ _ _ _ _ (nI n + -1) = _
      rw [q_no, hdn]
    have t162 : ∀ m, m ≤ 21 → f12_laysTable_162 t T' M (nI c1) (nI c2) (nI f) (nI a) (nI b) (nI k) (nI n) (nI P) (nI m) = T' (rv_u M 53 (11 * k + n) (nI (max P m))) (nI c1) (nI c2) (nI f) (nI a) (nI b) (nI k) (dn n) := fun m hm => by
      unfold f12_laysTable_162
      simp (disch := omega) only [q_11, q_mul, q_add, q_lt, t190]
      by_cases e : m < P
      · rw [if_pos e]
        rw [show max P m = P by omega]
      · rw [if_neg e]
        rw [show max P m = m by omega]
    have t146 : ∀ w bh, w ≤ 21 → bh ≤ 21 → f12_laysTable_146 t T' M (nI c1) (nI c2) (nI f) (nI a) (nI b) (nI k) (nI n) (nI P) (nI w) (nI bh) = T' (rv_u M 53 (11 * k + n) (nI (max P (max w bh)))) (nI c1) (nI c2) (nI f) (nI a) (nI b) (nI k) (dn n) := fun w bh h1 h2 => by
      unfold f12_laysTable_146
      simp (disch := omega) only [q_lt]
      by_cases e : bh < w
      · rw [if_pos e, t162 w h1]
        rw [show max w bh = w by omega]
      · rw [if_neg e, t162 bh h2]
        rw [show max w bh = bh by omega]
    have t118 : ∀ w, w ≤ 21 → f12_laysTable_118 t T' M (nI c1) (nI c2) (nI f) (nI a) (nI b) (nI k) (nI n) (nI P) (nI w) = T' (rv_u M 53 (11 * k + n) (nI (max P (max w (if n < b then T k (n + 1) else 0))))) (nI c1) (nI c2) (nI f) (nI a) (nI b) (nI k) (dn n) := fun w hw => by
      unfold f12_laysTable_118
      by_cases e : n < b
      · have hv : M 53 (11 * k + n + 1) = nI (T k (n + 1)) := by
          have := i2 k (n + 1) hk (by omega) (by omega)
          rw [← this]; congr 1
        have hb1 := (hT k (n + 1) hk (by omega)).1
        simp (disch := omega) only [q_1, q_11, q_mul, q_add, q_lt, q_in, if_pos, q_nc, hv, t146]
      · rw [if_neg e]
        simp (disch := omega) only [q_lt]
        rw [if_neg e]
        exact t146 w 0 hw (by omega)
    unfold f12_laysTable_89
    by_cases e : k < a
    · have hv : M 53 (11 * k + n + 11) = nI (T (k + 1) n) := by
        have := i2 (k + 1) n (by omega) hn (by omega)
        rw [← this]; congr 1; omega
      have hb1 := (hT (k + 1) n (by omega) hn).1
      simp (disch := omega) only [q_11, q_mul, q_add, q_lt, q_in, if_pos, q_nc, hv, t118]
      rw [te, hP, if_pos e]
    · simp (disch := omega) only [q_lt]
      rw [if_neg e]
      have h9 := t118 0 (by omega)
      rw [te, hP, if_neg e] at *
      exact h9
  refine ⟨rv_u M 53 (11 * k + n) (nI (T k n)), lay _ rfl, ?_⟩
  unfold f12_laysTable_29_s f12_laysTable_88
  have h0n : (0 : Int32) ≤ nI n := by rw [q_0, q_le (by omega) (by omega)]; omega
  rw [if_pos h0n]
  by_cases e1 : k < a
  · by_cases e2 : n < b
    · simp (disch := omega) only [q_lt, if_pos, s12_lineAtW (M := M) (c := c1) (f := f) (p := k) h1 hf (by omega), s12_lineAtW (M := M) (c := c2) (f := f) (p := n) h2 hf (by omega), o1_some, hw, h4]
      by_cases e3 : wd (rv_z (M0 64 0)) (M0 4 (10 * (4 * c1 + f) + k)) = wd (rv_z (M0 64 0)) (M0 4 (10 * (4 * c2 + f) + n))
      · have hv : M 53 (11 * k + n + 12) = nI (T (k + 1) (n + 1)) := by
          have := i2 (k + 1) (n + 1) (by omega) (by omega) (by omega)
          rw [← this]; congr 1; omega
        have hb1 := (hT (k + 1) (n + 1) (by omega) (by omega)).1
        rw [if_pos e3]
        simp (disch := omega) only [q_1, q_11, q_12, q_mul, q_add, q_in, if_pos, q_nc, hv]
        exact tail _ (by omega) (by rw [if_pos ⟨e1, e2, e3⟩])
      · rw [if_neg e3]
        exact tail 0 (by omega) (by rw [if_neg (fun z => e3 z.2.2)])
    · simp (disch := omega) only [q_lt, if_pos]
      rw [if_neg e2]
      exact tail 0 (by omega) (by rw [if_neg (fun z => e2 z.2.1)])
  · simp (disch := omega) only [q_lt]
    rw [if_neg e1]
    exact tail 0 (by omega) (by rw [if_neg (fun z => e1 z.1)])
