/-! THE PURE PART: numbers, loops -/
def NO : Int32 := -1
theorem q_no : (-1 : Int32) = NO := rfl
theorem q_0 : (0 : Int32) = nI 0 := rfl
theorem q_1 : (1 : Int32) = nI 1 := rfl
theorem q_2 : (2 : Int32) = nI 2 := rfl
theorem q_3 : (3 : Int32) = nI 3 := rfl
theorem q_4 : (4 : Int32) = nI 4 := rfl
theorem q_5 : (5 : Int32) = nI 5 := rfl
theorem q_6 : (6 : Int32) = nI 6 := rfl
theorem q_7 : (7 : Int32) = nI 7 := rfl
theorem q_8 : (8 : Int32) = nI 8 := rfl
theorem q_10 : (10 : Int32) = nI 10 := rfl
theorem q_11 : (11 : Int32) = nI 11 := rfl
theorem q_12 : (12 : Int32) = nI 12 := rfl
theorem q_15 : (15 : Int32) = nI 15 := rfl
theorem q_16 : (16 : Int32) = nI 16 := rfl
theorem q_17 : (17 : Int32) = nI 17 := rfl
theorem q_20 : (20 : Int32) = nI 20 := rfl
theorem q_30 : (30 : Int32) = nI 30 := rfl
theorem q_31 : (31 : Int32) = nI 31 := rfl
theorem q_32 : (32 : Int32) = nI 32 := rfl
theorem q_40 : (40 : Int32) = nI 40 := rfl
theorem q_45 : (45 : Int32) = nI 45 := rfl
theorem q_60 : (60 : Int32) = nI 60 := rfl
theorem q_80 : (80 : Int32) = nI 80 := rfl
theorem q_81 : (81 : Int32) = nI 81 := rfl
theorem q_82 : (82 : Int32) = nI 82 := rfl
theorem q_100 : (100 : Int32) = nI 100 := rfl
theorem q_320 : (320 : Int32) = nI 320 := rfl
theorem q_328 : (328 : Int32) = nI 328 := rfl
theorem q_399 : (399 : Int32) = nI 399 := rfl
theorem q_400 : (400 : Int32) = nI 400 := rfl
theorem q_3280 : (3280 : Int32) = nI 3280 := rfl
theorem q_nc {n : Nat} (h : n < 2147483648) : (nI n).toNatClampNeg = n := nI_clamp h
theorem q_ti {n : Nat} (h : n < 2147483648) : (nI n).toInt = n := nI_toInt h
theorem q_eq {a b : Nat} (ha : a < 2147483648) (hb : b < 2147483648) : (nI a = nI b) = (a = b) := by
  apply propext
  constructor
  · intro h
    have := congrArg Int32.toNatClampNeg h
    rwa [q_nc ha, q_nc hb] at this
  · intro h; rw [h]
theorem q_eqn {v : Nat} (h : v < 2147483648) : decide (nI v ≠ nI 0) = decide (0 < v) := by
  have e := q_eq h (show 0 < 2147483648 by omega)
  by_cases c : 0 < v
  · rw [decide_eq_true c, decide_eq_true]
    intro z
    rw [e] at z
    omega
  · rw [decide_eq_false c, decide_eq_false]
    intro z
    exact z (by rw [show v = 0 by omega])
theorem q_lt {a b : Nat} (ha : a < 2147483648) (hb : b < 2147483648) : (nI a < nI b) = (a < b) := by
  apply propext
  rw [Int32.lt_iff_toInt_lt, q_ti ha, q_ti hb]
  omega
theorem q_le {a b : Nat} (ha : a < 2147483648) (hb : b < 2147483648) : (nI a ≤ nI b) = (a ≤ b) := by
  apply propext
  rw [Int32.le_iff_toInt_le, q_ti ha, q_ti hb]
  omega
theorem q_add (a b : Nat) : nI a + nI b = nI (a + b) := nI_add a b
theorem q_mul (a b : Nat) : nI a * nI b = nI (a * b) := by
  show Int32.ofNat a * Int32.ofNat b = Int32.ofNat (a * b)
  rw [Int32.ofNat_mul]
theorem q_sub {a b : Nat} (h : b ≤ a) : nI a - nI b = nI (a - b) := by
  have h1 : nI a = nI (a - b) + nI b := by rw [q_add]; congr 1; omega
  rw [h1, Int32.add_sub_cancel]
theorem q_nosub {a b : Nat} (h : b = a + 1) : nI a - nI b = NO := by
  have h1 : nI a = NO + nI b := by
    subst h
    rw [← q_add, show nI 1 = (1 : Int32) from rfl, Int32.add_comm (nI a), ← Int32.add_assoc, show NO + (1 : Int32) = 0 from rfl, Int32.zero_add]
  rw [h1, Int32.add_sub_cancel]
theorem q_dec {a : Nat} (h : 0 < a) : nI a + NO = nI (a - 1) := by
  have h1 : nI a = nI (a - 1) + nI 1 := by rw [q_add]; congr 1; omega
  rw [h1, Int32.add_assoc, show nI 1 + NO = 0 from rfl, Int32.add_zero]
theorem q_dec0 : nI 0 + NO = NO := rfl
theorem q_noadd : NO + nI 1 = nI 0 := rfl
theorem q_in {n N : Nat} (h : n < 2147483648) : (rv_in (nI n) N = true) = (n < N) := by
  apply propext
  unfold rv_in
  rw [q_nc h, decide_eq_true_iff]
  have h0 : ¬ nI n < 0 := by rw [q_0, q_lt h (by omega)]; omega
  constructor
  · intro z
    exact Nat.not_le.mp fun y => z (Or.inr y)
  · intro z y
    exact y.elim h0 (fun y => absurd z (Nat.not_lt.mpr y))
theorem q_inb {n N : Nat} (h : n < N) (h2 : n < 2147483648) : rv_in (nI n) N = true := by rw [q_in h2]; exact h
theorem q_inno {N : Nat} : (rv_in NO N = true) = False := by simp [rv_in, show NO < 0 from by decide]
theorem q_nt : NO.toInt = -1 := by decide
theorem q_no_eq {a : Nat} (h : a < 2147483648) : (nI a = NO) = False := by
  apply propext
  constructor
  · intro e
    have := congrArg Int32.toInt e
    rw [q_ti h, q_nt] at this
    omega
  · exact False.elim
theorem q_no_eq' {a : Nat} (h : a < 2147483648) : (NO = nI a) = False := by rw [show (NO = nI a) = (nI a = NO) from propext ⟨Eq.symm, Eq.symm⟩]; exact q_no_eq h
theorem q_no_lt {a : Nat} (h : a < 2147483648) : (NO < nI a) = True := by
  apply propext
  rw [Int32.lt_iff_toInt_lt, q_ti h, q_nt]
  constructor
  · intro _; trivial
  · intro _; omega
theorem q_lt_no {a : Nat} (h : a < 2147483648) : (nI a < NO) = False := by
  apply propext
  rw [Int32.lt_iff_toInt_lt, q_ti h, q_nt]
  constructor
  · intro _; omega
  · exact False.elim
theorem q_no_le {a : Nat} (h : a < 2147483648) : (NO ≤ nI a) = True := by
  apply propext
  rw [Int32.le_iff_toInt_le, q_ti h, q_nt]
  constructor
  · intro _; trivial
  · intro _; omega
theorem q_le_no {a : Nat} (h : a < 2147483648) : (nI a ≤ NO) = False := by
  apply propext
  rw [Int32.le_iff_toInt_le, q_ti h, q_nt]
  constructor
  · intro _; omega
  · exact False.elim
/-- an int from outside: below 0, or a Nat -/
theorem q_any (x : Int32) : x < 0 ∨ ∃ n : Nat, n < 2147483648 ∧ x = nI n := by
  by_cases h : x < 0
  · exact Or.inl h
  · refine Or.inr ⟨x.toNatClampNeg, ?_, ?_⟩
    · have h2 : x.toInt < 2 ^ 31 := Int32.toInt_lt x
      have h1 : ¬ x.toInt < 0 := fun z => h (Int32.lt_iff_toInt_lt.mpr z)
      have h3 : x.toNatClampNeg = x.toInt.toNat := rfl
      omega
    · have h2 : x.toInt < 2 ^ 31 := Int32.toInt_lt x
      have h1 : ¬ x.toInt < 0 := fun z => h (Int32.lt_iff_toInt_lt.mpr z)
      have h3 : x.toNatClampNeg = x.toInt.toNat := rfl
      apply Int32.toInt_inj.mp
      rw [q_ti (by omega)]
      omega
theorem q_neg {x : Int32} (h : x < 0) : (0 ≤ x) = False := by
  apply propext
  rw [Int32.le_iff_toInt_le]
  rw [Int32.lt_iff_toInt_lt] at h
  simp at h ⊢
  omega
/-! memory -/
theorem mu_same (M : rv_Mem) (k i : Nat) (v : Int32) : rv_u M k i v k i = v := by simp [rv_u]
theorem mu_ne {M : rv_Mem} {k i : Nat} {v : Int32} {a : Nat} (h : a ≠ k) : rv_u M k i v a = M a := by funext b; simp [rv_u, h]
theorem mu_ne2 {M : rv_Mem} {k i : Nat} {v : Int32} {a b : Nat} (h : b ≠ i) : rv_u M k i v a b = M a b := by simp [rv_u, h]
theorem mw_same (M : rv_Mem) (k : Nat) (f : Nat → Int32) : rv_w M k f k = f := by funext b; simp [rv_w]
theorem mw_ne {M : rv_Mem} {k : Nat} {f : Nat → Int32} {a : Nat} (h : a ≠ k) : rv_w M k f a = M a := by funext b; simp [rv_w, h]
theorem o1_some {α γ : Type} (x : α) (k : α → Option γ) : rv_o1 (some x) k = k x := rfl
theorem o2_some {α β γ : Type} (x : α) (y : β) (k : α → β → Option γ) : rv_o2 (some (x, y)) k = k x y := rfl
theorem lt_do {α β : Type} (x : α) (k : α → β) : rv_lt x k = k x := rfl
theorem x1_inl {α ρ : Type} (x : α) (k : α → Option (ρ ⊕ Nat)) : rv_x1 (some (.inl x)) k = k x := rfl
theorem x1_inr {α ρ : Type} (e : Nat) (k : α → Option (ρ ⊕ Nat)) : rv_x1 (some (.inr e)) k = some (.inr e) := rfl
theorem x2_inl {α ρ : Type} (x : α) (M : rv_Mem) (k : α → Option (ρ ⊕ (Nat × rv_Mem))) : rv_x2 (some (.inl x)) M k = k x := rfl
theorem x2_inr {α ρ : Type} (e : Nat) (M : rv_Mem) (k : α → Option (ρ ⊕ (Nat × rv_Mem))) : rv_x2 (some (.inr e)) M k = some (.inr (e, M)) := rfl
/-! loops -/
theorem fx_P {T : Type} {z : T} {F : T → T} (P : Nat → T → Prop) (h0 : P 0 z) (hs : ∀ n t, P n t → P (n + 1) (F t)) : ∀ n, P n (rv_fx z F n) := by
  intro n
  induction n with
  | zero => exact h0
  | succ n ih => exact hs n _ ih
/-- g at k, k + 1, .. , k + d - 1 -/
def up {α : Type} (g : Nat → α → α) : Nat → Nat → α → α
  | 0, _, a => a
  | d + 1, k, a => up g d (k + 1) (g k a)
theorem up_inv {α : Type} {g : Nat → α → α} (P : Nat → α → Prop) : ∀ (d k : Nat) (a : α), P k a → (∀ j a, k ≤ j → j < k + d → P j a → P (j + 1) (g j a)) → P (k + d) (up g d k a) := by
  intro d
  induction d with
  | zero => intro k a h _; exact h
  | succ d ih =>
    intro k a h hs
    have h9 := ih (k + 1) (g k a) (hs k a (Nat.le_refl _) (by omega) h) (fun j a h1 h2 h3 => hs j a (by omega) (by omega) h3)
    rw [show k + (d + 1) = k + 1 + d by omega]
    exact h9
theorem up_add {α : Type} {g : Nat → α → α} : ∀ (d e k : Nat) (a : α), up g (d + e) k a = up g e (k + d) (up g d k a) := by
  intro d
  induction d with
  | zero => intro e k a; simp [up]
  | succ d ih => intro e k a; rw [show d + 1 + e = (d + e) + 1 by omega]; show up g (d + e) (k + 1) (g k a) = _; rw [ih]; show _ = up g e (k + (d + 1)) (up g d (k + 1) (g k a)); rw [show k + 1 + d = k + (d + 1) by omega]
theorem up_snoc {α : Type} {g : Nat → α → α} (d k : Nat) (a : α) : up g (d + 1) k a = g (k + d) (up g d k a) := by rw [up_add]; rfl
theorem up_congr {α : Type} {g h : Nat → α → α} : ∀ (d k : Nat) (a : α), (∀ j a, k ≤ j → j < k + d → g j a = h j a) → up g d k a = up h d k a := by
  intro d
  induction d with
  | zero => intro k a _; rfl
  | succ d ih =>
    intro k a hg
    show up g d (k + 1) (g k a) = up h d (k + 1) (h k a)
    rw [hg k a (Nat.le_refl _) (by omega)]
    exact ih _ _ (fun j a h1 h2 => hg j a (by omega) (by omega))
/-- a loop that counts up to N -/
theorem rv_up {T α R : Type} {z : T} {F : T → T} (ap : T → Nat → α → Option R) (N : Nat) (g : Nat → α → α) (fin : α → Option R) (inv : Nat → α → Prop)
    (hs : ∀ t k a, k < N → inv k a → ap (F t) k a = ap t (k + 1) (g k a)) (he : ∀ t a, inv N a → ap (F t) N a = fin a) (hi : ∀ k a, k < N → inv k a → inv (k + 1) (g k a)) :
    ∀ n k a, k ≤ N → N - k < n → inv k a → ap (rv_fx z F n) k a = fin (up g (N - k) k a) := by
  intro n
  induction n with
  | zero => intro k a h1 h2; omega
  | succ n ih =>
    intro k a h1 h2 h3
    by_cases hk : k < N
    · show ap (F _) k a = _
      rw [hs _ k a hk h3, ih (k + 1) _ hk (by omega) (hi k a hk h3)]
      have e : N - k = (N - (k + 1)) + 1 := by omega
      rw [e]; rfl
    · have e : k = N := by omega
      subst e
      show ap (F _) k a = _
      rw [he _ a h3, Nat.sub_self]; rfl
/-- a loop that counts up to N, no invariant -/
theorem rv_up0 {T α R : Type} {z : T} {F : T → T} (ap : T → Nat → α → Option R) (N : Nat) (g : Nat → α → α) (fin : α → Option R)
    (hs : ∀ t k a, k < N → ap (F t) k a = ap t (k + 1) (g k a)) (he : ∀ t a, ap (F t) N a = fin a) :
    ∀ n k a, k ≤ N → N - k < n → ap (rv_fx z F n) k a = fin (up g (N - k) k a) :=
  fun n k a h1 h2 => rv_up ap N g fin (fun _ _ => True) (fun t k a h _ => hs t k a h) (fun t a _ => he t a) (fun _ _ _ _ => trivial) n k a h1 h2 trivial
/-- any loop, by a measure -/
theorem rv_wl {T α R : Type} {z : T} {F : T → T} (ap : T → α → Option R) (μ : α → Nat) (inv : α → Prop) (Q : α → Option R → Prop)
    (hs : ∀ t a, inv a → Q a (ap (F t) a) ∨ ∃ a', inv a' ∧ μ a' < μ a ∧ ap (F t) a = ap t a' ∧ ∀ r, Q a' r → Q a r) :
    ∀ n a, inv a → μ a < n → Q a (ap (rv_fx z F n) a) := by
  intro n
  induction n with
  | zero => intro a _ h; omega
  | succ n ih =>
    intro a h1 h2
    show Q a (ap (F _) a)
    rcases hs (rv_fx z F n) a h1 with h | ⟨a', i1, i2, i3, i4⟩
    · exact h
    · rw [i3]
      exact i4 _ (ih a' i1 (by omega))
theorem FU_lt {n : Nat} (h : n < 100000) : n < rv_FU := h
theorem q_no2 : -nI 1 = NO := rfl
theorem if_pos_t {α : Type} {a b : α} : (if (true = true) then a else b) = a := rfl
theorem rvi_t : rv_i true = nI 1 := rfl
theorem rvi_f : rv_i false = nI 0 := rfl
theorem bt_f : (true = false) = False := by simp
theorem bf_t : (false = true) = False := by simp
theorem bb_t : (true = true) = True := by simp
theorem bb_f : (false = false) = True := by simp
/-- a loop that counts up to N, by an invariant -/
theorem rv_ui {T α R : Type} {z : T} {F : T → T} (ap : T → Nat → α → Option R) (N : Nat) (inv : Nat → α → Prop) (fin : α → Option R)
    (hs : ∀ t k a, k < N → inv k a → ∃ a', inv (k + 1) a' ∧ ap (F t) k a = ap t (k + 1) a') (he : ∀ t a, inv N a → ap (F t) N a = fin a) :
    ∀ n k a, k ≤ N → N - k < n → inv k a → ∃ a', inv N a' ∧ ap (rv_fx z F n) k a = fin a' := by
  intro n
  induction n with
  | zero => intro k a h1 h2; omega
  | succ n ih =>
    intro k a h1 h2 h3
    by_cases hk : k < N
    · obtain ⟨a', i1, i2⟩ := hs (rv_fx z F n) k a hk h3
      obtain ⟨a2, j1, j2⟩ := ih (k + 1) a' hk (by omega) i1
      exact ⟨a2, j1, by show ap (F _) k a = _; rw [i2, j2]⟩
    · have e : k = N := by omega
      subst e
      exact ⟨a, h3, he _ a h3⟩
/-- a loop that counts down to N, by an invariant -/
theorem rv_ud {T α R : Type} {z : T} {F : T → T} (ap : T → Nat → α → Option R) (N : Nat) (inv : Nat → α → Prop) (fin : α → Option R)
    (hs : ∀ t k a, N < k → inv k a → ∃ a', inv (k - 1) a' ∧ ap (F t) k a = ap t (k - 1) a') (he : ∀ t a, inv N a → ap (F t) N a = fin a) :
    ∀ n k a, N ≤ k → k - N < n → inv k a → ∃ a', inv N a' ∧ ap (rv_fx z F n) k a = fin a' := by
  intro n
  induction n with
  | zero => intro k a h1 h2; omega
  | succ n ih =>
    intro k a h1 h2 h3
    by_cases hk : N < k
    · obtain ⟨a', i1, i2⟩ := hs (rv_fx z F n) k a hk h3
      obtain ⟨a2, j1, j2⟩ := ih (k - 1) a' (by omega) (by omega) i1
      exact ⟨a2, j1, by show ap (F _) k a = _; rw [i2, j2]⟩
    · have e : k = N := by omega
      subst e
      exact ⟨a, h3, he _ a h3⟩
theorem up_rel {α β : Type} {g : Nat → α → α} {h : Nat → β → β} (P : α → β → Prop) : ∀ (d k : Nat) (a : α) (b : β), P a b → (∀ j a b, k ≤ j → j < k + d → P a b → P (g j a) (h j b)) → P (up g d k a) (up h d k b) := by
  intro d
  induction d with
  | zero => intro k a b hp _; exact hp
  | succ d ih =>
    intro k a b hp hs
    exact ih (k + 1) (g k a) (h k b) (hs k a b (Nat.le_refl _) (by omega) hp) (fun j a b h1 h2 h3 => hs j a b (by omega) (by omega) h3)
theorem up_id {α : Type} {g : Nat → α → α} : ∀ (d k : Nat) (a : α), (∀ j, k ≤ j → j < k + d → g j a = a) → up g d k a = a := by
  intro d
  induction d with
  | zero => intro k a _; rfl
  | succ d ih =>
    intro k a hs
    show up g d (k + 1) (g k a) = a
    rw [hs k (Nat.le_refl _) (by omega)]
    exact ih (k + 1) a (fun j h1 h2 => hs j (by omega) (by omega))
theorem q_succ (k : Nat) : nI k + 1 = nI (k + 1) := q_add k 1
