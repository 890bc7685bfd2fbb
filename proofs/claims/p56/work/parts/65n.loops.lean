/-! LOOPS THAT MAY END EARLY -/
theorem rv_ux {T α R : Type} {z : T} {F : T → T} (ap : T → Nat → α → Option R) (N : Nat) (inv : Nat → α → Prop) (Q : Option R → Prop)
    (hs : ∀ t k a, k < N → inv k a → Q (ap (F t) k a) ∨ ∃ a', inv (k + 1) a' ∧ ap (F t) k a = ap t (k + 1) a') (he : ∀ t a, inv N a → Q (ap (F t) N a)) :
    ∀ n k a, k ≤ N → N - k < n → inv k a → Q (ap (rv_fx z F n) k a) := by
  intro n
  induction n with
  | zero => intro k a h1 h2; omega
  | succ n ih =>
    intro k a h1 h2 h3
    by_cases hk : k < N
    · rcases hs (rv_fx z F n) k a hk h3 with h | ⟨a', i1, i2⟩
      · exact h
      · show Q (ap (F _) k a)
        rw [i2]
        exact ih (k + 1) a' hk (by omega) i1
    · have e : k = N := by omega
      subst e
      exact he _ a h3
/-- all of k, k + 1, .. -/
def ar (x : Nat → Bool) : Nat → Nat → Bool
  | _, 0 => true
  | k, d + 1 => x k && ar x (k + 1) d
theorem ar_iff {x : Nat → Bool} : ∀ d k, ar x k d = true ↔ ∀ j, k ≤ j → j < k + d → x j = true := by
  intro d
  induction d with
  | zero => intro k; exact ⟨fun _ j h1 h2 => absurd h2 (by omega), fun _ => rfl⟩
  | succ d ih =>
    intro k
    show (x k && ar x (k + 1) d) = true ↔ _
    rw [Bool.and_eq_true, ih (k + 1)]
    constructor
    · rintro ⟨h1, h2⟩ j h3 h4
      by_cases e : j = k
      · rw [e]; exact h1
      · exact h2 j (by omega) (by omega)
    · intro h
      exact ⟨h k (Nat.le_refl _) (by omega), fun j h3 h4 => h j (by omega) (by omega)⟩
theorem ar_congr {x y : Nat → Bool} {d k : Nat} (h : ∀ j, k ≤ j → j < k + d → x j = y j) : ar x k d = ar y k d := by
  rw [Bool.eq_iff_iff, ar_iff, ar_iff]
  exact ⟨fun g j h1 h2 => by rw [← h j h1 h2]; exact g j h1 h2, fun g j h1 h2 => by rw [h j h1 h2]; exact g j h1 h2⟩
theorem ar_range (x : Nat → Bool) (d : Nat) : ar x 0 d = (List.range d).all x := by
  rw [Bool.eq_iff_iff, ar_iff, List.all_eq_true]
  exact ⟨fun g j h => g j (Nat.zero_le _) (by simpa using h), fun g j _ h2 => g j (by simpa using h2)⟩
/-- a loop that goes on as long as all are so -/
theorem rv_all {T R : Type} {z : T} {F : T → T} (ap : T → Nat → Bool → Option R) (N : Nat) (x : Nat → Bool) (fin : Bool → Option R)
    (hs : ∀ t k, k < N → ap (F t) k true = ap t (k + 1) (x k)) (hf : ∀ t k, k < N → ap (F t) k false = fin false) (he : ∀ t b, ap (F t) N b = fin b) :
    ∀ n k b, k ≤ N → N - k < n → ap (rv_fx z F n) k b = fin (b && ar x k (N - k)) := by
  intro n
  induction n with
  | zero => intro k b h1 h2; omega
  | succ n ih =>
    intro k b h1 h2
    by_cases hk : k < N
    · cases b with
      | false => show ap (F _) k false = fin false; exact hf _ k hk
      | true =>
        show ap (F _) k true = fin (true && ar x k (N - k))
        rw [hs _ k hk, ih (k + 1) (x k) hk (by omega), show N - k = (N - (k + 1)) + 1 by omega]
        rfl
    · have e : k = N := by omega
      subst e
      show ap (F _) k b = _
      rw [he, Nat.sub_self]
      cases b <;> rfl
/-! FILES -/
def fileC (C : rv_Mem) (c f : Nat) (A : List Int32) : Prop := A.length ≤ 10 ∧ C 15 (4 * c + f) = nI A.length ∧ ∀ p, p < A.length → C 14 (10 * (4 * c + f) + p) = A.getD p 0
def fileR (M : rv_Mem) (c f : Nat) (A : List Int32) : Prop := A.length ≤ 10 ∧ M 3 (4 * c + f) = nI A.length ∧ ∀ p, p < A.length → M 4 (10 * (4 * c + f) + p) = A.getD p 0
theorem fl_len {R : rv_Mem} {c f : Nat} : (fl R c f).length = (R 3 (4 * c + f)).toNatClampNeg := by unfold fl; simp
theorem fl_getD {R : rv_Mem} {c f p : Nat} (h : p < (fl R c f).length) : (fl R c f).getD p 0 = R 4 (10 * (4 * c + f) + p) := by
  rw [fl_len] at h
  unfold fl
  rw [List.getD_eq_getElem?_getD, List.getElem?_map, List.getElem?_range h]
  rfl
theorem fil_files {n : Nat} {C R : rv_Mem} (h : A_fil n (C 14) (C 15) (R 3) (R 4)) {c f : Nat} (hc : c < n ∨ c = 80) (hf : f < 4) : fileC C c f (fl R c f) ∧ fileR R c f (fl R c f) ∧ ∀ p, p < (fl R c f).length → ∃ v, v < 400 ∧ (fl R c f).getD p 0 = nI v := by
  obtain ⟨s, h1, h2, h3, h4⟩ := h c hc f hf
  have hl : (fl R c f).length = s := by rw [fl_len, h3, q_nc (by omega)]
  refine ⟨⟨by rw [hl]; exact h1, by rw [hl]; exact h2, fun p hp => ?_⟩, ⟨by rw [hl]; exact h1, by rw [hl]; exact h3, fun p hp => ?_⟩, fun p hp => ?_⟩
  · obtain ⟨v, g1, g2, g3⟩ := h4 p (by rw [hl] at hp; exact hp)
    rw [fl_getD hp, g2, g3]
  · rw [fl_getD hp]
  · obtain ⟨v, g1, g2, g3⟩ := h4 p (by rw [hl] at hp; exact hp)
    exact ⟨v, g1, by rw [fl_getD hp, g3]⟩
theorem map_getD {A : List Int32} {g : Int32 → Int32} {p : Nat} (h : p < A.length) : (A.map g).getD p 0 = g (A.getD p 0) := by
  simp only [List.getD_eq_getElem?_getD, List.getElem?_map]
  rw [List.getElem?_eq_getElem h]
  rfl
theorem range_map_ext {a : Nat} {X : Nat → Int32} {A : List Int32} (hl : A.length = a) (h : ∀ p, p < a → X p = A.getD p 0) : (List.range a).map X = A := by
  apply List.ext_getElem
  · simp [hl]
  · intro i h1 h2
    simp only [List.getElem_map, List.getElem_range]
    rw [h i (by omega), List.getD_eq_getElem?_getD, List.getElem?_eq_getElem h2]
    rfl
/-! WHERE MATES LIE; HUNKS IN THEIR ORDER -/
def mok : List (Option Nat) → Nat → Nat → Prop
  | [], w, n => w ≤ n
  | none :: ms, w, n => mok ms w n
  | some q :: ms, w, n => w ≤ q ∧ q < n ∧ mok ms (q + 1) n
theorem mok_mono : ∀ (ms : List (Option Nat)) (w w' n : Nat), w' ≤ w → mok ms w n → mok ms w' n := by
  intro ms
  induction ms with
  | nil => intro w w' n h1 h2; exact Nat.le_trans h1 h2
  | cons x ms ih =>
    intro w w' n h1 h2
    cases x with
    | none => exact ih w w' n h1 h2
    | some q => exact ⟨Nat.le_trans h1 h2.1, h2.2⟩
theorem mok_nones : ∀ (A : List Int32) (w n : Nat), w ≤ n → mok (A.map (fun _ => none)) w n := by
  intro A
  induction A with
  | nil => intro w n h; exact h
  | cons x A ih => intro w n h; exact ih w n h
theorem mok_mts : ∀ (k : Nat) (A B : List Int32) (n : Nat), A.length + B.length ≤ k → mok (mts A B n) n (n + B.length) ∧ (mts A B n).length = A.length := by
  intro k
  induction k with
  | zero =>
    intro A B n h
    have ha : A = [] := List.eq_nil_of_length_eq_zero (by omega)
    subst ha
    rw [mts_nil]
    exact ⟨by show n ≤ _; omega, rfl⟩
  | succ k ih =>
    intro A B n h
    cases A with
    | nil => rw [mts_nil]; exact ⟨by show n ≤ _; omega, rfl⟩
    | cons x xs =>
      cases B with
      | nil => rw [mts_nil2]; exact ⟨mok_nones _ _ _ (by simp), by simp⟩
      | cons y ys =>
        simp only [List.length_cons] at h
        rw [mts_cons]
        by_cases e : x = y
        · rw [if_pos e]
          have h1 := ih xs ys (n + 1) (by omega)
          have e1 : n + (y :: ys).length = n + 1 + ys.length := by simp; omega
          rw [e1]
          exact ⟨⟨Nat.le_refl _, by omega, h1.1⟩, by simp [h1.2]⟩
        · rw [if_neg e]
          by_cases e2 : lcs xs (y :: ys) = lcs (x :: xs) (y :: ys)
          · rw [if_pos e2]
            have h1 := ih xs (y :: ys) n (by simp; omega)
            exact ⟨h1.1, by simp [h1.2]⟩
          · rw [if_neg e2]
            have h1 := ih (x :: xs) ys (n + 1) (by simp; omega)
            have e1 : n + (y :: ys).length = n + 1 + ys.length := by simp; omega
            rw [e1]
            exact ⟨mok_mono _ _ _ _ (by omega) h1.1, h1.2⟩
def hsd (a b : Nat) : List (Nat × Nat × Nat × Nat) → Nat → Nat → Prop
  | [], _, _ => True
  | (p, d, q, e) :: hs, lp, lq => lp ≤ p ∧ lq ≤ q ∧ p + d ≤ a ∧ q + e ≤ b ∧ 0 < d + e ∧ hsd a b hs (p + d + 1) (q + e + 1)
theorem hsd_mono {a b : Nat} {H : List (Nat × Nat × Nat × Nat)} {lp lq lp' lq' : Nat} (h : hsd a b H lp lq) (h1 : lp' ≤ lp) (h2 : lq' ≤ lq) : hsd a b H lp' lq' := by
  cases H with
  | nil => trivial
  | cons x H =>
    obtain ⟨p, d, q, e⟩ := x
    exact ⟨Nat.le_trans h1 h.1, Nat.le_trans h2 h.2.1, h.2.2⟩
theorem hks_sd : ∀ (ms : List (Option Nat)) (e a w n : Nat), mok ms w n → a ≤ e → hsd (e + ms.length) n (hks ms e a w n) a w := by
  intro ms
  induction ms with
  | nil =>
    intro e a w n h1 h2
    have h1 : w ≤ n := h1
    show hsd _ _ (if a < e ∨ w < n then [(a, e - a, w, n - w)] else []) a w
    by_cases c : a < e ∨ w < n
    · rw [if_pos c]
      exact ⟨Nat.le_refl _, Nat.le_refl _, by simp; omega, by omega, by omega, trivial⟩
    · rw [if_neg c]
      trivial
  | cons x ms ih =>
    intro e a w n h1 h2
    have el : e + (x :: ms).length = e + 1 + ms.length := by simp; omega
    rw [el]
    cases x with
    | none => exact ih (e + 1) a w n h1 (by omega)
    | some q =>
      obtain ⟨g1, g2, g3⟩ := h1
      show hsd _ _ ((if a < e ∨ w < q then [(a, e - a, w, q - w)] else []) ++ hks ms (e + 1) (e + 1) (q + 1) n) a w
      have h9 := ih (e + 1) (e + 1) (q + 1) n g3 (Nat.le_refl _)
      by_cases c : a < e ∨ w < q
      · rw [if_pos c]
        refine ⟨Nat.le_refl _, Nat.le_refl _, by omega, by omega, by omega, ?_⟩
        exact hsd_mono h9 (by omega) (by omega)
      · rw [if_neg c]
        exact hsd_mono h9 (by omega) (by omega)
theorem hsd_len {a b : Nat} : ∀ (H : List (Nat × Nat × Nat × Nat)) (lp lq : Nat), hsd a b H lp lq → lp ≤ a + 1 → H.length + lp ≤ a + 1 := by
  intro H
  induction H with
  | nil => intro lp lq _ h; simpa using h
  | cons x H ih =>
    intro lp lq h h1
    obtain ⟨p, d, q, e⟩ := x
    obtain ⟨g1, g2, g3, g4, g5, g6⟩ := h
    have := ih _ _ g6 (by omega)
    simp only [List.length_cons]
    omega
theorem hsd_at {a b : Nat} : ∀ (H : List (Nat × Nat × Nat × Nat)) (lp lq : Nat), hsd a b H lp lq → ∀ (i p d q e : Nat), H[i]? = some (p, d, q, e) → p + d ≤ a ∧ q + e ≤ b ∧ 0 < d + e := by
  intro H
  induction H with
  | nil => intro lp lq _ i p d q e h; simp at h
  | cons x H ih =>
    intro lp lq h i p d q e hi
    obtain ⟨p', d', q', e'⟩ := x
    obtain ⟨g1, g2, g3, g4, g5, g6⟩ := h
    cases i with
    | zero =>
      simp only [List.getElem?_cons_zero, Option.some.injEq, Prod.mk.injEq] at hi
      obtain ⟨rfl, rfl, rfl, rfl⟩ := hi
      exact ⟨g3, g4, g5⟩
    | succ i => exact ih _ _ g6 i p d q e (by simpa using hi)
theorem hk_sd (A B : List Int32) : hsd A.length B.length (hk A B) 0 0 := by
  have h := mok_mts _ A B 0 (Nat.le_refl _)
  rw [Nat.zero_add] at h
  have h9 := hks_sd (mts A B 0) 0 0 0 B.length h.1 (Nat.le_refl _)
  rw [Nat.zero_add, h.2] at h9
  exact h9
theorem hk_len (A B : List Int32) : (hk A B).length ≤ A.length + 1 := by
  have := hsd_len _ _ _ (hk_sd A B) (Nat.zero_le _)
  omega
