/-! WHERE LINES COME FROM -/
theorem mok_inc : ∀ (F : List (Option Nat)) (w n k k' m m' : Nat), mok F w n → F.getD k none = some m → F.getD k' none = some m' → (w ≤ m ∧ (k < k' → m < m'))
  | [], _, _, k, _, m, _, _, h2, _ => by simp at h2
  | none :: F, w, n, k, k', m, m', h1, h2, h3 => by
    have h1 : mok F w n := h1
    cases k with
    | zero => simp at h2
    | succ k =>
      cases k' with
      | zero => simp at h3
      | succ k' =>
        have g := mok_inc F w n k k' m m' h1 (by simpa using h2) (by simpa using h3)
        exact ⟨g.1, fun z => g.2 (by omega)⟩
  | some q :: F, w, n, k, k', m, m', h1, h2, h3 => by
    obtain ⟨a1, a2, a3⟩ : w ≤ q ∧ q < n ∧ mok F (q + 1) n := h1
    cases k with
    | zero =>
      have e : q = m := by simpa using h2
      subst e
      refine ⟨a1, fun z => ?_⟩
      cases k' with
      | zero => omega
      | succ k' =>
        have g := mok_inc F (q + 1) n k' k' m' m' a3 (by simpa using h3) (by simpa using h3)
        omega
    | succ k =>
      cases k' with
      | zero =>
        have g := mok_inc F (q + 1) n k k m m a3 (by simpa using h2) (by simpa using h2)
        exact ⟨by omega, fun z => by omega⟩
      | succ k' =>
        have g := mok_inc F (q + 1) n k k' m m' a3 (by simpa using h2) (by simpa using h3)
        exact ⟨by omega, fun z => g.2 (by omega)⟩
theorem mts_ok : ∀ (N : Nat) (xs ys : List Int32), xs.length + ys.length ≤ N → ∀ m, mok (mts xs ys m) m (m + ys.length) ∧ ∀ k i, (mts xs ys m).getD k none = some i → k < xs.length ∧ m ≤ i ∧ ln xs k = ln ys (i - m) := by
  intro N
  induction N with
  | zero =>
    intro xs ys hN m
    have ex : xs = [] := List.length_eq_zero_iff.mp (by omega)
    subst ex
    rw [mts_nil]
    exact ⟨Nat.le_add_right _ _, fun k i h => by simp at h⟩
  | succ N ih =>
    intro xs ys hN m
    cases xs with
    | nil =>
      rw [mts_nil]
      exact ⟨Nat.le_add_right _ _, fun k i h => by simp at h⟩
    | cons x xs =>
      cases ys with
      | nil =>
        have g := ih xs [] (by simp at hN ⊢; omega) m
        rw [mts_nil2] at g ⊢
        refine ⟨g.1, fun k i h => ?_⟩
        cases k with
        | zero => simp at h
        | succ k =>
          have := g.2 k i (by simpa using h)
          refine ⟨by simp; omega, this.2.1, ?_⟩
          have e := this.2.2
          exact e
      | cons y ys =>
        have hN : xs.length + 1 + (ys.length + 1) ≤ N + 1 := hN
        rw [mts_cons]
        by_cases c : x = y
        · rw [if_pos c]
          have g := ih xs ys (by omega) (m + 1)
          refine ⟨⟨Nat.le_refl _, by simp, by
            have := g.1
            rw [show m + 1 + ys.length = m + (y :: ys).length by simp; omega] at this
            exact this⟩, fun k i h => ?_⟩
          cases k with
          | zero =>
            have e : m = i := by simpa using h
            subst e
            refine ⟨by simp, Nat.le_refl _, ?_⟩
            rw [Nat.sub_self]
            exact c
          | succ k =>
            have := g.2 k i (by simpa using h)
            refine ⟨by simp; omega, by omega, ?_⟩
            rw [show i - m = (i - (m + 1)) + 1 by omega]
            exact this.2.2
        · rw [if_neg c]
          by_cases c2 : lcs xs (y :: ys) = lcs (x :: xs) (y :: ys)
          · rw [if_pos c2]
            have g := ih xs (y :: ys) (by simp; omega) m
            refine ⟨g.1, fun k i h => ?_⟩
            cases k with
            | zero => simp at h
            | succ k =>
              have := g.2 k i (by simpa using h)
              exact ⟨by simp; omega, this.2.1, this.2.2⟩
          · rw [if_neg c2]
            have g := ih (x :: xs) ys (by simp; omega) (m + 1)
            refine ⟨mok_mono _ (m + 1) m _ (by omega) (by
              have := g.1
              rw [show m + 1 + ys.length = m + (y :: ys).length by simp; omega] at this
              exact this), fun k i h => ?_⟩
            have := g.2 k i h
            refine ⟨this.1, by omega, ?_⟩
            rw [show i - m = (i - (m + 1)) + 1 by omega]
            exact this.2.2
/-- the lines told are lines that the comment was made about, in their order -/
def cme (A0 B : List Int32) (a k : Nat) (x : Int32) : Prop := ∃ φ : Nat → Nat, ∀ p, p < 32 → bt x p = true → p < B.length ∧ a ≤ φ p ∧ φ p < a + k ∧ ln A0 (φ p) = ln B p ∧ ∀ q, q < p → bt x q = true → φ q < φ p
theorem msk_bits : ∀ k, k < 11 → ∀ s, s < 11 → s + k ≤ 10 → ∀ i, i < 32 → bt (msk k s) i = decide (s ≤ i ∧ i < s + k) := by decide +kernel
theorem cme_0 (A0 B : List Int32) (a k : Nat) : cme A0 B a k 0 := ⟨fun p => p, fun p _ h => by rw [b_0] at h; cases h⟩
theorem cme_msk {A0 B : List Int32} {a k s : Nat} (h10 : s + k ≤ 10) (hB : s + k ≤ B.length) (h : ∀ j, j < k → ln A0 (a + j) = ln B (s + j)) : cme A0 B a k (msk k s) := by
  refine ⟨fun p => a + (p - s), fun p hp hb => ?_⟩
  rw [msk_bits k (by omega) s (by omega) h10 p hp] at hb
  have hb := of_decide_eq_true hb
  refine ⟨by omega, (show a ≤ a + (p - s) by omega), (show a + (p - s) < a + k by omega), ?_, fun q hq hbq => ?_⟩
  · have := h (p - s) (by omega)
    rw [show s + (p - s) = p by omega] at this
    exact this
  · rw [msk_bits k (by omega) s (by omega) h10 q (by omega)] at hbq
    have := of_decide_eq_true hbq
    show a + (q - s) < a + (p - s)
    omega
theorem fwS_from {F : List (Option Nat)} {a : Nat} {x : Int32} (hF : ∀ k m, F.getD k none = some m → m < 32) : ∀ i, i < 32 → bt (fwS F a x) i = true → ∃ p, p < a ∧ bt x p = true ∧ F.getD p none = some i := by
  have P := up_inv (g := fun k acc => if bt x k = true then (match F.getD k none with | some m => acc ||| ((1 : Int32) <<< (nI m &&& 31)) | none => acc) else acc) (fun k acc => ∀ i, i < 32 → bt acc i = true → ∃ p, p < k ∧ bt x p = true ∧ F.getD p none = some i) a 0 0 (fun i _ h => by rw [b_0] at h; cases h) (fun j acc _ _ hacc i hi h => by
    by_cases c : bt x j = true
    · simp only [c, if_true] at h
      cases hx : F.getD j none with
      | none =>
        rw [hx] at h
        obtain ⟨p, p1, p2, p3⟩ := hacc i hi h
        exact ⟨p, by omega, p2, p3⟩
      | some m =>
        rw [hx] at h
        have h : bt (acc ||| ((1 : Int32) <<< (nI m &&& 31))) i = true := h
        rw [b_or, b_shl1 m (hF j m hx) i hi] at h
        by_cases e : i = m
        · exact ⟨j, by omega, c, by rw [hx, e]⟩
        · rw [decide_eq_false e, Bool.or_false] at h
          obtain ⟨p, p1, p2, p3⟩ := hacc i hi h
          exact ⟨p, by omega, p2, p3⟩
    · simp only [c, if_false] at h
      obtain ⟨p, p1, p2, p3⟩ := hacc i hi h
      exact ⟨p, by omega, p2, p3⟩)
  rw [Nat.zero_add] at P
  exact P
theorem fdS_from {A B : List Int32} {a k : Nat} : fdS A B a k = 0 ∨ ∃ s, s < 10 ∧ sg A B a k s = true ∧ fdS A B a k = msk k s := by
  have P := up_inv (g := sgs A B a k) (fun _ q => q.2 = 0 ∨ ∃ s, s < 10 ∧ sg A B a k s = true ∧ q.2 = msk k s) 10 0 (0, 0) (Or.inl rfl) (fun j q _ hj hq => by
    unfold sgs
    by_cases c : sg A B a k j = true
    · rw [if_pos c]; exact Or.inr ⟨j, by omega, c, rfl⟩
    · rw [if_neg c]; exact hq)
  unfold fdS
  split
  · exact P
  · exact Or.inl rfl
theorem cme_step {A0 X Y : List Int32} {a k : Nat} {x : Int32} (hA0 : a + k ≤ A0.length) (hX : X.length ≤ 10) (hY : Y.length ≤ 10) (h : cme A0 X a k x) : cme A0 Y a k (if fwS (mts X Y 0) X.length x = 0 then fdS A0 Y a k else fwS (mts X Y 0) X.length x) := by
  by_cases c : fwS (mts X Y 0) X.length x = 0
  · rw [if_pos c]
    rcases fdS_from (A := A0) (B := Y) (a := a) (k := k) with e | ⟨s, s1, s2, e⟩
    · rw [e]; exact cme_0 _ _ _ _
    · rw [e]
      unfold sg at s2
      obtain ⟨t1, t2⟩ := Bool.and_eq_true_iff.mp s2
      have t1 := of_decide_eq_true t1
      refine cme_msk (by omega) t1 (fun j hj => ?_)
      have := of_decide_eq_true ((ar_iff _ _).mp t2 j (by omega) (by omega))
      rw [ln_lt (by omega), ln_lt (by omega)]; exact this
  · rw [if_neg c]
    obtain ⟨φ, hφ⟩ := h
    obtain ⟨m1, m2⟩ := mts_ok (X.length + Y.length) X Y (Nat.le_refl _) 0
    have lt : ∀ p i, (mts X Y 0).getD p none = some i → i < Y.length := fun p i hp => mts_get hp
    have fr := fwS_from (F := mts X Y 0) (a := X.length) (x := x) (fun p i hp => by have := lt p i hp; omega)
    generalize fwS (mts X Y 0) X.length x = y at fr
    let pre : Nat → Nat := fun i => if h : i < 32 ∧ bt y i = true then Classical.choose (fr i h.1 h.2) else 0
    have hpre : ∀ i, i < 32 → bt y i = true → pre i < X.length ∧ bt x (pre i) = true ∧ (mts X Y 0).getD (pre i) none = some i := fun i hi hb => by
      have e : pre i = Classical.choose (fr i hi hb) := dif_pos ⟨hi, hb⟩
      rw [e]
      exact Classical.choose_spec (fr i hi hb)
    refine ⟨fun i => φ (pre i), fun p hp hb => ?_⟩
    obtain ⟨p1, p2, p3⟩ := hpre p hp hb
    obtain ⟨f1, f2, f3, f4, f5⟩ := hφ (pre p) (by omega) p2
    obtain ⟨-, -, g3⟩ := m2 (pre p) p p3
    refine ⟨lt _ _ p3, f2, f3, ?_, fun q hq hbq => ?_⟩
    · rw [f4, g3, Nat.sub_zero]
    · obtain ⟨q1, q2, q3⟩ := hpre q (by omega) hbq
      have hlt : pre q < pre p := by
        rcases Nat.lt_trichotomy (pre q) (pre p) with z | z | z
        · exact z
        · rw [z, p3] at q3
          have : p = q := Option.some.inj q3
          omega
        · have := (mok_inc _ _ _ (pre p) (pre q) p q m1 p3 q3).2 z
          omega
      exact f5 (pre q) hlt q2
