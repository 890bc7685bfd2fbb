/-! THE REFERENCE LAYS HUNKS -/
def hokR (M : rv_Mem) (w c1 c2 : Nat) (H : List (Nat × Nat × Nat × Nat)) : Prop := M 61 w = nI H.length ∧ ∀ (i p d q e : Nat), H[i]? = some (p, d, q, e) → M 55 (15 * w + i) = nI p ∧ M 57 (15 * w + i) = nI d ∧ M 56 (15 * w + i) = nI q ∧ M 58 (15 * w + i) = nI e ∧ M 59 (15 * w + i) = nI c1 ∧ M 60 (15 * w + i) = nI c2
/-- what is the same: all but 55 .. 61, of these the other rows -/
def frR (w : Nat) (M M0 : rv_Mem) : Prop := (∀ q, q < 55 ∨ 61 < q → M q = M0 q) ∧ (∀ q, 55 ≤ q → q ≤ 60 → ∀ i, i < 15 * w ∨ 15 * w + 15 ≤ i → M q i = M0 q i) ∧ ∀ i, i ≠ w → M 61 i = M0 61 i
theorem frR_trans {w : Nat} {M M1 M0 : rv_Mem} (h1 : frR w M M1) (h2 : frR w M1 M0) : frR w M M0 :=
  ⟨fun q hq => (h1.1 q hq).trans (h2.1 q hq), fun q a b i hi => (h1.2.1 q a b i hi).trans (h2.2.1 q a b i hi), fun i hi => (h1.2.2 i hi).trans (h2.2.2 i hi)⟩
theorem s12_rec {k21 : rv_Mem → Int32 → Int32 → Int32 → Int32 → Int32 → Int32 → Option rv_Mem} {M : rv_Mem} {w c1 c2 p e q m : Nat} {f : Int32} {L : List (Nat × Nat × Nat × Nat)} (hw : w < 4) (hL : hokR M w c1 c2 L) (hl : L.length ≤ 14) (h1 : p ≤ e) (h2 : m ≤ q) :
    ∃ M', f12_laysHunks_127 k21 M (nI w) (nI c1) (nI c2) f (nI e) (nI q) (nI p) (nI m) = f12_laysHunks_208 k21 M' (nI w) (nI c1) (nI c2) f (nI e) (nI q) ∧ frR w M' M ∧ hokR M' w c1 c2 (L ++ [(p, e - p, m, q - m)]) := by
  obtain ⟨l1, l2⟩ := hL
  have en : nI (L.length + 1) = nI L.length + 1 := (q_succ _).symm
  refine ⟨rv_u (rv_u (rv_u (rv_u (rv_u (rv_u (rv_u M 55 (15 * w + L.length) (nI p)) 56 (15 * w + L.length) (nI m)) 57 (15 * w + L.length) (nI (e - p))) 58 (15 * w + L.length) (nI (q - m))) 59 (15 * w + L.length) (nI c1)) 60 (15 * w + L.length) (nI c2)) 61 w (nI (L.length + 1)), ?_, ⟨fun k hk => ?_, fun k k1 k2 i hi => ?_, fun i hi => ?_⟩, ?_, fun i p' d' q' e' hi => ?_⟩
  · unfold f12_laysHunks_127
    have e15 : (15 : Int32) * nI w + nI L.length = nI (15 * w + L.length) := by rw [q_15, q_mul, q_add]
    simp (disch := omega) only [q_nc, l1, e15, q_in, if_pos, lt_do, mu_ne, q_sub, q_succ]
  · rw [mu_ne (by omega), mu_ne (by omega), mu_ne (by omega), mu_ne (by omega), mu_ne (by omega), mu_ne (by omega), mu_ne (by omega)]
  · have : i ≠ 15 * w + L.length := by omega
    rw [mu_ne (by omega)]
    simp only [rv_u, this, and_false, if_false]
  · rw [mu_ne2 hi, mu_ne (by omega), mu_ne (by omega), mu_ne (by omega), mu_ne (by omega), mu_ne (by omega), mu_ne (by omega)]
  · rw [mu_same, List.length_append]; rfl
  · rcases app_at hi with ⟨c, g⟩ | ⟨c, g⟩
    · obtain ⟨g1, g2, g3, g4, g5, g6⟩ := l2 i p' d' q' e' g
      have : 15 * w + i ≠ 15 * w + L.length := by omega
      simp only [rv_u, this, and_false, if_false]
      refine ⟨?_, ?_, ?_, ?_, ?_, ?_⟩
      · rw [if_neg (by omega)]; exact g1
      · rw [if_neg (by omega)]; exact g2
      · rw [if_neg (by omega)]; exact g3
      · rw [if_neg (by omega)]; exact g4
      · rw [if_neg (by omega)]; exact g5
      · rw [if_neg (by omega)]; exact g6
    · subst c
      simp only [Prod.mk.injEq] at g
      obtain ⟨rfl, rfl, rfl, rfl⟩ := g
      refine ⟨?_, ?_, ?_, ?_, ?_, ?_⟩
      · rw [mu_ne (by omega), mu_ne (by omega), mu_ne (by omega), mu_ne (by omega), mu_ne (by omega), mu_ne (by omega), mu_same]
      · rw [mu_ne (by omega), mu_ne (by omega), mu_ne (by omega), mu_ne (by omega), mu_same]
      · rw [mu_ne (by omega), mu_ne (by omega), mu_ne (by omega), mu_ne (by omega), mu_ne (by omega), mu_same]
      · rw [mu_ne (by omega), mu_ne (by omega), mu_ne (by omega), mu_same]
      · rw [mu_ne (by omega), mu_ne (by omega), mu_same]
      · rw [mu_ne (by omega), mu_same]
theorem s12_h208 {k21 : rv_Mem → Int32 → Int32 → Int32 → Int32 → Int32 → Int32 → Option rv_Mem} {M : rv_Mem} {x1 : Int32} {c1 c2 f e q a b : Nat} (h1 : c1 < 82) (h2 : c2 < 82) (hf : f < 4) (ha : M 3 (4 * c1 + f) = nI a) (hb : M 3 (4 * c2 + f) = nI b) (ha2 : a ≤ 10) (hb2 : b ≤ 10) (he : e ≤ a) (hq : q ≤ b) :
    f12_laysHunks_208 k21 M x1 (nI c1) (nI c2) (nI f) (nI e) (nI q) = k21 M x1 (nI c1) (nI c2) (nI f) (nI (if e < a then e + 1 else e)) (nI (if q < b then q + 1 else q)) := by
  unfold f12_laysHunks_208 f12_laysHunks_227 f12_laysHunks_249
  simp (disch := omega) only [s12_sizeOf h1 hf, s12_sizeOf h2 hf, ha, hb, o1_some, q_lt]
  by_cases c : e < a
  · rw [if_pos c, if_pos c]
    by_cases c2 : q < b
    · rw [if_pos c2, if_pos c2]; simp only [rvi_t, q_add]
    · rw [if_neg c2, if_neg c2]; simp only [rvi_t, rvi_f, q_add, Nat.add_zero]
  · rw [if_neg c, if_neg c]
    by_cases c2 : q < b
    · rw [if_pos c2, if_pos c2]; simp only [rvi_t, rvi_f, q_add, Nat.add_zero]
    · rw [if_neg c2, if_neg c2]; simp only [rvi_f, q_add, Nat.add_zero]
/-- a step of the outer loop -/
def hlI (M0 : rv_Mem) (w c1 c2 a b : Nat) (F : List (Option Nat)) (M : rv_Mem) (k n : Nat) (L : List (Nat × Nat × Nat × Nat)) : Prop := frR w M M0 ∧ hokR M w c1 c2 L ∧ k ≤ a ∧ n ≤ b ∧ mok (F.drop k) n b ∧ L ++ hks (F.drop k) k k n b = hks F 0 0 0 b ∧ (k < a ∨ n < b → L.length ≤ k)
theorem s12_hstep {T : rv_Mem → Int32 → Int32 → Int32 → Int32 → Int32 → Int32 → Option rv_Mem} {M0 M : rv_Mem} {w c1 c2 f a b k0 n : Nat} {F : List (Option Nat)} {L : List (Nat × Nat × Nat × Nat)} (hw : w < 4) (h1 : c1 < 82) (h2 : c2 < 82) (hf : f < 4) (ha : M0 3 (4 * c1 + f) = nI a) (hb : M0 3 (4 * c2 + f) = nI b) (ha2 : a ≤ 10) (hb2 : b ≤ 10) (hl : F.length = a) (hm : ∀ p, p < a → M0 54 p = oI (F.getD p none)) (hI : hlI M0 w c1 c2 a b F M k0 n L) (hc : k0 < a ∨ n < b) :
    ∃ M' k' n' L', f12_laysHunks_21_s T M (nI w) (nI c1) (nI c2) (nI f) (nI k0) (nI n) = T M' (nI w) (nI c1) (nI c2) (nI f) (nI k') (nI n') ∧ hlI M0 w c1 c2 a b F M' k' n' L' ∧ (a - k') + (b - n') < (a - k0) + (b - n) := by
  obtain ⟨i1, i2, i3, i4, i5, i6, i7⟩ := hI
  have i7 := i7 hc
  have g3a : M 3 (4 * c1 + f) = nI a := by rw [i1.1 3 (by omega)]; exact ha
  have g3b : M 3 (4 * c2 + f) = nI b := by rw [i1.1 3 (by omega)]; exact hb
  have g54 : M 54 = M0 54 := i1.1 54 (by omega)
  have e1 : f12_laysHunks_21_s T M (nI w) (nI c1) (nI c2) (nI f) (nI k0) (nI n) = f12_laysHunks_53 T rv_FU M (nI w) (nI c1) (nI c2) (nI f) (nI k0) (nI k0) (nI n) := by
    unfold f12_laysHunks_21_s f12_laysHunks_45
    rw [s12_sizeOf h1 hf, g3a, o1_some]
    simp (disch := omega) only [q_le]
    by_cases c : a ≤ k0
    · rw [if_pos c, s12_sizeOf h2 hf, g3b, o1_some, if_pos (by rw [q_lt (by omega) (by omega)]; omega)]
    · rw [if_neg c]
  rw [e1]
  -- the end of a stretch
  have stop : ∀ k m, k0 ≤ k → k ≤ a → (k = a ∧ m = b ∨ k < a ∧ m < b) → n ≤ m → mok (F.drop (if k < a then k + 1 else k)) (if m < b then m + 1 else m) b → (L ++ (if k0 < k ∨ n < m then [(k0, k - k0, n, m - n)] else [])) ++ hks (F.drop (if k < a then k + 1 else k)) (if k < a then k + 1 else k) (if k < a then k + 1 else k) (if m < b then m + 1 else m) b = hks F 0 0 0 b →
      ∃ M' k' n' L', f12_laysHunks_111 T M (nI w) (nI c1) (nI c2) (nI f) (nI k) (nI k0) (nI n) (nI m) = T M' (nI w) (nI c1) (nI c2) (nI f) (nI k') (nI n') ∧ hlI M0 w c1 c2 a b F M' k' n' L' ∧ (a - k') + (b - n') < (a - k0) + (b - n) := by
    intro k m q1 q2 q3 q4 q5 q6
    have fin : ∀ M1, frR w M1 M → hokR M1 w c1 c2 (L ++ (if k0 < k ∨ n < m then [(k0, k - k0, n, m - n)] else [])) → ∃ M' k' n' L', f12_laysHunks_208 T M1 (nI w) (nI c1) (nI c2) (nI f) (nI k) (nI m) = T M' (nI w) (nI c1) (nI c2) (nI f) (nI k') (nI n') ∧ hlI M0 w c1 c2 a b F M' k' n' L' ∧ (a - k') + (b - n') < (a - k0) + (b - n) := by
      intro M1 r1 r2
      refine ⟨M1, if k < a then k + 1 else k, if m < b then m + 1 else m, L ++ (if k0 < k ∨ n < m then [(k0, k - k0, n, m - n)] else []), s12_h208 h1 h2 hf (by rw [r1.1 3 (by omega)]; exact g3a) (by rw [r1.1 3 (by omega)]; exact g3b) ha2 hb2 q2 (by omega), ⟨frR_trans r1 i1, r2, ?_, ?_, q5, q6, ?_⟩, ?_⟩
      · split <;> omega
      · split <;> omega
      · intro c
        rw [List.length_append]
        have hle : (if k0 < k ∨ n < m then [(k0, k - k0, n, m - n)] else []).length ≤ 1 := by split <;> simp
        by_cases c2 : k < a
        · rw [if_pos c2]; omega
        · rw [if_neg c2, if_neg (by omega)] at c; omega
      · by_cases c2 : k < a
        · rw [if_pos c2]; split <;> omega
        · rw [if_neg c2, if_neg (by omega)]; omega
    unfold f12_laysHunks_111
    simp (disch := omega) only [q_le, q_lt]
    by_cases c : k0 < k ∨ n < m
    · obtain ⟨M1, r1, r2, r3⟩ := s12_rec (k21 := T) (f := nI f) (p := k0) (e := k) (m := n) (q := m) hw i2 (by omega) q1 q4
      have r4 := fin M1 r2 (by rw [if_pos c]; exact r3)
      rw [r1]
      by_cases c1 : k ≤ k0
      · rw [if_pos c1, if_pos (by omega)]; exact r4
      · rw [if_neg c1]; exact r4
    · rw [if_pos (by omega), if_neg (by omega)]
      exact fin M ⟨fun _ _ => rfl, fun _ _ _ _ _ => rfl, fun _ _ => rfl⟩ (by rw [if_neg c, List.append_nil]; exact i2)
  refine rv_ux (z := (fun _ _ _ _ _ _ _ _ => none)) (F := f12_laysHunks_53_s T) (fun t k (_ : Unit) => t M (nI w) (nI c1) (nI c2) (nI f) (nI k) (nI k0) (nI n)) a (fun k _ => k0 ≤ k ∧ k ≤ a ∧ mok (F.drop k) n b ∧ L ++ hks (F.drop k) k k0 n b = hks F 0 0 0 b) (fun r => ∃ M' k' n' L', r = T M' (nI w) (nI c1) (nI c2) (nI f) (nI k') (nI n') ∧ hlI M0 w c1 c2 a b F M' k' n' L' ∧ (a - k') + (b - n') < (a - k0) + (b - n)) ?_ ?_ rv_FU k0 () i3 (FU_lt (by omega)) ⟨Nat.le_refl _, i3, i5, i6⟩
  · rintro t k - hka ⟨j1, j2, j3, j4⟩
    have hk2 : k < F.length := by omega
    rw [F_drop hk2] at j3 j4
    show _ ∨ ∃ a' : Unit, _
    cases hx : F.getD k none with
    | none =>
      rw [hx] at j3 j4
      right
      refine ⟨(), ⟨by omega, by omega, j3, j4⟩, ?_⟩
      show f12_laysHunks_53_s T t M (nI w) (nI c1) (nI c2) (nI f) (nI k) (nI k0) (nI n) = _
      unfold f12_laysHunks_53_s
      have := hm k hka
      rw [hx] at this
      rw [s12_sizeOf h1 hf, g3a, o1_some, if_pos (by rw [q_lt (by omega) (by omega)]; exact hka), if_pos (q_inb (show k < 10 by omega) (by omega)), q_nc (by omega), g54, this, if_pos (show oI none = -1 from rfl), q_succ]
    | some q =>
      rw [hx] at j3 j4
      left
      obtain ⟨m1, m2, m3⟩ := j3
      have := hm k hka
      rw [hx] at this
      have key := stop k q j1 j2 (Or.inr ⟨hka, m2⟩) m1 (by rw [if_pos hka, if_pos m2]; exact m3) (by rw [if_pos hka, if_pos m2, List.append_assoc]; exact j4)
      have e2 : f12_laysHunks_53_s T t M (nI w) (nI c1) (nI c2) (nI f) (nI k) (nI k0) (nI n) = f12_laysHunks_111 T M (nI w) (nI c1) (nI c2) (nI f) (nI k) (nI k0) (nI n) (nI q) := by
        unfold f12_laysHunks_53_s f12_laysHunks_82
        have hq : oI (some q) = nI q := rfl
        simp (disch := omega) only [s12_sizeOf h1 hf, g3a, o1_some, q_lt, if_pos, q_in, q_nc, g54, this, hq, q_no, q_no_eq, if_false]
      show ∃ M' k' n' L', f12_laysHunks_53_s T t M (nI w) (nI c1) (nI c2) (nI f) (nI k) (nI k0) (nI n) = _ ∧ _
      rw [e2]
      exact key
  · rintro t - ⟨j1, j2, j3, j4⟩
    rw [List.drop_of_length_le (by omega)] at j3 j4
    have key := stop a b j1 (Nat.le_refl _) (Or.inl ⟨rfl, rfl⟩) i4 (by rw [if_neg (Nat.lt_irrefl _), if_neg (Nat.lt_irrefl _), List.drop_of_length_le (by omega)]; exact Nat.le_refl _) (by
      rw [if_neg (Nat.lt_irrefl _), if_neg (Nat.lt_irrefl _), List.drop_of_length_le (by omega)]
      have z : hks ([] : List (Option Nat)) a a b b = [] := by
        show (if a < a ∨ b < b then [(a, a - a, b, b - b)] else []) = []
        rw [if_neg (by omega)]
      rw [z, List.append_nil]
      exact j4)
    have e2 : f12_laysHunks_53_s T t M (nI w) (nI c1) (nI c2) (nI f) (nI a) (nI k0) (nI n) = f12_laysHunks_111 T M (nI w) (nI c1) (nI c2) (nI f) (nI a) (nI k0) (nI n) (nI b) := by
      unfold f12_laysHunks_53_s f12_laysHunks_82
      rw [s12_sizeOf h1 hf, g3a, o1_some, o1_some, if_neg (by rw [q_lt (by omega) (by omega)]; omega), if_neg (by rw [q_lt (by omega) (by omega)]; omega), s12_sizeOf h2 hf, g3b, o1_some]
    show ∃ M' k' n' L', f12_laysHunks_53_s T t M (nI w) (nI c1) (nI c2) (nI f) (nI a) (nI k0) (nI n) = _ ∧ _
    rw [e2]
    exact key
theorem s12_laysHunks {M0 : rv_Mem} {w c1 c2 f : Nat} {A B : List Int32} (hw : w < 4) (h1 : c1 < 82) (h2 : c2 < 82) (hf : f < 4) (hA : fileR M0 c1 f A) (hB : fileR M0 c2 f B) :
    ∃ M', f12_laysHunks M0 (nI w) (nI c1) (nI c2) (nI f) = some M' ∧ (∀ q, q < 53 ∨ 61 < q → M' q = M0 q) ∧ (∀ q, 55 ≤ q → q ≤ 60 → ∀ i, i < 15 * w ∨ 15 * w + 15 ≤ i → M' q i = M0 q i) ∧ (∀ i, i ≠ w → M' 61 i = M0 61 i) ∧ hokR M' w c1 c2 (hk (A.map (wd (rv_z (M0 64 0)))) (B.map (wd (rv_z (M0 64 0))))) := by
  obtain ⟨a1, a2, a3⟩ := hA
  obtain ⟨b1, b2, b3⟩ := hB
  have eA : (List.range A.length).map (fun i => wd (rv_z (M0 64 0)) (M0 4 (10 * (4 * c1 + f) + i))) = A.map (wd (rv_z (M0 64 0))) := range_map_ext (by simp) (fun p hp => by rw [map_getD hp, a3 p hp])
  have eB : (List.range B.length).map (fun i => wd (rv_z (M0 64 0)) (M0 4 (10 * (4 * c2 + f) + i))) = B.map (wd (rv_z (M0 64 0))) := range_map_ext (by simp) (fun p hp => by rw [map_getD hp, b3 p hp])
  obtain ⟨M1, g1, g2, g3⟩ := s12_pairs (M0 := M0) (A := fun i => wd (rv_z (M0 64 0)) (M0 4 (10 * (4 * c1 + f) + i))) (B := fun i => wd (rv_z (M0 64 0)) (M0 4 (10 * (4 * c2 + f) + i))) a1 b1 h1 h2 hf a2 b2 (fun _ => rfl) (fun _ => rfl)
  rw [eA, eB] at g3
  have hk0 := mok_mts _ (A.map (wd (rv_z (M0 64 0)))) (B.map (wd (rv_z (M0 64 0)))) 0 (Nat.le_refl _)
  rw [Nat.zero_add] at hk0
  simp only [List.length_map] at hk0
  have eH : hk (A.map (wd (rv_z (M0 64 0)))) (B.map (wd (rv_z (M0 64 0)))) = hks (mts (A.map (wd (rv_z (M0 64 0)))) (B.map (wd (rv_z (M0 64 0)))) 0) 0 0 0 B.length := by unfold hk; rw [List.length_map]
  rw [eH]
  generalize mts (A.map (wd (rv_z (M0 64 0)))) (B.map (wd (rv_z (M0 64 0)))) 0 = F at g3 hk0 ⊢
  have x3 : (rv_u M1 61 w (nI 0)) 3 = M0 3 := by rw [mu_ne (by omega)]; exact g2 3 (by omega) (by omega)
  have x54 : (rv_u M1 61 w (nI 0)) 54 = M1 54 := mu_ne (by omega)
  have L := rv_wl (z := (fun _ _ _ _ _ _ _ => none)) (F := f12_laysHunks_21_s) (fun T (s : rv_Mem × Nat × Nat × List (Nat × Nat × Nat × Nat)) => T s.1 (nI w) (nI c1) (nI c2) (nI f) (nI s.2.1) (nI s.2.2.1)) (fun s => (A.length - s.2.1) + (B.length - s.2.2.1)) (fun s => hlI (rv_u M1 61 w (nI 0)) w c1 c2 A.length B.length F s.1 s.2.1 s.2.2.1 s.2.2.2) (fun _ r => ∃ M', r = some M' ∧ frR w M' (rv_u M1 61 w (nI 0)) ∧ hokR M' w c1 c2 (hks F 0 0 0 B.length)) ?_ rv_FU (rv_u M1 61 w (nI 0), 0, 0, []) ⟨⟨fun _ _ => rfl, fun _ _ _ _ _ => rfl, fun _ _ => rfl⟩, ⟨mu_same _ _ _ _, fun i p d q e h => by simp at h⟩, Nat.zero_le _, Nat.zero_le _, hk0.1, by simp, fun _ => Nat.le_refl _⟩ (FU_lt (by show A.length - 0 + (B.length - 0) < 100000; omega))
  · obtain ⟨M', k1, k2, k3⟩ := L
    refine ⟨M', ?_, fun q hq => ?_, fun q q1 q2 i hi => ?_, fun i hi => ?_, k3⟩
    · unfold f12_laysHunks
      rw [g1, o1_some, if_pos (q_inb hw (by omega)), q_nc (by omega)]
      exact k1
    · rw [k2.1 q (by omega), mu_ne (by omega), g2 q (by omega) (by omega)]
    · rw [k2.2.1 q q1 q2 i hi, mu_ne (by omega), g2 q (by omega) (by omega)]
    · rw [k2.2.2 i hi, mu_ne2 hi, g2 61 (by omega) (by omega)]
  · rintro T ⟨M, k, n, L⟩ hI
    have hI : hlI (rv_u M1 61 w (nI 0)) w c1 c2 A.length B.length F M k n L := hI
    by_cases c : k < A.length ∨ n < B.length
    · right
      obtain ⟨M', k', n', L', r1, r2, r3⟩ := s12_hstep (T := T) hw h1 h2 hf (by rw [x3]; exact a2) (by rw [x3]; exact b2) a1 b1 hk0.2 (by rw [x54]; exact g3) hI c
      exact ⟨(M', k', n', L'), r2, r3, r1, fun r hr => hr⟩
    · left
      obtain ⟨i1, i2, i3, i4, i5, i6, i7⟩ := hI
      have ek : k = A.length := by omega
      have en : n = B.length := by omega
      subst ek; subst en
      rw [List.drop_of_length_le (by omega)] at i6
      have i6 : L ++ (if A.length < A.length ∨ B.length < B.length then [(A.length, A.length - A.length, B.length, B.length - B.length)] else []) = hks F 0 0 0 B.length := i6
      rw [if_neg (by omega), List.append_nil] at i6
      refine ⟨M, ?_, i1, i6 ▸ i2⟩
      show f12_laysHunks_21_s T M (nI w) (nI c1) (nI c2) (nI f) (nI A.length) (nI B.length) = _
      unfold f12_laysHunks_21_s
      rw [s12_sizeOf h1 hf, i1.1 3 (by omega), x3, a2, o1_some, if_pos (by rw [q_le (by omega) (by omega)]; omega), s12_sizeOf h2 hf, i1.1 3 (by omega), x3, b2, o1_some, if_neg (by rw [q_lt (by omega) (by omega)]; omega)]
