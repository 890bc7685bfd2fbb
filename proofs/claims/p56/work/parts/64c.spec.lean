/-! THE PURE PART: what is computed, as functions of the reference's memory R (n: how many commits) -/
/-- a file's lines -/
def fl (R : rv_Mem) (c f : Nat) : List Int32 := (List.range (R 3 (4 * c + f)).toNatClampNeg).map (fun p => R 4 (10 * (4 * c + f) + p))
/-- how many lines can be paired -/
def lcs : List Int32 → List Int32 → Nat
  | [], _ => 0
  | _ :: _, [] => 0
  | x :: xs, y :: ys => if x = y then lcs xs ys + 1 else max (lcs xs (y :: ys)) (lcs (x :: xs) ys)
termination_by a b => a.length + b.length
/-- for each line of the first list the place of its mate in the second one, which begins at n -/
def mts : List Int32 → List Int32 → Nat → List (Option Nat)
  | [], _, _ => []
  | x :: xs, [], _ => none :: xs.map (fun _ => none)
  | x :: xs, y :: ys, n => if x = y then some n :: mts xs ys (n + 1) else if lcs xs (y :: ys) = lcs (x :: xs) (y :: ys) then none :: mts xs (y :: ys) n else mts (x :: xs) ys (n + 1)
termination_by a b _ => a.length + b.length
/-- the hunks: first dropped place, how many dropped, first added place, how many added -/
def hks : List (Option Nat) → Nat → Nat → Nat → Nat → List (Nat × Nat × Nat × Nat)
  | [], e, a, w, n => if a < e ∨ w < n then [(a, e - a, w, n - w)] else []
  | none :: ms, e, a, w, n => hks ms (e + 1) a w n
  | some q :: ms, e, a, w, n => (if a < e ∨ w < q then [(a, e - a, w, q - w)] else []) ++ hks ms (e + 1) (e + 1) (q + 1) n
def hk (a b : List Int32) : List (Nat × Nat × Nat × Nat) := hks (mts a b 0) 0 0 0 b.length
def sl (l : List Int32) (i n : Nat) : List Int32 := (l.drop i).take n
def alk (a b : List Int32) (h : Nat × Nat × Nat × Nat) (a' b' : List Int32) (h' : Nat × Nat × Nat × Nat) : Bool := decide (h.2.1 = h'.2.1) && decide (h.2.2.2 = h'.2.2.2) && decide (sl a h.1 h.2.1 = sl a' h'.1 h'.2.1) && decide (sl b h.2.2.1 h.2.2.2 = sl b' h'.2.2.1 h'.2.2.2)
def allalk (a b a' b' : List Int32) : Bool := decide ((hk a b).length = (hk a' b').length) && ((hk a b).zip (hk a' b')).all (fun q => alk a b q.1 a' b' q.2)
/-- the last commit below n with an owner and a set -/
def mFind (r5 r6 : Nat → Int32) (h s : Int32) (c : Nat) (a : Int32) : Int32 := if r5 c = h ∧ r6 c = s then nI c else a
def mAt (n : Nat) (r5 r6 : Nat → Int32) (h s : Int32) : Int32 := up (mFind r5 r6 h s) n 0 NO
/-- the kind of a patch set's commit -/
def kindS (n : Nat) (R : rv_Mem) (c : Nat) : Int32 :=
  if R 6 c = 0 then 0
  else
    let b := (mAt n (R 5) (R 6) (R 5 c) (R 6 c - 1)).toNatClampNeg
    if R 2 c = R 2 b then (if (List.range 4).all (fun f => decide (fl R c f = fl R b f)) = true then 2 else 0)
    else (if (List.range 4).all (fun f => allalk (fl R (R 2 c).toNatClampNeg f) (fl R c f) (fl R (R 2 b).toNatClampNeg f) (fl R b f)) = true then 1 else 0)
/-- whether a person is a reviewer of the change h -/
def revB (n cm : Nat) (r5 r12 r19 r22 r25 r26 r32 : Nat → Int32) (h p : Nat) : Bool := !decide (r12 h = nI p) &&
  (bt (r19 h) p || (List.range cm).any (fun k => decide (r26 k = nI h) && !rv_z (r32 k) && decide (r25 k = nI p)) || (List.range n).any (fun c => decide (r5 c = nI h) && decide (p < 6) && (decide (r22 (12 * c + 2 * p) ≠ 0) || decide (r22 (12 * c + 2 * p + 1) ≠ 0))))
/-- one rule's least height; one round over the rules -/
def rlh (r47 r48 : Nat → Int32) (ht : Nat → Nat) (u : Nat) : Nat := up (fun s least => max least (if bt (r48 u) s = true then ht s + 1 else if bt (r47 u) s = true then ht s else 0)) 8 8 0
def rl1 (r46 r47 r48 r49 : Nat → Int32) (u : Nat) (ht : Nat → Nat) : Nat → Nat := fun s => if s = (r46 u).toNatClampNeg ∧ rv_z (r49 u) = false then max (ht s) (rlh r47 r48 ht u) else ht s
def rlr (nr : Nat) (r46 r47 r48 r49 : Nat → Int32) (ht : Nat → Nat) : Nat → Nat := up (rl1 r46 r47 r48 r49) nr 0 ht
/-- the heights, after k rounds -/
def rlk (nr : Nat) (r46 r47 r48 r49 : Nat → Int32) : Nat → Nat → Nat
  | 0 => fun _ => 0
  | k + 1 => rlr nr r46 r47 r48 r49 (rlk nr r46 r47 r48 r49 k)
/-! THE RELATION, in groups of rows -/
def A_cnt (n : Nat) (gh : rC_gh) (C R : rv_Mem) : Prop := (2 ≤ n ∧ n ≤ 80) ∧ C 1 10 = nI n ∧ R 0 0 = nI n ∧ gh.1 0 ≤ 20 ∧ R 11 0 = nI (gh.1 0) ∧ gh.1 1 ≤ 60 ∧ R 24 0 = nI (gh.1 1) ∧ gh.1 2 ≤ 40 ∧ R 34 0 = nI (gh.1 2) ∧ rv_z (R 64 0) = false
def A_fil (n : Nat) (c14 c15 r3 r4 : Nat → Int32) : Prop := ∀ c, c < n ∨ c = 80 → ∀ f, f < 4 → ∃ s, s ≤ 10 ∧ c15 (4 * c + f) = nI s ∧ r3 (4 * c + f) = nI s ∧ ∀ p, p < s → ∃ v, v < 400 ∧ c14 (10 * (4 * c + f) + p) = nI v ∧ r4 (10 * (4 * c + f) + p) = nI v
def A_bas (n : Nat) (c16 c17 c18 r1 r2 r8 : Nat → Int32) : Prop := (∀ c, c < n → (∃ r, r < 2 ∧ c16 c = nI r ∧ r1 c = nI r) ∧ c18 c = r8 c) ∧ (∀ c, c < 2 → c17 c = NO ∧ r2 c = NO) ∧ (∀ c, 2 ≤ c → c < n → ∃ b, b < c ∧ c17 c = nI b ∧ r2 c = nI b ∧ r1 b = r1 c) ∧ ∃ b, b < n ∧ c17 80 = nI b ∧ r2 80 = nI b
def A_tip (n : Nat) (c22 c51 r1 r9 r10 : Nat → Int32) : Prop := ∀ r, r < 2 → (∃ t, t < n ∧ c22 r = nI t ∧ r9 r = nI t ∧ r1 t = nI r) ∧ ∃ w, w < 3 ∧ c51 r = nI w ∧ r10 r = nI w
/-- owners of commits: none, or a set of a change -/
def A_own (n ch : Nat) (C1 : Nat → Nat → Int32) (c19 c20 r5 r6 r7 r14 : Nat → Int32) : Prop := ∀ c, c < n → (c19 c = NO ∧ r5 c = NO) ∨ ∃ h s p, h < ch ∧ 2 ≤ c ∧ c19 c = nI h ∧ r5 c = nI h ∧ r6 c = nI s ∧ s < (r14 h).toNatClampNeg ∧ C1 (120 + h) s = nI c ∧ p < 6 ∧ c20 c = nI p ∧ r7 c = nI p
def A_set (n ch : Nat) (C : rv_Mem) (r5 r6 r14 : Nat → Int32) : Prop := (∀ h, h < ch → ∃ k, 1 ≤ k ∧ k ≤ 80 ∧ C (100 + h) 4 = nI k ∧ r14 h = nI k ∧ C 23 h = C (120 + h) (k - 1) ∧ ∀ j, j < k → ∃ c, 2 ≤ c ∧ c < n ∧ C (120 + h) j = nI c ∧ r5 c = nI h ∧ r6 c = nI j) ∧ ∀ h, ch ≤ h → h < 20 → C 23 h = NO
/-- the current commit of a change; its parent -/
def curS (n : Nat) (R : rv_Mem) (h : Nat) : Int32 := mAt n (R 5) (R 6) (nI h) (R 14 h - 1)
def parS (n : Nat) (R : rv_Mem) (h : Nat) : Int32 := R 5 (R 2 (curS n R h).toNatClampNeg).toNatClampNeg
def A_chg (n ch : Nat) (C R : rv_Mem) : Prop := ∀ h, h < ch → C (100 + h) 0 = nI h ∧ (∃ p, p < 6 ∧ C (100 + h) 1 = nI p ∧ R 12 h = nI p) ∧
  (∃ r, r < 2 ∧ C (100 + h) 2 = nI r ∧ (∀ c, c < n → R 5 c = nI h → R 1 c = nI r) ∧ (R 13 h = nI 1 → ∃ c, c < n ∧ C (100 + h) 12 = nI c ∧ R 18 h = nI c ∧ (R 5 c = NO ∨ R 5 c = nI h) ∧ R 1 c = nI r)) ∧
  (∃ s, s < 3 ∧ C (100 + h) 5 = nI s ∧ R 13 h = nI s) ∧ rv_z (C (100 + h) 6) = rv_z (R 15 h) ∧ rv_z (C (100 + h) 7) = rv_z (R 16 h) ∧
  (C (100 + h) 8 = R 17 h ∧ (R 17 h = NO ∨ ∃ t, t < 4 ∧ R 17 h = nI t)) ∧ C (100 + h) 10 = R 20 h ∧
  ∃ d, d ≤ (R 52 0).toNatClampNeg ∧ R 21 h = nI d ∧ (R 13 h ≠ nI 2 → C (100 + h) 11 = nI d)
def A_new (ch : Nat) (R : rv_Mem) : Prop := ∀ h, ch ≤ h → h < 20 → rv_z (R 15 h) = false ∧ rv_z (R 16 h) = false ∧ R 19 h = 0 ∧ R 20 h = 0
def A_par (n ch : Nat) (R : rv_Mem) : Prop := (∃ ρ : Nat → Nat, ∀ h g, h < ch → parS n R h = nI g → ρ g < ρ h) ∧ ∃ F : Nat → Prop, (∀ r g, r < 2 → g < ch → R 5 (R 9 r).toNatClampNeg = nI g → F g) ∧ ∀ g, F g → R 13 g = nI 1 ∧ ∀ g', g' < ch → parS n R g = nI g' → F g'
def A_kin (n : Nat) (C R : rv_Mem) : Prop := ∀ c, c < n → R 5 c ≠ NO → C 21 c = kindS n R c
def A_rev (n ch cm : Nat) (C R : rv_Mem) : Prop := ∀ h, h < ch → ∀ i, i < 32 → bt (C (100 + h) 9) i = revB n cm (R 5) (R 12) (R 19) (R 22) (R 25) (R 26) (R 32) h i
def A_vot (n : Nat) (c41 c42 r22 r23 : Nat → Int32) : Prop := (∀ c l p, c < 80 → l < 2 → p < 6 → (r22 (12 * c + 2 * p + l) = nI 0 ∧ c41 ((2 * c + l) * 6 + p) = -9) ∨ (c < n ∧ ∃ v, 1 ≤ v ∧ v ≤ 5 ∧ (l = 1 → 2 ≤ v ∧ v ≤ 4) ∧ r22 (12 * c + 2 * p + l) = nI v ∧ c41 ((2 * c + l) * 6 + p) = nI v - nI 3)) ∧ ∀ i, i < 6 → ∃ v, v < 32 ∧ c42 i = nI v ∧ r23 i = nI v
def A_cmt (ch cm n : Nat) (gh : rC_gh) (C R : rv_Mem) : Prop := ∀ j, j < cm → (∃ p, p < 6 ∧ C (200 + j) 0 = nI p ∧ R 25 j = nI p) ∧ ((R 31 j = NO ∧ C (200 + j) 1 = nI j) ∨ ∃ t, t < j ∧ R 31 j = nI t ∧ C (200 + j) 1 = nI t ∧ R 31 t = NO) ∧
  rv_z (C (200 + j) 2) = rv_z (R 33 j) ∧ rv_z (C (200 + j) 4) = !rv_z (R 32 j) ∧ rC_is gh 8 (gh.2 (200 + j)) = true ∧
  ∃ h s f a k, h < ch ∧ s < (R 14 h).toNatClampNeg ∧ f < 4 ∧ 1 ≤ k ∧ C (gh.2 (200 + j)) 0 = nI h ∧ R 26 j = nI h ∧ C (gh.2 (200 + j)) 1 = nI s ∧ R 27 j = nI s ∧ C (gh.2 (200 + j)) 2 = nI f ∧ R 28 j = nI f ∧ C (gh.2 (200 + j)) 3 = nI a ∧ R 29 j = nI a ∧ C (gh.2 (200 + j)) 4 = nI k ∧ R 30 j = nI k ∧ a + k ≤ (R 3 (4 * (mAt n (R 5) (R 6) (nI h) (nI s)).toNatClampNeg + f)).toNatClampNeg
def A_fnd (ch fd n : Nat) (C R : rv_Mem) : Prop := ∀ j, j < fd → ∃ h s f a k, h < ch ∧ s < (R 14 h).toNatClampNeg ∧ f < 4 ∧ C (500 + j) 0 = nI h ∧ R 35 j = nI h ∧ C (500 + j) 1 = nI s ∧ R 36 j = nI s ∧ C (500 + j) 2 = nI f ∧ R 37 j = nI f ∧ C (500 + j) 3 = nI a ∧ R 38 j = nI a ∧ C (500 + j) 4 = nI k ∧ R 39 j = nI k ∧
  C (400 + j) 0 = mAt n (R 5) (R 6) (nI h) (nI s) ∧ a + k ≤ (R 3 (4 * (mAt n (R 5) (R 6) (nI h) (nI s)).toNatClampNeg + f)).toNatClampNeg ∧ C (400 + j) 1 = R 40 j ∧ (R 40 j = NO ∨ ∃ v, v < 400 ∧ R 40 j = nI v)
def A_ols (C R : rv_Mem) : Prop := (∀ i, i < 14 → (∃ v, v < 64 ∧ C 48 i = nI v ∧ R 41 i = nI v) ∧ rv_z (C 49 i) = rv_z (R 42 i)) ∧ (∀ i, i < 4 → rv_z (C 50 i) = rv_z (R 43 i)) ∧ ∃ p, p < 6 ∧ C 5 3 = nI p ∧ R 44 0 = nI p
def A_rul (C R : rv_Mem) : Prop := ∃ nr, 1 ≤ nr ∧ nr ≤ 20 ∧ C 4 6 = nI nr ∧ R 45 0 = nI nr ∧ (∀ i, i < nr → (∃ s, 8 ≤ s ∧ s < 16 ∧ C 43 i = nI s ∧ R 46 i = nI s) ∧ (∃ v, v < 65536 ∧ C 44 i = nI v ∧ R 47 i = nI v) ∧ (∃ v, v < 65536 ∧ C 45 i = nI v ∧ R 48 i = nI v) ∧ rv_z (C 46 i) = rv_z (R 49 i)) ∧
  rlr nr (R 46) (R 47) (R 48) (R 49) (rlk nr (R 46) (R 47) (R 48) (R 49) 16) = rlk nr (R 46) (R 47) (R 48) (R 49) 16 ∧ (∀ s, s < 16 → C 47 s = nI (rlk nr (R 46) (R 47) (R 48) (R 49) 16 s)) ∧ ∃ m, C 4 5 = nI m ∧ m < 17 ∧ (∀ s, s < 16 → rlk nr (R 46) (R 47) (R 48) (R 49) 16 s ≤ m) ∧ (m = 0 ∨ ∃ s, s < 16 ∧ rlk nr (R 46) (R 47) (R 48) (R 49) 16 s = m)
def A_mis (C R : rv_Mem) : Prop := (∀ r, r < 2 → C 12 r = R 50 r) ∧ (∀ p, p < 6 → C 13 p = R 51 p) ∧ ∃ d, d ≤ 10000 ∧ C 0 11 = nI d ∧ R 52 0 = nI d
def Rn (n : Nat) (gh : rC_gh) (C R : rv_Mem) : Prop := A_cnt n gh C R ∧ A_fil n (C 14) (C 15) (R 3) (R 4) ∧ A_bas n (C 16) (C 17) (C 18) (R 1) (R 2) (R 8) ∧ A_tip n (C 22) (C 51) (R 1) (R 9) (R 10) ∧ A_own n (gh.1 0) C (C 19) (C 20) (R 5) (R 6) (R 7) (R 14) ∧ A_set n (gh.1 0) C (R 5) (R 6) (R 14) ∧ A_chg n (gh.1 0) C R ∧ A_new (gh.1 0) R ∧ A_par n (gh.1 0) R ∧ A_kin n C R ∧ A_rev n (gh.1 0) (gh.1 1) C R ∧ A_vot n (C 41) (C 42) (R 22) (R 23) ∧ A_cmt (gh.1 0) (gh.1 1) n gh C R ∧ A_fnd (gh.1 0) (gh.1 2) n C R ∧ A_ols C R ∧ A_rul C R ∧ A_mis C R ∧ rC_ok gh = true
def Rel (gh : rC_gh) (C R : rv_Mem) : Prop := ∃ n, Rn n gh C R
