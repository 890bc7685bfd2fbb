/-! THE CLASS'S MEMORY: keys 0..8 the parts (0 the house, 1 the store, 2 the comparer, 3 votes, 4 rules, 5 owners, 6 landing, 7 and 8 the comparisons), 9..11 the lists, 12..52 arrays, 100.. changes, 120.. their commits, 200.. comments, 300.. their places, 400.. findings, 500.. their places. gh: how many things each list has; the place of each comment. -/
abbrev rC_gh : Type := (Nat → Nat) × (Nat → Nat)
def rC_kt : List Nat := [112, 110, 103, 111, 109, 107, 106, 104, 104, 0, 0, 0, 2, 2, 2, 2, 2, 2, 2, 2, 2, 2, 2, 2, 2, 2, 2, 2, 2, 2, 2, 2, 2, 2, 2, 2, 2, 2, 2, 2, 2, 2, 2, 2, 2, 2, 3, 2, 2, 3, 3, 2, 2]
def rC_lt : List Nat := [0, 0, 0, 0, 0, 0, 0, 0, 0, 0, 0, 0, 2, 6, 3280, 328, 82, 82, 82, 82, 82, 82, 2, 20, 11, 10, 10, 10, 10, 121, 121, 10, 10, 11, 11, 11, 11, 11, 11, 11, 11, 960, 6, 20, 20, 20, 20, 16, 14, 14, 4, 2, 20]
def rC_ft (ci : Nat) : List (Nat × Nat) := match ci with
  | 1 => [(0, 0), (0, 0), (0, 0), (3, 20), (0, 0), (0, 0), (1, 0), (1, 0), (0, 0), (0, 0), (0, 0), (0, 0), (0, 0)]
  | 2 => [(0, 0), (0, 0), (1, 0), (4, 0), (1, 0)]
  | 3 => [(2, 1), (2, 7), (2, 8), (2, 24)]
  | 4 => [(3, 18), (3, 20), (3, 22), (3, 24), (3, 26), (3, 28), (3, 30), (3, 32), (0, 0), (0, 0), (0, 0)]
  | 5 => [(0, 0), (0, 0), (3, 100)]
  | 6 => [(2, 1), (2, 2), (2, 9), (2, 51), (2, 52), (0, 0)]
  | 7 => [(2, 48), (2, 49), (2, 50), (0, 0)]
  | 8 => [(0, 0), (0, 0), (0, 0), (0, 0), (0, 0)]
  | 9 => [(2, 43), (2, 44), (2, 45), (2, 46), (2, 47), (0, 0), (0, 0)]
  | 10 => [(2, 14), (2, 15), (2, 16), (2, 17), (2, 18), (2, 19), (2, 20), (2, 21), (2, 22), (2, 23), (0, 0)]
  | 11 => [(2, 1), (2, 41), (2, 42)]
  | 12 => [(2, 1), (2, 2), (2, 3), (2, 4), (2, 5), (2, 9), (2, 10), (2, 11), (2, 6), (2, 12), (2, 13), (0, 0)]
  | _ => []
def rC_kd (k : Nat) : Nat := if k < 53 then rC_kt.getD k 0 else if 100 ≤ k ∧ k < 120 then 101 else if 120 ≤ k ∧ k < 140 then 2 else if 200 ≤ k ∧ k < 260 then 102 else if 300 ≤ k ∧ k < 360 then 108 else if 400 ≤ k ∧ k < 440 then 105 else if 500 ≤ k ∧ k < 540 then 108 else 0
def rC_ln (k : Nat) : Nat := if k < 53 then rC_lt.getD k 0 else 80
def rC_dm (gh : rC_gh) (k : Nat) : Bool := if k < 53 then rC_kt.getD k 0 != 0 else if 100 ≤ k ∧ k < 120 then decide (k < 100 + gh.1 0) else if 120 ≤ k ∧ k < 140 then decide (k < 120 + gh.1 0) else if 200 ≤ k ∧ k < 260 then decide (k < 200 + gh.1 1) else if 300 ≤ k ∧ k < 360 then decide (k < 300 + gh.1 1) && gh.2 (k - 100) == k else if 400 ≤ k ∧ k < 440 then decide (k < 400 + gh.1 2) else if 500 ≤ k ∧ k < 540 then decide (k < 500 + gh.1 2) else false
def rC_fv (ad : Nat → Nat) (gh : rC_gh) (M : rv_Mem) (k : Nat) (f : Nat × Nat) (j : Nat) : Value := match f.1 with
  | 0 => .int (M k j)
  | 1 => .int (rv_i (rv_z (M k j)))
  | 2 => .ref (ad f.2)
  | 3 => .ref (ad (k + f.2))
  | _ => .ref (ad (gh.2 k))
def rC_fl (ad : Nat → Nat) (gh : rC_gh) (M : rv_Mem) (ci k : Nat) : List Value := (List.range (rC_ft ci).length).map (fun j => rC_fv ad gh M k ((rC_ft ci).getD j (0, 0)) j)
def rC_ent (cI cZ : ClassId) (ad : Nat → Nat) (gh : rC_gh) (M : rv_Mem) (k : Nat) : va_E := if 100 ≤ rC_kd k then .inr (rC_kd k - 100, rC_fl ad gh M (rC_kd k - 100) k) else if rC_kd k = 3 then .inl (cZ, rC_ln k, .inl (fun i => rv_i (rv_z (M k i)))) else .inl (cI, rC_ln k, .inl (M k))
/-- what a list lies in: its own array, or, while it is empty, the JDK's -/
def rC_LA (D : va_G) (cO : ClassId) (e n cap : Nat) (f : Nat → Option Nat) (H : Heap) : Prop := (∃ cell : Cell, H[e]? = some cell ∧ (∀ k, cell.vm ≠ .statics k) ∧ cell.cls = cO ∧ cell.slots.size = cap) ∧ (0 < n → va_at D vwCl (e, .inl (cO, cap, .inr (.inr (.inr (.inr f))))) H)
theorem rC_LA.lt {D : va_G} {cO : ClassId} {e n cap : Nat} {f : Nat → Option Nat} {H : Heap} (h : rC_LA D cO e n cap f H) : e < H.size := by
  obtain ⟨⟨cell, h1, -⟩, -⟩ := h
  exact (Array.getElem?_eq_some_iff.mp h1).1
theorem rC_LA.kept {D : va_G} {cO : ClassId} {e n cap : Nat} {f : Nat → Option Nat} {H H1 : Heap} (h : rC_LA D cO e n cap f H) (hq : H1[e]? = H[e]?) : rC_LA D cO e n cap f H1 := by
  refine ⟨?_, fun z => va_at.kept (h.2 z) hq⟩
  obtain ⟨cell, h1, h2⟩ := h.1
  exact ⟨cell, hq.trans h1, h2⟩
theorem rC_LA.of {D : va_G} {cO : ClassId} {e n cap : Nat} {f : Nat → Option Nat} {H : Heap} (h : va_at D vwCl (e, .inl (cO, cap, .inr (.inr (.inr (.inr f))))) H) : rC_LA D cO e n cap f H := by
  have h9 : H[e]? = some (arrV cO cap (fun j => va_rf (f j))) := h
  exact ⟨⟨_, h9, fun k z => (by cases z), rfl, arrV_size _ _ _⟩, fun _ => h⟩
theorem rC_LA.alen {p : Program} {l : Launch} {e9 : Env} {R : Room} {s : State} {m : MethodId} {args : Array Value} {below : List Frame} {meth : Method} {c : Code} {cells slots pc : Nat} {Q : State → Prop} {H : Heap} {locs : List Loc} {ls : Array Slot} {rest : List Value} {cc : ByteArray} {D : va_G} {cI cZ cO : ClassId} {e n cap : Nat} {f : Nat → Option Nat} {v : Int32} (hexec : p.tables.exec = Jvm.exec) (hb : c.code = cc) (hK : va_K D vwCl [(cI, .int), (cZ, .boolean), (cO, .object "java/lang/Object")] s) (h : rC_LA D cO e n cap f H) (hv : Int32.ofNat cap = v) (hdg : decode cc pc = .ok (.arraylength, 1))
    (kk : W p l e9 R s m args below meth c H locs cells slots Q (F0 m (pc + 1) ls (.int v :: rest))) : W p l e9 R s m args below meth c H locs cells slots Q (F0 m pc ls (.ref e :: rest)) := by
  subst hv
  obtain ⟨⟨cell, h1, h2, h3, h4⟩, -⟩ := h
  obtain ⟨-, k, hk, comp, hk2⟩ := (hK.2 2 _ rfl).1 0 (fun _ => .null)
  exact W.alen (n := Int32.ofNat cap) hexec hb h1 ⟨h2, k, by rw [h3]; exact hk, comp, hk2⟩ (by rw [h4] <;> rfl) rfl rfl hdg kk
/-- a list of n things at the keys b, b + 1 .. -/
def rC_L (D : va_G) (cO : ClassId) (ad : Nat → Nat) (gh : rC_gh) (de : Nat) (lk n b : Nat) (H : Heap) : Prop := ∃ (cap : Nat) (mc : Int32) (f : Nat → Option Nat),
  va_at D vwCl (ad lk, .inr (0, [.int mc, .ref (ad (lk + 44)), .int (nI n)])) H ∧ rC_LA D cO (ad (lk + 44)) n cap f H ∧ n ≤ cap ∧ cap ≤ 100 ∧ (n = 0 → ad (lk + 44) = de ∧ cap = 0) ∧ (0 < n → 10 ≤ cap) ∧ (∀ j, j < n → f j = some (ad (b + j))) ∧ (∀ j, n ≤ j → f j = none) ∧ ∀ k, rC_dm gh k = true ∨ (9 ≤ k ∧ k < 12) → ad k ≠ ad (lk + 44)
def rC_b (i : Nat) : Nat := if i = 0 then 100 else if i = 1 then 200 else 400
def rC_G (D : va_G) (cI cZ cO : ClassId) (ad : Nat → Nat) (gh : rC_gh) (de : Nat) (M : rv_Mem) (H : Heap) : Prop := (∀ k, rC_dm gh k = true → va_at D vwCl (ad k, rC_ent cI cZ ad gh M k) H) ∧ ∀ i, i < 3 → rC_L D cO ad gh de (9 + i) (gh.1 i) (rC_b i) H
def rC_K (ad : Nat → Nat) (gh : rC_gh) (q : Nat) : Prop := ∃ k, rC_dm gh k = true ∧ ad k = q
/-- the keys' cells are apart; no list has more than its bound -/
def rC_I (ad : Nat → Nat) (gh : rC_gh) : Prop := (∀ i j, rC_dm gh i = true ∨ (9 ≤ i ∧ i < 12) → rC_dm gh j = true ∨ (9 ≤ j ∧ j < 12) → ad i = ad j → i = j) ∧ gh.1 0 ≤ 20 ∧ gh.1 1 ≤ 60 ∧ gh.1 2 ≤ 40 ∧ ∀ i j, i < 3 → j < 3 → i ≠ j → 0 < gh.1 i → ad (9 + i + 44) ≠ ad (9 + j + 44)
def rC_at (gh : rC_gh) (k ci : Nat) : Prop := rC_dm gh k = true ∧ rC_kd k = 100 + ci
def rC_is (gh : rC_gh) (ci k : Nat) : Bool := rC_dm gh k && rC_kd k == 100 + ci
theorem rC_at_of {gh : rC_gh} {k ci : Nat} (h : rC_is gh ci k = true) : rC_at gh k ci := by simpa [rC_is, rC_at] using h
def rC_ar (gh : rC_gh) (k kd n : Nat) : Prop := rC_dm gh k = true ∧ rC_kd k = kd ∧ rC_ln k = n
def rC_isA (gh : rC_gh) (k : Nat) : Bool := rC_dm gh k && rC_kd k == 2
theorem rC_arP {gh : rC_gh} {k : Nat} (h : rC_isA gh k = true) : rC_ar gh k 2 (rC_ln k) := by simpa [rC_isA, rC_ar] using h
theorem rC_isCh {gh : rC_gh} {k : Nat} (h : rC_is gh 1 k = true) : 100 ≤ k ∧ k < 120 ∧ k < 100 + gh.1 0 := by
  obtain ⟨h1, h2⟩ := rC_at_of h
  have h3 : 100 ≤ k ∧ k < 120 := by
    unfold rC_kd at h2
    by_cases c1 : k < 53
    · rw [if_pos c1] at h2
      have : ∀ k, k < 53 → rC_kt.getD k 0 ≠ 101 := by decide
      exact absurd h2 (this k c1)
    · rw [if_neg c1] at h2
      (repeat' split at h2) <;> omega
  refine ⟨h3.1, h3.2, ?_⟩
  unfold rC_dm at h1
  rw [if_neg (by omega), if_pos h3] at h1
  simpa using h1
theorem rC_arCh {gh : rC_gh} {k : Nat} (h : rC_is gh 1 k = true) : rC_ar gh (k + 20) 2 80 := by
  obtain ⟨h1, h2, h3⟩ := rC_isCh h
  refine ⟨?_, ?_, ?_⟩
  · unfold rC_dm
    rw [if_neg (by omega), if_neg (by omega), if_pos (by omega)]
    simp; omega
  · unfold rC_kd
    rw [if_neg (by omega), if_neg (by omega), if_pos (by omega)]
  · unfold rC_ln
    rw [if_neg (by omega)]
theorem rC_isCm {gh : rC_gh} {k : Nat} (h : rC_is gh 4 k = true) : k = 7 ∨ k = 8 := by
  obtain ⟨-, h2⟩ := rC_at_of h
  unfold rC_kd at h2
  by_cases c1 : k < 53
  · rw [if_pos c1] at h2
    have : ∀ k, k < 53 → rC_kt.getD k 0 = 104 → k = 7 ∨ k = 8 := by decide
    exact this k c1 h2
  · rw [if_neg c1] at h2
    (repeat' split at h2) <;> omega
theorem rC_arCm {gh : rC_gh} {k : Nat} (h : rC_is gh 4 k = true) (j : Nat) {n : Nat} (hj : j = 18 ∧ n = 10 ∨ j = 20 ∧ n = 10 ∨ j = 22 ∧ n = 121 ∨ j = 24 ∧ n = 10 ∨ j = 26 ∧ n = 11 ∨ j = 28 ∧ n = 11 ∨ j = 30 ∧ n = 11 ∨ j = 32 ∧ n = 11) : rC_ar gh (k + j) 2 n := by
  rcases rC_isCm h with rfl | rfl <;> rcases hj with ⟨rfl, rfl⟩ | ⟨rfl, rfl⟩ | ⟨rfl, rfl⟩ | ⟨rfl, rfl⟩ | ⟨rfl, rfl⟩ | ⟨rfl, rfl⟩ | ⟨rfl, rfl⟩ | ⟨rfl, rfl⟩ <;> exact ⟨rfl, rfl, rfl⟩
theorem rC_kept {D : va_G} {cI cZ cO : ClassId} {ad : Nat → Nat} {gh : rC_gh} {de : Nat} {M : rv_Mem} {H H1 : Heap} (h : rC_G D cI cZ cO ad gh de M H) (hq : ∀ q : Nat, q < H.size → H1[q]? = H[q]?) : rC_G D cI cZ cO ad gh de M H1 := by
  refine ⟨fun k hk => (h.1 k hk).kept (hq _ (h.1 k hk).lt), fun i hi => ?_⟩
  obtain ⟨cap, mc, f, h1, h2, h3⟩ := h.2 i hi
  exact ⟨cap, mc, f, h1.kept (hq _ h1.lt), h2.kept (hq _ h2.lt), h3⟩
/-- the cell of the key k is new, all others are as they were -/
theorem rC_G_upd {D : va_G} {cI cZ cO : ClassId} {ad : Nat → Nat} {gh : rC_gh} {de : Nat} {M M' : rv_Mem} {H H1 : Heap} {k : Nat} (hI : rC_I ad gh) (hk : rC_dm gh k = true) (h : rC_G D cI cZ cO ad gh de M H) (hn : va_at D vwCl (ad k, rC_ent cI cZ ad gh M' k) H1) (ho : ∀ j, j ≠ k → rC_ent cI cZ ad gh M' j = rC_ent cI cZ ad gh M j) (oq : ∀ q : Nat, q ≠ ad k → H1[q]? = H[q]?) : rC_G D cI cZ cO ad gh de M' H1 := by
  refine ⟨fun j hj => ?_, fun i hi => ?_⟩
  · by_cases e : j = k
    · subst e; exact hn
    · rw [ho j e]
      exact (h.1 j hj).kept (oq _ (fun z => e (hI.1 j k (Or.inl hj) (Or.inl hk) z)))
  · obtain ⟨cap, mc, f, h1, h2, h3⟩ := h.2 i hi
    have hik : 9 + i ≠ k := by
      rintro rfl
      have : ∀ i, i < 3 → rC_dm gh (9 + i) = false := fun i hi => by
        match i, hi with
        | 0, _ => rfl
        | 1, _ => rfl
        | 2, _ => rfl
      rw [this i hi] at hk; cases hk
    exact ⟨cap, mc, f, h1.kept (oq _ (fun z => hik (hI.1 _ k (Or.inr (by omega)) (Or.inl hk) z))), h2.kept (oq _ (fun z => h3.2.2.2.2.2.2 k (Or.inl hk) z.symm)), h3⟩
theorem rC_ent_ne {cI cZ : ClassId} {ad : Nat → Nat} {gh : rC_gh} {M M' : rv_Mem} {j : Nat} (h : M' j = M j) : rC_ent cI cZ ad gh M' j = rC_ent cI cZ ad gh M j := by
  unfold rC_ent rC_fl rC_fv
  simp only [h]
theorem rC_fl_get {ad : Nat → Nat} {gh : rC_gh} {M : rv_Mem} {ci k j : Nat} (hj : j < (rC_ft ci).length) : (rC_fl ad gh M ci k)[j]? = some (rC_fv ad gh M k ((rC_ft ci).getD j (0, 0)) j) := by
  unfold rC_fl
  rw [List.getElem?_map, List.getElem?_range hj]
  rfl
theorem rC_fl_set {ad : Nat → Nat} {gh : rC_gh} {M : rv_Mem} {ci k j : Nat} {v : Int32} (hj : j < (rC_ft ci).length) (hv : rC_fv ad gh (rv_u M k j v) k ((rC_ft ci).getD j (0, 0)) j = .int v) : (rC_fl ad gh M ci k).set j (.int v) = rC_fl ad gh (rv_u M k j v) ci k := by
  have hlen : (rC_fl ad gh M ci k).length = (rC_ft ci).length := by simp [rC_fl]
  have hlen' : (rC_fl ad gh (rv_u M k j v) ci k).length = (rC_ft ci).length := by simp [rC_fl]
  apply List.ext_getElem?
  intro i
  by_cases hi : i < (rC_ft ci).length
  · by_cases e : j = i
    · subst e
      rw [List.getElem?_set_self (by rw [hlen]; exact hj), rC_fl_get hj, hv]
    · rw [List.getElem?_set_ne e, rC_fl_get hi, rC_fl_get hi]
      have : rv_u M k j v k i = M k i := by simp [rv_u, Ne.symm e]
      simp only [rC_fv, this]
  · rw [List.getElem?_eq_none (by rw [List.length_set, hlen]; omega), List.getElem?_eq_none (by rw [hlen']; omega)]
/-- links of nest mates, which no list of good words bears -/
def rC_nw (U : State) : Prop := va_Nw (.methodLinkNest RX2 102 yX11_isIn "ReviewForge") U ∧ va_Nw (.methodLinkNest RX5 46 yX11_isIn "ReviewForge") U ∧ va_Nw (.methodLinkNest RX8 55 yX11_isIn "ReviewForge") U ∧ va_Nw (.methodLinkNest RX10 51 yX11_isIn "ReviewForge") U
theorem rC_nw.warm {s U : State} (hW : s.WarmedH U.vm) (h : rC_nw s) : rC_nw U := ⟨h.1.warmM hW, h.2.1.warmM hW, h.2.2.1.warmM hW, h.2.2.2.warmM hW⟩
theorem rC_nw.same {s U : State} (hv : s.vm = U.vm) (h : rC_nw s) : rC_nw U := ⟨h.1.same rfl hv, h.2.1.same rfl hv, h.2.2.1.same rfl hv, h.2.2.2.same rfl hv⟩
def rC_E (D : va_G) (cI cZ cO : ClassId) (ad : Nat → Nat) (gh : rC_gh) (A : Nat → Prop) (own : String) (cc : ByteArray) (nL : Nat) (ret : Option FieldType) (p : Program) (s : State) (m : MethodId) (args : Array Value) (meth : Method) (c : Code) : Prop := CallFix p m c cc nL s args rv_AL own ∧ va_K D vwCl [(cI, .int), (cZ, .boolean), (cO, .object "java/lang/Object")] s ∧ rC_I ad gh ∧ (∀ q, rC_K ad gh q → A q) ∧ meth.sig.returnType = ret ∧ meth.locks = false ∧ rC_nw s
def rC_Pc (D : va_G) (cI cZ cO : ClassId) (ad : Nat → Nat) (gh : rC_gh) (de : Nat) (av : List Value) (M : rv_Mem) : Array Value → State → Prop := va_Pc av (fun U => rC_G D cI cZ cO ad gh de M U.heap ∧ va_K D vwCl [(cI, .int), (cZ, .boolean), (cO, .object "java/lang/Object")] U ∧ rC_nw U)
def rC_QI (D : va_G) (cI cZ cO : ClassId) (ad : Nat → Nat) (gh : rC_gh) (de : Nat) (v : Int32) (M : rv_Mem) : Array Value → State → Outcome → State → Prop := va_Qi (fun r (M' : rv_Mem) => r = v ∧ M' = M) (fun M' t => rC_G D cI cZ cO ad gh de M' t.heap) (rC_K ad gh)
def rC_QV (D : va_G) (cI cZ cO : ClassId) (ad : Nat → Nat) (gh : rC_gh) (de : Nat) (M : rv_Mem) : Array Value → State → Outcome → State → Prop := va_Qv (fun (M' : rv_Mem) => M' = M) (fun M' t => rC_G D cI cZ cO ad gh de M' t.heap) (rC_K ad gh)
section RC
variable {p : Program} {l : Launch} {e : Env} {R : Room} {s : State} {m : MethodId} {args : Array Value} {below : List Frame} {meth : Method} {c : Code} {cells slots : Nat}
variable {ρ : Type} {D : va_G} {cI cZ cO : ClassId} {ad : Nat → Nat} {gh : rC_gh} {de : Nat} {A : Nat → Prop} {own : String} {Q : ρ → State → Prop}
variable {cc : ByteArray} {nL pc q : Nat} {ret : Option FieldType} {lv lv' : List (Option Value)} {st : List Value} {M : rv_Mem} {t : Option ρ}
theorem rC_E.x (E : rC_E D cI cZ cO ad gh A own cc nL ret p s m args meth c) : rv_E p c cc := ⟨E.1.1, E.1.2.1⟩
theorem rC_E.hts (E : rC_E D cI cZ cO ad gh A own cc nL ret p s m args meth c) : ∀ w ∈ rv_AL, w.before args s = true := E.1.2.2.2.2
theorem rC_E.ow (E : rC_E D cI cZ cO ad gh A own cc nL ret p s m args meth c) : s.vm.findClass own = some m.cls := E.1.2.2.2.1
theorem rC_atP {C : String} {T : u_T} {N ci k : Nat} {H : Heap} (hG : rC_G D cI cZ cO ad gh de M H) (hk : rC_at gh k ci) : va_P D vwCl [(ad k, .inr (ci, rC_fl ad gh M ci k))] H := fun i z hz => by
  match i, hz with
  | 0, hz =>
    cases hz
    have h := hG.1 k hk.1
    have h9 : rC_ent cI cZ ad gh M k = .inr (ci, rC_fl ad gh M ci k) := by
      unfold rC_ent
      rw [if_pos (by rw [hk.2]; omega), hk.2, Nat.add_sub_cancel_left]
    rw [h9] at h
    exact h
  | i + 1, hz => simp at hz
theorem rC_get (E : rC_E D cI cZ cO ad gh A own cc nL ret p s m args meth c) {ci N idx : Nat} {C : String} {T : u_T} (k j : Nat) {v : Value} (hcl : vwCl[ci]? = some (C, T, N)) (hin : ∀ w ∈ u_ws C T N, w ∈ rv_AL) (hN : N = (rC_ft ci).length) (hlk : Cond.fieldLink own idx C (T j).2.1 (T j).2.2.1 ∈ rv_AL) (hf : (T j).1 = C) (hj : j < N) (hk : rC_at gh k ci) (hv : rC_fv ad gh M k ((rC_ft ci).getD j (0, 0)) j = v) (d : decode cc pc = .ok (.getfield idx, 3)) (hq : pc + 3 = q) (kk : rv_M (rC_G D cI cZ cO ad gh de) A p l e R s m args below meth c cells slots Q t q lv (v :: st) M) : rv_M (rC_G D cI cZ cO ad gh de) A p l e R s m args below meth c cells slots Q t pc lv (.ref (ad k) :: st) M := by
  subst hq; subst hv
  intro res h H locs ls hG hS hl
  exact va_get (D := D) (ci := ci) (C := C) (T := T) (N := N) E.1.1 E.1.2.1 E.hts hin E.ow E.2.1 (rC_atP (C := C) (T := T) (N := N) hG hk) 0 rfl hcl j hj (E.hts _ hlk) (fun x hx => by rw [hf] at hx; exact hx) (rC_fl_get (by rw [← hN]; exact hj)) d (kk res h H locs ls hG hS hl)
theorem rC_putX (E : rC_E D cI cZ cO ad gh A own cc nL ret p s m args meth c) {ci N idx : Nat} {C : String} {T : u_T} {ty0 : Nat → FieldType} {ty : FieldType} (k j : Nat) {v : Int32} (hcl : vwCl[ci]? = some (C, T, N)) (hin : ∀ w ∈ u_ws C T N, w ∈ rv_AL) (hty : ∀ k, k < N → parseFieldDescriptor (T k).2.2.1 = some (ty0 k)) (hnm : ∀ a, a < N → ∀ b, b < N → a ≠ b → (T a).2.1 ≠ (T b).2.1) (hN : N = (rC_ft ci).length) (hlk : Cond.fieldLink own idx C (T j).2.1 (T j).2.2.1 ∈ rv_AL) (hf : (T j).1 = C) (hj : j < N) (hk : rC_at gh k ci) (hfin : (T j).2.2.2 = false) (hd : parseFieldDescriptor (T j).2.2.1 = some ty) (hn : narrow ty (.int v) = .int v) (hfit : fits ty (.int v) = true) (hv : rC_fv ad gh (rv_u M k j v) k ((rC_ft ci).getD j (0, 0)) j = .int v) (d : decode cc pc = .ok (.putfield idx, 3)) (hq : pc + 3 = q) (kk : rv_M (rC_G D cI cZ cO ad gh de) A p l e R s m args below meth c cells slots Q t q lv st (rv_u M k j v)) : rv_M (rC_G D cI cZ cO ad gh de) A p l e R s m args below meth c cells slots Q t pc lv (.int v :: .ref (ad k) :: st) M := by
  subst hq
  intro res h H locs ls hG hS hl
  obtain ⟨hts, hown, hK⟩ := And.intro E.hts (And.intro E.ow E.2.1)
  have hap := va_apart (own := C) hts hin ty0 hty hnm hK (ci := ci) hcl
  obtain ⟨r, h1, cell, q1, q2, q3, q4⟩ := rC_atP (C := C) (T := T) (N := N) hG hk 0 _ rfl
  have hr : r = (C, T, N) := Option.some.inj (h1.symm.trans hcl)
  subst hr
  obtain ⟨hSl, hfc, kC, hkC, hkind⟩ := hK.1 ci _ hcl
  obtain ⟨cf, kf, fi, f, hi, hsl⟩ := hSl j hj
  have hlay := hts _ (hin _ (u_in_lay hj))
  unfold u_lay at hlay
  rw [if_neg (by rw [hfin]; decide)] at hlay
  have hst := (u_facts hfc hkC (u_lays hts hin hj) hi).1
  have h6 := u_store hfc hkC hkind hlay hi hd hn hfit
  refine W.putK E.1.1 E.1.2.1 (f := f) ⟨hown, hts _ hlk, ⟨_, _, _, by rw [hf] at hi; exact hi⟩, hst⟩ (by rw [q2]; exact h6) q1 q3 (by rw [hsl]; exact k2_hasslot (q4 j hj)) rfl rfl d fun H' e1 e2 e3 => ?_
  rw [hsl] at e1 ⊢
  refine kk res h H' _ ls (rC_G_upd (k := k) E.2.2.1 hk.1 hG ?_ ?_ e3) (hS.put e2 e3 (E.2.2.2.1 _ ⟨k, hk.1, rfl⟩)) hl
  · have h8 : rC_ent cI cZ ad gh (rv_u M k j v) k = .inr (ci, (rC_fl ad gh M ci k).set j (.int v)) := by
      rw [rC_fl_set (by rw [← hN]; exact hj) hv]
      unfold rC_ent
      rw [if_pos (by rw [hk.2]; omega), hk.2, Nat.add_sub_cancel_left]
    rw [h8]
    exact ⟨_, hcl, t_OB.to (V := updV (vp_V (rC_fl ad gh M ci k)) j (.int v)) ⟨_, e1, q2, q3, t_set q4 hap hj (.int v)⟩ (fun i _ => vp_updV_set (by simp [rC_fl]; omega) (.int v) i)⟩
  · intro i hi
    exact rC_ent_ne (by funext y; simp [rv_u, hi])
theorem rC_iald (E : rC_E D cI cZ cO ad gh A own cc nL ret p s m args meth c) {k n : Nat} {i : Int32} (ha : rC_ar gh k 2 n) (d : decode cc pc = .ok (.iaload, 1)) (hq : pc + 1 = q) (kk : rv_M (rC_G D cI cZ cO ad gh de) A p l e R s m args below meth c cells slots Q t q lv (.int (M k i.toNatClampNeg) :: st) M) : rv_M (rC_G D cI cZ cO ad gh de) A p l e R s m args below meth c cells slots Q (if rv_in i n = true then t else none) pc lv (.int i :: .ref (ad k) :: st) M := by
  refine rv_g (fun hi => ?_)
  obtain ⟨hk, h2, hn⟩ := ha
  subst hq; subst hn
  intro res h H locs ls hG hS hl
  have h9 : rC_ent cI cZ ad gh M k = .inl (cI, rC_ln k, .inl (M k)) := by unfold rC_ent; rw [if_neg (by omega), if_neg (by omega)]
  have h8 := hG.1 k hk
  rw [h9] at h8
  have hP : va_P D vwCl [(ad k, .inl (cI, rC_ln k, .inl (M k)))] H := fun j z hz => by
    match j, hz with
    | 0, hz => cases hz; exact h8
    | j + 1, hz => simp at hz
  exact va_iald E.1.1 E.1.2.1 E.2.1 hP 0 0 rfl rfl (rv_in_vp hi) d (kk res h H locs ls hG hS hl)
theorem rC_zald (E : rC_E D cI cZ cO ad gh A own cc nL ret p s m args meth c) {k n : Nat} {i : Int32} (ha : rC_ar gh k 3 n) (d : decode cc pc = .ok (.baload, 1)) (hq : pc + 1 = q) (kk : rv_M (rC_G D cI cZ cO ad gh de) A p l e R s m args below meth c cells slots Q t q lv (.int (rv_i (rv_z (M k i.toNatClampNeg))) :: st) M) : rv_M (rC_G D cI cZ cO ad gh de) A p l e R s m args below meth c cells slots Q (if rv_in i n = true then t else none) pc lv (.int i :: .ref (ad k) :: st) M := by
  refine rv_g (fun hi => ?_)
  obtain ⟨hk, h2, hn⟩ := ha
  subst hq; subst hn
  intro res h H locs ls hG hS hl
  have h9 : rC_ent cI cZ ad gh M k = .inl (cZ, rC_ln k, .inl (fun i => rv_i (rv_z (M k i)))) := by unfold rC_ent; rw [if_neg (by omega), if_pos h2]
  have h8 := hG.1 k hk
  rw [h9] at h8
  have hP : va_P D vwCl [(ad k, .inl (cZ, rC_ln k, .inl (fun i => rv_i (rv_z (M k i)))))] H := fun j z hz => by
    match j, hz with
    | 0, hz => cases hz; exact h8
    | j + 1, hz => simp at hz
  exact va_zald E.1.1 E.1.2.1 E.2.1 hP 0 1 rfl rfl (rv_in_vp hi) d (kk res h H locs ls hG hS hl)
theorem rC_alen (E : rC_E D cI cZ cO ad gh A own cc nL ret p s m args meth c) {k n : Nat} {v : Int32} (ha : rC_ar gh k 2 n ∨ rC_ar gh k 3 n) (hv : Int32.ofNat n = v) (d : decode cc pc = .ok (.arraylength, 1)) (hq : pc + 1 = q) (kk : rv_M (rC_G D cI cZ cO ad gh de) A p l e R s m args below meth c cells slots Q t q lv (.int v :: st) M) : rv_M (rC_G D cI cZ cO ad gh de) A p l e R s m args below meth c cells slots Q t pc lv (.ref (ad k) :: st) M := by
  subst hq
  intro res h H locs ls hG hS hl
  rcases ha with ⟨hk, h2, hn⟩ | ⟨hk, h2, hn⟩
  · subst hn
    have h9 : rC_ent cI cZ ad gh M k = .inl (cI, rC_ln k, .inl (M k)) := by unfold rC_ent; rw [if_neg (by omega), if_neg (by omega)]
    have h8 := hG.1 k hk
    rw [h9] at h8
    have hP : va_P D vwCl [(ad k, .inl (cI, rC_ln k, .inl (M k)))] H := fun j z hz => by
      match j, hz with
      | 0, hz => cases hz; exact h8
      | j + 1, hz => simp at hz
    exact va_alen E.1.1 E.1.2.1 E.2.1 hP 0 0 rfl rfl hv d (kk res h H locs ls hG hS hl)
  · subst hn
    have h9 : rC_ent cI cZ ad gh M k = .inl (cZ, rC_ln k, .inl (fun i => rv_i (rv_z (M k i)))) := by unfold rC_ent; rw [if_neg (by omega), if_pos h2]
    have h8 := hG.1 k hk
    rw [h9] at h8
    have hP : va_P D vwCl [(ad k, .inl (cZ, rC_ln k, .inl (fun i => rv_i (rv_z (M k i)))))] H := fun j z hz => by
      match j, hz with
      | 0, hz => cases hz; exact h8
      | j + 1, hz => simp at hz
    exact va_alen E.1.1 E.1.2.1 E.2.1 hP 0 1 rfl rfl hv d (kk res h H locs ls hG hS hl)
theorem rC_iast (E : rC_E D cI cZ cO ad gh A own cc nL ret p s m args meth c) {k n : Nat} {i x : Int32} (ha : rC_ar gh k 2 n) (d : decode cc pc = .ok (.iastore, 1)) (hq : pc + 1 = q) (kk : rv_M (rC_G D cI cZ cO ad gh de) A p l e R s m args below meth c cells slots Q t q lv st (rv_u M k i.toNatClampNeg x)) : rv_M (rC_G D cI cZ cO ad gh de) A p l e R s m args below meth c cells slots Q (if rv_in i n = true then t else none) pc lv (.int x :: .int i :: .ref (ad k) :: st) M := by
  refine rv_g (fun hi => ?_)
  obtain ⟨hk, h2, hn⟩ := ha
  subst hq; subst hn
  intro res h H locs ls hG hS hl
  have h9 : rC_ent cI cZ ad gh M k = .inl (cI, rC_ln k, .inl (M k)) := by unfold rC_ent; rw [if_neg (by omega), if_neg (by omega)]
  have h8 := hG.1 k hk
  rw [h9] at h8
  refine W.iast E.1.1 E.1.2.1 h8 ((E.2.1.2 0 _ rfl).1 (rC_ln k) (fun j => .int (M k j))) (fun q => by cases q) (by show ¬ (i < 0 ∨ (arrV _ _ _).slots.size ≤ _); rw [arrV_size]; exact rv_in_vp hi) rfl rfl d fun H1 e1 z oq => ?_
  refine kk res h H1 _ ls (rC_G_upd (k := k) E.2.2.1 hk hG ?_ ?_ oq) (hS.put z oq (E.2.2.2.1 _ ⟨k, hk, rfl⟩)) hl
  · have h7 : rC_ent cI cZ ad gh (rv_u M k i.toNatClampNeg x) k = .inl (cI, rC_ln k, .inl (upd (M k) i.toNatClampNeg x)) := by
      unfold rC_ent
      rw [if_neg (by omega), if_neg (by omega)]
      congr 4
      funext j
      simp [rv_u, upd]
    rw [h7]
    show H1[ad k]? = some (vp_cell _ _)
    rw [e1]
    rw [vp_cell_i, vp_cell_i, arrV_store]
    show some (arrV _ _ _) = some (arrV _ _ _)
    congr 2
    funext j
    unfold updV upd
    by_cases hj : j = i.toNatClampNeg <;> simp [hj]
  · intro j hj
    exact rC_ent_ne (by funext y; simp [rv_u, hj])
theorem rC_zast (E : rC_E D cI cZ cO ad gh A own cc nL ret p s m args meth c) {k n : Nat} {i : Int32} (b : Bool) (ha : rC_ar gh k 3 n) (d : decode cc pc = .ok (.bastore, 1)) (hq : pc + 1 = q) (kk : rv_M (rC_G D cI cZ cO ad gh de) A p l e R s m args below meth c cells slots Q t q lv st (rv_u M k i.toNatClampNeg (rv_i b))) : rv_M (rC_G D cI cZ cO ad gh de) A p l e R s m args below meth c cells slots Q (if rv_in i n = true then t else none) pc lv (.int (rv_i b) :: .int i :: .ref (ad k) :: st) M := by
  refine rv_g (fun hi => ?_)
  obtain ⟨hk, h2, hn⟩ := ha
  subst hq; subst hn
  intro res h H locs ls hG hS hl
  have h9 : rC_ent cI cZ ad gh M k = .inl (cZ, rC_ln k, .inl (fun i => rv_i (rv_z (M k i)))) := by unfold rC_ent; rw [if_neg (by omega), if_pos h2]
  have h8 := hG.1 k hk
  rw [h9] at h8
  refine W.zast E.1.1 E.1.2.1 h8 ((E.2.1.2 1 _ rfl).1 (rC_ln k) (fun j => .int (rv_i (rv_z (M k j))))) (fun q => by cases q) (by show ¬ (i < 0 ∨ (arrV _ _ _).slots.size ≤ _); rw [arrV_size]; exact rv_in_vp hi) rfl rfl d fun H1 e1 z oq => ?_
  refine kk res h H1 _ ls (rC_G_upd (k := k) E.2.2.1 hk hG ?_ ?_ oq) (hS.put z oq (E.2.2.2.1 _ ⟨k, hk, rfl⟩)) hl
  · have h7 : rC_ent cI cZ ad gh (rv_u M k i.toNatClampNeg (rv_i b)) k = .inl (cZ, rC_ln k, .inl (upd (fun i => rv_i (rv_z (M k i))) i.toNatClampNeg (rv_i b))) := by
      unfold rC_ent
      rw [if_neg (by omega), if_pos h2]
      congr 4
      funext j
      by_cases hj : j = i.toNatClampNeg
      · simp [rv_u, upd, hj, rv_z_i]
      · simp [rv_u, upd, hj]
    rw [h7]
    show H1[ad k]? = some (vp_cell _ _)
    rw [e1]
    rw [vp_cell_i, vp_cell_i, rv_i_nar, arrV_store]
    show some (arrV _ _ _) = some (arrV _ _ _)
    congr 2
    funext j
    unfold updV upd
    by_cases hj : j = i.toNatClampNeg <;> simp [hj]
  · intro j hj
    exact rC_ent_ne (by funext y; simp [rv_u, hj])
-- calls
theorem rC_recv (E : rC_E D cI cZ cO ad gh A own cc nL ret p s m args meth c) {ci N k : Nat} {C : String} {T : u_T} (hcl : vwCl[ci]? = some (C, T, N)) (hk : rC_at gh k ci) {H : Heap} (hG : rC_G D cI cZ cO ad gh de M H) : ∃ cell : Cell, H[ad k]? = some cell ∧ cell.vm.isStatics = false ∧ s.vm.findClass C = some cell.cls :=
  va_recv E.2.1 (rC_atP (C := C) (T := T) (N := N) hG hk) (ci := ci) (q0 := 0) hcl rfl
theorem rC_blind {av : List Value} : FrameBlind (rC_Pc D cI cZ cO ad gh de av M) := fun a U g mk hq => ⟨hq.1, hq.2.1, va_K.moved (u := U) (U := U.calling g mk a) (Vm.Alike.refl U.vm) hq.2.2.1, hq.2.2.2.same rfl⟩
theorem rC_AA {H0 H : Heap} {locs : List Loc} (E : rC_E D cI cZ cO ad gh A own cc nL ret p s m args meth c) : ∀ q, q < H.size → rC_K ad gh q → A q := fun q _ h => E.2.2.2.1 q h
variable {y : MethodName} {by_ : ByteArray} {maxL n idx : Nat} {rt : Option FieldType} {rm : Room} {As rest : List Value}
theorem rC_calli (E : rC_E D cI cZ cO ad gh A own cc nL ret p s m args meth c) {ci N b : Nat} {C : String} {T : u_T} {v : Int32} {M' : rv_Mem} (hcl : vwCl[ci]? = some (C, T, N)) (hk : rC_at gh b ci) (hM : Met l y (rv_ws y by_ maxL rt) rm (rC_Pc D cI cZ cO ad gh de (.ref (ad b) :: As) M) (rC_QI D cI cZ cO ad gh de v M') 0 0 (rC_K ad gh)) (cg : GoodIn rv_AL (wsV own idx C y (rv_ws y by_ maxL rt))) (hd : y.cls = C ∧ y.cls ≠ "java/lang/invoke/MethodHandle" ∧ y.cls ≠ "java/lang/invoke/VarHandle" ∧ (parseMethodDescriptor y.desc).map (fun d => d.parameters.length) = some n) (hrm : rm.cells = 0 ∧ rm.slots = 0) (hR : rm.frames + 1 ≤ R.frames ∧ 8 + (maxL + 11) + rm.locals ≤ R.locals) (hcs : cells ≤ R.cells ∧ slots ≤ R.slots) (hn : As.length = n) (hlv : lv.length = nL) (hst : st = As.reverse ++ .ref (ad b) :: rest) (hrs : (rest.map fun v => v.category).sum ≤ 8) (d : decode cc pc = .ok (.invokevirtual idx, 3)) (hq : pc + 3 = q) (kk : rv_M (rC_G D cI cZ cO ad gh de) A p l e R s m args below meth c cells slots Q t q lv (.int v :: rest) M') : rv_M (rC_G D cI cZ cO ad gh de) A p l e R s m args below meth c cells slots Q t pc lv st M := by
  subst hq; subst hst
  intro res h H locs ls hG hS hl
  refine va_calli (va_runV (C := C) (b := ad b) (As := As) (rest := rest) E.1 hM (cwV n E.hts cg rfl hrm.1 hrm.2 hd hR) ⟨rC_blind, rC_recv E hcl hk hG, fun U hU hW => ⟨rfl, by rw [hU]; exact hG, va_K.moved hW.alike E.2.1, E.2.2.2.2.2.2.warm hW⟩⟩ rfl hn (hl.1.trans hlv) rfl (by simpa using hrs) d hcs) hS (fun q _ hq => E.2.2.2.1 q hq) (fun q hq => E.2.2.2.1 q hq) (fun r u t H1 locs1 ht hvm hw hB hz1 hk1 hS1 => ?_)
  obtain ⟨rfl, rfl⟩ := hw
  rw [ht] at hB
  exact kk res h H1 locs1 ls hB hS1 hl
theorem rC_callv (E : rC_E D cI cZ cO ad gh A own cc nL ret p s m args meth c) {ci N b : Nat} {C : String} {T : u_T} {M' : rv_Mem} (hcl : vwCl[ci]? = some (C, T, N)) (hk : rC_at gh b ci) (hM : Met l y (rv_ws y by_ maxL rt) rm (rC_Pc D cI cZ cO ad gh de (.ref (ad b) :: As) M) (rC_QV D cI cZ cO ad gh de M') 0 0 (rC_K ad gh)) (cg : GoodIn rv_AL (wsV own idx C y (rv_ws y by_ maxL rt))) (hd : y.cls = C ∧ y.cls ≠ "java/lang/invoke/MethodHandle" ∧ y.cls ≠ "java/lang/invoke/VarHandle" ∧ (parseMethodDescriptor y.desc).map (fun d => d.parameters.length) = some n) (hrm : rm.cells = 0 ∧ rm.slots = 0) (hR : rm.frames + 1 ≤ R.frames ∧ 8 + (maxL + 11) + rm.locals ≤ R.locals) (hcs : cells ≤ R.cells ∧ slots ≤ R.slots) (hn : As.length = n) (hlv : lv.length = nL) (hst : st = As.reverse ++ .ref (ad b) :: rest) (hrs : (rest.map fun v => v.category).sum ≤ 8) (d : decode cc pc = .ok (.invokevirtual idx, 3)) (hq : pc + 3 = q) (kk : rv_M (rC_G D cI cZ cO ad gh de) A p l e R s m args below meth c cells slots Q t q lv rest M') : rv_M (rC_G D cI cZ cO ad gh de) A p l e R s m args below meth c cells slots Q t pc lv st M := by
  subst hq; subst hst
  intro res h H locs ls hG hS hl
  refine va_callv (va_runV (C := C) (b := ad b) (As := As) (rest := rest) E.1 hM (cwV n E.hts cg rfl hrm.1 hrm.2 hd hR) ⟨rC_blind, rC_recv E hcl hk hG, fun U hU hW => ⟨rfl, by rw [hU]; exact hG, va_K.moved hW.alike E.2.1, E.2.2.2.2.2.2.warm hW⟩⟩ rfl hn (hl.1.trans hlv) rfl (by simpa using hrs) d hcs) hS (fun q _ hq => E.2.2.2.1 q hq) (fun q hq => E.2.2.2.1 q hq) (fun u t H1 locs1 ht hvm hw hB hz1 hk1 hS1 => ?_)
  subst hw
  rw [ht] at hB
  exact kk res h H1 locs1 ls hB hS1 hl
theorem rC_callsi (E : rC_E D cI cZ cO ad gh A own cc nL ret p s m args meth c) {v : Int32} {M' : rv_Mem} (hM : Met l y (rv_ws y by_ maxL rt) rm (rC_Pc D cI cZ cO ad gh de As M) (rC_QI D cI cZ cO ad gh de v M') 0 0 (rC_K ad gh)) (cg : GoodIn rv_AL (va_wsS own idx y (rv_ws y by_ maxL rt))) (hd : y.cls ≠ "java/lang/invoke/MethodHandle" ∧ y.cls ≠ "java/lang/invoke/VarHandle" ∧ (parseMethodDescriptor y.desc).map (fun d => d.parameters.length) = some n) (hrm : rm.cells = 0 ∧ rm.slots = 0) (hR : rm.frames + 1 ≤ R.frames ∧ 8 + (maxL + 11) + rm.locals ≤ R.locals) (hcs : cells ≤ R.cells ∧ slots ≤ R.slots) (hn : As.length = n) (hlv : lv.length = nL) (hst : st = As.reverse ++ rest) (hrs : (rest.map fun v => v.category).sum ≤ 8) (d : decode cc pc = .ok (.invokestatic idx, 3)) (hq : pc + 3 = q) (kk : rv_M (rC_G D cI cZ cO ad gh de) A p l e R s m args below meth c cells slots Q t q lv (.int v :: rest) M') : rv_M (rC_G D cI cZ cO ad gh de) A p l e R s m args below meth c cells slots Q t pc lv st M := by
  subst hq; subst hst
  intro res h H locs ls hG hS hl
  refine va_calli (va_runS (As := As) (rest := rest) E.1 hM (va_cwS n E.hts cg rfl hrm.1 hrm.2 hd hR) ⟨rC_blind, fun U hU hW => ⟨rfl, by rw [hU]; exact hG, va_K.moved hW.alike E.2.1, E.2.2.2.2.2.2.warm hW⟩⟩ rfl hn (hl.1.trans hlv) rfl (by simpa using hrs) d hcs) hS (fun q _ hq => E.2.2.2.1 q hq) (fun q hq => E.2.2.2.1 q hq) (fun r u t H1 locs1 ht hvm hw hB hz1 hk1 hS1 => ?_)
  obtain ⟨rfl, rfl⟩ := hw
  rw [ht] at hB
  exact kk res h H1 locs1 ls hB hS1 hl
theorem rC_callsv (E : rC_E D cI cZ cO ad gh A own cc nL ret p s m args meth c) {M' : rv_Mem} (hM : Met l y (rv_ws y by_ maxL rt) rm (rC_Pc D cI cZ cO ad gh de As M) (rC_QV D cI cZ cO ad gh de M') 0 0 (rC_K ad gh)) (cg : GoodIn rv_AL (va_wsS own idx y (rv_ws y by_ maxL rt))) (hd : y.cls ≠ "java/lang/invoke/MethodHandle" ∧ y.cls ≠ "java/lang/invoke/VarHandle" ∧ (parseMethodDescriptor y.desc).map (fun d => d.parameters.length) = some n) (hrm : rm.cells = 0 ∧ rm.slots = 0) (hR : rm.frames + 1 ≤ R.frames ∧ 8 + (maxL + 11) + rm.locals ≤ R.locals) (hcs : cells ≤ R.cells ∧ slots ≤ R.slots) (hn : As.length = n) (hlv : lv.length = nL) (hst : st = As.reverse ++ rest) (hrs : (rest.map fun v => v.category).sum ≤ 8) (d : decode cc pc = .ok (.invokestatic idx, 3)) (hq : pc + 3 = q) (kk : rv_M (rC_G D cI cZ cO ad gh de) A p l e R s m args below meth c cells slots Q t q lv rest M') : rv_M (rC_G D cI cZ cO ad gh de) A p l e R s m args below meth c cells slots Q t pc lv st M := by
  subst hq; subst hst
  intro res h H locs ls hG hS hl
  refine va_callv (va_runS (As := As) (rest := rest) E.1 hM (va_cwS n E.hts cg rfl hrm.1 hrm.2 hd hR) ⟨rC_blind, fun U hU hW => ⟨rfl, by rw [hU]; exact hG, va_K.moved hW.alike E.2.1, E.2.2.2.2.2.2.warm hW⟩⟩ rfl hn (hl.1.trans hlv) rfl (by simpa using hrs) d hcs) hS (fun q _ hq => E.2.2.2.1 q hq) (fun q hq => E.2.2.2.1 q hq) (fun u t H1 locs1 ht hvm hw hB hz1 hk1 hS1 => ?_)
  subst hw
  rw [ht] at hB
  exact kk res h H1 locs1 ls hB hS1 hl
/-- a static method of numbers alone, of the same class -/
theorem rC_calls (E : rC_E D cI cZ cO ad gh A own cc nL ret p s m args meth c) {v : Int32} (hM : Met l y (rv_ws y by_ maxL rt) rm (va_Pc As (fun _ => True)) (rR_SQ v) 0 0 (fun _ => False)) (cg : GoodIn rv_AL (va_wsS own idx y (rv_ws y by_ maxL rt))) (hd : y.cls ≠ "java/lang/invoke/MethodHandle" ∧ y.cls ≠ "java/lang/invoke/VarHandle" ∧ (parseMethodDescriptor y.desc).map (fun d => d.parameters.length) = some n) (hrm : rm.cells = 0 ∧ rm.slots = 0) (hR : rm.frames + 1 ≤ R.frames ∧ 8 + (maxL + 11) + rm.locals ≤ R.locals) (hcs : cells ≤ R.cells ∧ slots ≤ R.slots) (hn : As.length = n) (hlv : lv.length = nL) (hst : st = As.reverse ++ rest) (hrs : (rest.map fun v => v.category).sum ≤ 8) (d : decode cc pc = .ok (.invokestatic idx, 3)) (hq : pc + 3 = q) (kk : rv_M (rC_G D cI cZ cO ad gh de) A p l e R s m args below meth c cells slots Q t q lv (.int v :: rest) M) : rv_M (rC_G D cI cZ cO ad gh de) A p l e R s m args below meth c cells slots Q t pc lv st M :=
  rv_calls E.1 (fun _ _ _ hq hG => rC_kept hG hq) hM rfl cg hd hrm hR hn hlv hst hrs hcs d hq kk
/-- .. of a nest mate -/
theorem rC_calln (E : rC_E D cI cZ cO ad gh A own cc nL ret p s m args meth c) {host : String} {v : Int32} (hM : Met l y (rv_ws y by_ maxL rt) rm (va_Pc As (fun _ => True)) (rR_SQ v) 0 0 (fun _ => False)) (cg : GoodIn rv_AL (rv_ws y by_ maxL rt)) (hml : va_Nw (.methodLinkNest own idx y host) s) (hst9 : Cond.static y ∈ rv_AL) (hini : Cond.initialized y.cls ∈ rv_AL) (hd : y.cls ≠ "java/lang/invoke/MethodHandle" ∧ y.cls ≠ "java/lang/invoke/VarHandle" ∧ (parseMethodDescriptor y.desc).map (fun d => d.parameters.length) = some n) (hrm : rm.cells = 0 ∧ rm.slots = 0) (hR : rm.frames + 1 ≤ R.frames ∧ 8 + (maxL + 11) + rm.locals ≤ R.locals) (hcs : cells ≤ R.cells ∧ slots ≤ R.slots) (hn : As.length = n) (hlv : lv.length = nL) (hst : st = As.reverse ++ rest) (hrs : (rest.map fun v => v.category).sum ≤ 8) (d : decode cc pc = .ok (.invokestatic idx, 3)) (hq : pc + 3 = q) (kk : rv_M (rC_G D cI cZ cO ad gh de) A p l e R s m args below meth c cells slots Q t q lv (.int v :: rest) M) : rv_M (rC_G D cI cZ cO ad gh de) A p l e R s m args below meth c cells slots Q t pc lv st M := by
  subst hq; subst hst
  intro res h H locs ls hG hS hl
  refine va_calli (va_runSN (As := As) (rest := rest) E.1 hM ⟨va_cnB n E.hts cg rfl hrm.1 hrm.2 hml (E.hts _ hini) hd hR, E.hts _ hst9, trivial⟩ ⟨fun a U g mk hq => hq, fun U hU hW => ⟨rfl, trivial⟩⟩ rfl hn (hl.1.trans hlv) rfl (by simpa using hrs) d hcs) hS (fun _ _ hq => hq.elim) (fun _ hq => hq.elim) (fun r u t H1 locs1 ht hvm hw hB hz1 hk1 hS1 => ?_)
  subst hw
  exact kk res h H1 locs1 ls (rC_kept hG (fun q hq => hk1 q hq (fun z => z))) hS1 hl
end RC
