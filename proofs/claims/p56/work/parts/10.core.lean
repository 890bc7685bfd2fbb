/-! CORE: a walk told by lists: the locals by their places, the memory by a picture M with G M H; each row turns the picture's program t along with the machine. -/
def rv_has (ls : Array Slot) (lv : List (Option Value)) : Prop := ls.size = lv.length ∧ lv_wf ls ∧ ∀ (i : Nat) (v : Value), lv[i]? = some (some v) → ls[i]? = some (.val v)
def rv_kl (lv : List (Option Value)) : List (Nat × Value) := (List.range lv.length).filterMap (fun i => (lv[i]?).bind (fun o => o.map (fun v => (i, v))))
theorem rv_kl_mem {lv : List (Option Value)} {i : Nat} {v : Value} : (i, v) ∈ rv_kl lv ↔ lv[i]? = some (some v) := by
  unfold rv_kl
  rw [List.mem_filterMap]
  constructor
  · rintro ⟨j, hj, h⟩
    cases ho : lv[j]? with
    | none => rw [ho] at h; cases h
    | some o =>
      rw [ho] at h
      cases o with
      | none => cases h
      | some w =>
        simp only [Option.bind_some, Option.map_some, Option.some.injEq, Prod.mk.injEq] at h
        obtain ⟨rfl, rfl⟩ := h
        exact ho
  · intro h
    refine ⟨i, ?_, ?_⟩
    · rw [List.mem_range]
      exact (List.getElem?_eq_some_iff.mp h).1
    · rw [h]; rfl
theorem rv_has_k {ls : Array Slot} {lv : List (Option Value)} (h : rv_has ls lv) : lv_has ls lv.length (rv_kl lv) :=
  ⟨h.1, h.2.1, fun q hq => h.2.2 q.1 q.2 (rv_kl_mem.mp hq)⟩
/-- no long or double begins just ahead of the place i -/
def rv_c2 (lv : List (Option Value)) (i : Nat) : Bool := match i with
  | 0 => true
  | j + 1 => match lv[j]? with
    | some (some v) => v.category != 2
    | _ => true
theorem rv_has_set {ls' : Array Slot} {lv : List (Option Value)} {i : Nat} {w : Value} (hi : i < lv.length) (hc : rv_c2 lv i = true)
    (h : lv_has ls' lv.length ((i, w) :: (rv_kl lv).filter (fun q => !(q.1 == i) && !(q.1 + 1 == i && q.2.category == 2)))) : rv_has ls' (lv.set i (some w)) := by
  refine ⟨by rw [List.length_set]; exact h.1, h.2.1, fun j v hj => ?_⟩
  by_cases hji : j = i
  · subst hji
    rw [List.getElem?_set_self hi] at hj
    have e : w = v := by simpa using hj
    subst e
    exact h.2.2 (j, w) List.mem_cons_self
  · rw [List.getElem?_set_ne (Ne.symm hji)] at hj
    refine h.2.2 (j, v) (List.mem_cons_of_mem _ (List.mem_filter.mpr ⟨rv_kl_mem.mpr hj, ?_⟩))
    have h1 : (j == i) = false := by simpa using hji
    simp only [h1, Bool.not_false, Bool.true_and]
    cases i with
    | zero => simp
    | succ k =>
      by_cases hjk : j = k
      · subst hjk
        have : rv_c2 lv (j + 1) = (v.category != 2) := by simp only [rv_c2, hj]
        rw [this] at hc
        simp only [bne_iff_ne, ne_eq] at hc
        simp [hc]
      · simp [hjk]
theorem rv_has_weak {ls : Array Slot} {lv lv' : List (Option Value)} (h : rv_has ls lv) (hl : lv'.length = lv.length) (hs : ∀ (i : Nat) (v : Value), lv'[i]? = some (some v) → lv[i]? = some (some v)) : rv_has ls lv' :=
  ⟨h.1.trans hl.symm, h.2.1, fun i v hv => h.2.2 i v (hs i v hv)⟩
/-- the places that the mask keeps -/
def rv_mask : List (Option Value) → List Bool → List (Option Value)
  | o :: l, b :: k => (if b = true then o else none) :: rv_mask l k
  | l, _ => l
theorem rv_mask_len : ∀ (l : List (Option Value)) (k : List Bool), (rv_mask l k).length = l.length
  | [], [] => rfl
  | [], _ :: _ => rfl
  | _ :: _, [] => rfl
  | _ :: l, _ :: k => by simp [rv_mask, rv_mask_len l k]
theorem rv_mask_sub : ∀ (l : List (Option Value)) (k : List Bool) (i : Nat) (v : Value), (rv_mask l k)[i]? = some (some v) → l[i]? = some (some v)
  | [], [], i, v, h => h
  | [], _ :: _, i, v, h => h
  | _ :: _, [], i, v, h => h
  | o :: l, b :: k, 0, v, h => by
    cases b
    · simp [rv_mask] at h
    · simpa [rv_mask] using h
  | o :: l, b :: k, i + 1, v, h => by
    simp only [rv_mask, List.getElem?_cons_succ] at h ⊢
    exact rv_mask_sub l k i v h
theorem rv_entry {ls : Array Slot} (vs : List Value) {n : Nat} (hc : ∀ v ∈ vs, v.category = 1) (hn : vs.length ≤ n) (h : lv_has ls n (lv_args 0 vs)) : rv_has ls (vs.map some ++ List.replicate (n - vs.length) none) := by
  refine ⟨by rw [h.1]; simp; omega, h.2.1, fun i v hi => ?_⟩
  have key : ∀ (vs : List Value) (k : Nat), (∀ v ∈ vs, v.category = 1) → ∀ (i : Nat) (v : Value), vs[i]? = some v → (k + i, v) ∈ lv_args k vs := by
    intro vs
    induction vs with
    | nil => intro k _ i v h; simp at h
    | cons w vs ih =>
      intro k hk i v h
      have hw : w.category = 1 := hk w List.mem_cons_self
      cases i with
      | zero =>
        simp only [List.getElem?_cons_zero, Option.some.injEq] at h
        subst h
        exact List.mem_cons_self
      | succ i =>
        rw [List.getElem?_cons_succ] at h
        have := ih (k + 1) (fun v hv => hk v (List.mem_cons_of_mem _ hv)) i v h
        rw [show k + (i + 1) = k + 1 + i by omega]
        unfold lv_args
        rw [if_neg (by omega)]
        exact List.mem_cons_of_mem _ this
  have hv : vs[i]? = some v := by
    by_cases hl : i < vs.length
    · rw [List.getElem?_append_left (by simpa using hl), List.getElem?_map] at hi
      cases hx : vs[i]? with
      | none => rw [hx] at hi; cases hi
      | some w => rw [hx] at hi; cases hi; rfl
    · rw [List.getElem?_append_right (by simp; omega)] at hi
      rw [List.getElem?_replicate] at hi
      split at hi <;> cases hi
  have := h.2.2 _ (key vs 0 hc i v hv)
  simpa using this
/-- an index in its row, as the programs test it -/
def rv_in (i : Int32) (n : Nat) : Bool := decide (¬ (i < 0 ∨ n ≤ i.toNatClampNeg))
theorem rv_in_vp {i : Int32} {n : Nat} (h : rv_in i n = true) : vp_in i n := (of_decide_eq_true (show decide (¬ (i < 0 ∨ n ≤ i.toNatClampNeg)) = true from h) : ¬ (i < 0 ∨ n ≤ i.toNatClampNeg))
def rv_i (b : Bool) : Int32 := if b = true then 1 else 0
theorem rv_i_t : rv_i true = 1 := rfl
theorem rv_i_f : rv_i false = 0 := rfl
theorem rv_i_0 {b : Bool} : rv_i b = 0 ↔ b = false := by cases b <;> decide
theorem rv_i_nar {b : Bool} : narrow .boolean (.int (rv_i b)) = .int (rv_i b) := by cases b <;> rfl
def rv_b (x : Int32) : Int32 := if x = 0 then 0 else 1
theorem rv_b_i {b : Bool} : rv_b (rv_i b) = rv_i b := by cases b <;> rfl
theorem rv_b_eq (x : Int32) : rv_b x = rv_i (decide (x ≠ 0)) := by unfold rv_b rv_i; by_cases h : x = 0 <;> simp [h]
theorem rv_b_nar (x : Int32) : vp_nar .boolean (rv_b x) = rv_b x := by rw [rv_b_eq]; cases (decide (x ≠ 0)) <;> rfl
/-- programs that may be stuck, in turn -/
def rv_o2 {α β γ : Type} (x : Option (α × β)) (k : α → β → Option γ) : Option γ := match x with
  | some (a, b) => k a b
  | none => none
def rv_o1 {α γ : Type} (x : Option α) (k : α → Option γ) : Option γ := match x with
  | some a => k a
  | none => none
/-- a memory gets a name -/
def rv_lt {α β : Type} (x : α) (k : α → β) : β := k x
/-- a loop: at most so many rounds, else stuck -/
def rv_fx {T : Type} (z : T) (F : T → T) : Nat → T
  | 0 => z
  | n + 1 => F (rv_fx z F n)
def rv_FU : Nat := 100000
theorem rv_cat {l : List Value} (h : l.all (fun v => v.category == 1) = true) : ∀ v ∈ l, v.category = 1 := fun v hv => by simpa using List.all_eq_true.mp h v hv
section RV
variable {p : Program} {l : Launch} {e : Env} {R : Room} {s : State} {m : MethodId} {args : Array Value} {below : List Frame} {meth : Method} {c : Code} {cells slots : Nat}
variable {μ ρ : Type} {G : μ → Heap → Prop} {A : Nat → Prop} {Q : ρ → State → Prop}
def rv_M (G : μ → Heap → Prop) (A : Nat → Prop) (p : Program) (l : Launch) (e : Env) (R : Room) (s : State) (m : MethodId) (args : Array Value) (below : List Frame) (meth : Method) (c : Code) (cells slots : Nat) (Q : ρ → State → Prop) (t : Option ρ) (pc : Nat) (lv : List (Option Value)) (st : List Value) (M : μ) : Prop :=
  ∀ (res : ρ), t = some res → ∀ (H : Heap) (locs : List Loc) (ls : Array Slot), G M H → va_S A s.heap H locs → rv_has ls lv → W p l e R s m args below meth c H locs cells slots (Q res) (F0 m pc ls st)
theorem rv_stuck {pc : Nat} {lv : List (Option Value)} {st : List Value} {M : μ} : rv_M G A p l e R s m args below meth c cells slots Q none pc lv st M := fun _ h => by cases h
theorem rv_wk (ks : List Bool) {t : Option ρ} {pc : Nat} {lv : List (Option Value)} {st : List Value} {M : μ} (k : rv_M G A p l e R s m args below meth c cells slots Q t pc (rv_mask lv ks) st M) : rv_M G A p l e R s m args below meth c cells slots Q t pc lv st M :=
  fun res h H locs ls hG hS hl => k res h H locs ls hG hS (rv_has_weak hl (rv_mask_len lv ks) (rv_mask_sub lv ks))
def rv_E (p : Program) (c : Code) (cc : ByteArray) : Prop := p.tables.exec = Jvm.exec ∧ c.code = cc
variable {cc : ByteArray} {pc q : Nat} {lv lv' : List (Option Value)} {st : List Value} {M : μ} {t t1 t2 : Option ρ}
theorem rv_aload_n (E : rv_E p c cc) {k : Fin 4} {a : Nat} (d : decode cc pc = .ok (.aload_n k, 1)) (hv : lv[(k : Nat)]? = some (some (.ref a))) (hq : pc + 1 = q) (kk : rv_M G A p l e R s m args below meth c cells slots Q t q lv (.ref a :: st) M) : rv_M G A p l e R s m args below meth c cells slots Q t pc lv st M := by
  subst hq; exact fun res h H locs ls hG hS hl => lv_aload_n E.1 E.2 d rfl (hl.2.2 _ _ hv) (kk res h H locs ls hG hS hl)
theorem rv_aload (E : rv_E p c cc) {k a : Nat} (d : decode cc pc = .ok (.aload k, 2)) (hv : lv[k]? = some (some (.ref a))) (hq : pc + 2 = q) (kk : rv_M G A p l e R s m args below meth c cells slots Q t q lv (.ref a :: st) M) : rv_M G A p l e R s m args below meth c cells slots Q t pc lv st M := by
  subst hq; exact fun res h H locs ls hG hS hl => lv_aload E.1 E.2 d (hl.2.2 _ _ hv) (kk res h H locs ls hG hS hl)
theorem rv_iload_n (E : rv_E p c cc) {k : Fin 4} {x : Int32} (d : decode cc pc = .ok (.iload_n k, 1)) (hv : lv[(k : Nat)]? = some (some (.int x))) (hq : pc + 1 = q) (kk : rv_M G A p l e R s m args below meth c cells slots Q t q lv (.int x :: st) M) : rv_M G A p l e R s m args below meth c cells slots Q t pc lv st M := by
  subst hq; exact fun res h H locs ls hG hS hl => lv_iload_n E.1 E.2 d rfl (hl.2.2 _ _ hv) (kk res h H locs ls hG hS hl)
theorem rv_iload (E : rv_E p c cc) {k : Nat} {x : Int32} (d : decode cc pc = .ok (.iload k, 2)) (hv : lv[k]? = some (some (.int x))) (hq : pc + 2 = q) (kk : rv_M G A p l e R s m args below meth c cells slots Q t q lv (.int x :: st) M) : rv_M G A p l e R s m args below meth c cells slots Q t pc lv st M := by
  subst hq; exact fun res h H locs ls hG hS hl => lv_iload E.1 E.2 d (hl.2.2 _ _ hv) (kk res h H locs ls hG hS hl)
theorem rv_istore_n (E : rv_E p c cc) {k : Fin 4} {x : Int32} (d : decode cc pc = .ok (.istore_n k, 1)) (hi : (k : Nat) < lv.length) (hc : rv_c2 lv k = true) (he : lv.set k (some (.int x)) = lv') (hq : pc + 1 = q) (kk : rv_M G A p l e R s m args below meth c cells slots Q t q lv' st M) : rv_M G A p l e R s m args below meth c cells slots Q t pc lv (.int x :: st) M := by
  subst hq; subst he
  exact fun res h H locs ls hG hS hl => lv_istore_n E.1 E.2 d rfl (rv_has_k hl) hi rfl (fun ls' hl' => kk res h H locs ls' hG hS (rv_has_set hi hc hl'))
theorem rv_istore (E : rv_E p c cc) {k : Nat} {x : Int32} (d : decode cc pc = .ok (.istore k, 2)) (hi : k < lv.length) (hc : rv_c2 lv k = true) (he : lv.set k (some (.int x)) = lv') (hq : pc + 2 = q) (kk : rv_M G A p l e R s m args below meth c cells slots Q t q lv' st M) : rv_M G A p l e R s m args below meth c cells slots Q t pc lv (.int x :: st) M := by
  subst hq; subst he
  exact fun res h H locs ls hG hS hl => lv_istore E.1 E.2 d (rv_has_k hl) hi rfl (fun ls' hl' => kk res h H locs ls' hG hS (rv_has_set hi hc hl'))
theorem rv_iinc (E : rv_E p c cc) {k : Nat} {n : Int} {x y : Int32} (d : decode cc pc = .ok (.iinc k n, 3)) (hy : Int32.ofInt n = y) (hv : lv[k]? = some (some (.int x))) (hc : rv_c2 lv k = true) (he : lv.set k (some (.int (x + y))) = lv') (hq : pc + 3 = q) (kk : rv_M G A p l e R s m args below meth c cells slots Q t q lv' st M) : rv_M G A p l e R s m args below meth c cells slots Q t pc lv st M := by
  subst hq; subst he; subst hy
  have hi : k < lv.length := (List.getElem?_eq_some_iff.mp hv).1
  obtain ⟨j, hj⟩ := List.getElem?_of_mem (rv_kl_mem.mpr hv)
  exact fun res h H locs ls hG hS hl => lv_iinc E.1 E.2 d (rv_has_k hl) hj rfl hi rfl (fun ls' hl' => kk res h H locs ls' hG hS (rv_has_set hi hc hl'))
theorem rv_iconst (E : rv_E p c cc) {n : Int} {v : Int32} (d : decode cc pc = .ok (.iconst n, 1)) (hv : Int32.ofInt n = v) (hq : pc + 1 = q) (kk : rv_M G A p l e R s m args below meth c cells slots Q t q lv (.int v :: st) M) : rv_M G A p l e R s m args below meth c cells slots Q t pc lv st M := by
  subst hq; exact fun res h H locs ls hG hS hl => lv_iconst E.1 E.2 d hv (kk res h H locs ls hG hS hl)
theorem rv_bipush (E : rv_E p c cc) {n : Int} {v : Int32} (d : decode cc pc = .ok (.bipush n, 2)) (hv : (Int8.ofInt n).toInt32 = v) (hq : pc + 2 = q) (kk : rv_M G A p l e R s m args below meth c cells slots Q t q lv (.int v :: st) M) : rv_M G A p l e R s m args below meth c cells slots Q t pc lv st M := by
  subst hq; exact fun res h H locs ls hG hS hl => lv_bipush E.1 E.2 d hv (kk res h H locs ls hG hS hl)
theorem rv_sipush (E : rv_E p c cc) {n : Int} {v : Int32} (d : decode cc pc = .ok (.sipush n, 3)) (hv : (Int16.ofInt n).toInt32 = v) (hq : pc + 3 = q) (kk : rv_M G A p l e R s m args below meth c cells slots Q t q lv (.int v :: st) M) : rv_M G A p l e R s m args below meth c cells slots Q t pc lv st M := by
  subst hq; exact fun res h H locs ls hG hS hl => lv_sipush E.1 E.2 d hv (kk res h H locs ls hG hS hl)
theorem rv_ldcw (E : rv_E p c cc) {own : String} {i : Nat} {v : Int32} (hown : s.vm.findClass own = some m.cls) (hk : (Jvm.Cond.constant own i v).before args s = true) (d : decode cc pc = .ok (.ldc_w i, 3)) (hq : pc + 3 = q) (kk : rv_M G A p l e R s m args below meth c cells slots Q t q lv (.int v :: st) M) : rv_M G A p l e R s m args below meth c cells slots Q t pc lv st M := by
  subst hq; exact fun res h H locs ls hG hS hl => lv_ldcw E.1 E.2 hown hk d (kk res h H locs ls hG hS hl)
theorem rv_iadd (E : rv_E p c cc) {x y : Int32} (d : decode cc pc = .ok (.iadd, 1)) (hq : pc + 1 = q) (kk : rv_M G A p l e R s m args below meth c cells slots Q t q lv (.int (x + y) :: st) M) : rv_M G A p l e R s m args below meth c cells slots Q t pc lv (.int y :: .int x :: st) M := by
  subst hq; exact fun res h H locs ls hG hS hl => lv_iadd E.1 E.2 d (kk res h H locs ls hG hS hl)
theorem rv_isub (E : rv_E p c cc) {x y : Int32} (d : decode cc pc = .ok (.isub, 1)) (hq : pc + 1 = q) (kk : rv_M G A p l e R s m args below meth c cells slots Q t q lv (.int (x - y) :: st) M) : rv_M G A p l e R s m args below meth c cells slots Q t pc lv (.int y :: .int x :: st) M := by
  subst hq; exact fun res h H locs ls hG hS hl => lv_isub E.1 E.2 d (kk res h H locs ls hG hS hl)
theorem rv_imul (E : rv_E p c cc) {x y : Int32} (d : decode cc pc = .ok (.imul, 1)) (hq : pc + 1 = q) (kk : rv_M G A p l e R s m args below meth c cells slots Q t q lv (.int (x * y) :: st) M) : rv_M G A p l e R s m args below meth c cells slots Q t pc lv (.int y :: .int x :: st) M := by
  subst hq; exact fun res h H locs ls hG hS hl => lv_imul E.1 E.2 d (kk res h H locs ls hG hS hl)
theorem rv_iand (E : rv_E p c cc) {x y : Int32} (d : decode cc pc = .ok (.iand, 1)) (hq : pc + 1 = q) (kk : rv_M G A p l e R s m args below meth c cells slots Q t q lv (.int (x &&& y) :: st) M) : rv_M G A p l e R s m args below meth c cells slots Q t pc lv (.int y :: .int x :: st) M := by
  subst hq; exact fun res h H locs ls hG hS hl => lv_iand E.1 E.2 d (kk res h H locs ls hG hS hl)
theorem rv_ior (E : rv_E p c cc) {x y : Int32} (d : decode cc pc = .ok (.ior, 1)) (hq : pc + 1 = q) (kk : rv_M G A p l e R s m args below meth c cells slots Q t q lv (.int (x ||| y) :: st) M) : rv_M G A p l e R s m args below meth c cells slots Q t pc lv (.int y :: .int x :: st) M := by
  subst hq; exact fun res h H locs ls hG hS hl => lv_ior E.1 E.2 d (kk res h H locs ls hG hS hl)
theorem rv_ixor (E : rv_E p c cc) {x y : Int32} (d : decode cc pc = .ok (.ixor, 1)) (hq : pc + 1 = q) (kk : rv_M G A p l e R s m args below meth c cells slots Q t q lv (.int (x ^^^ y) :: st) M) : rv_M G A p l e R s m args below meth c cells slots Q t pc lv (.int y :: .int x :: st) M := by
  subst hq; exact fun res h H locs ls hG hS hl => lv_ixor E.1 E.2 d (kk res h H locs ls hG hS hl)
theorem rv_ishl (E : rv_E p c cc) {x y : Int32} (d : decode cc pc = .ok (.ishl, 1)) (hq : pc + 1 = q) (kk : rv_M G A p l e R s m args below meth c cells slots Q t q lv (.int (x <<< (y &&& 31)) :: st) M) : rv_M G A p l e R s m args below meth c cells slots Q t pc lv (.int y :: .int x :: st) M := by
  subst hq; exact fun res h H locs ls hG hS hl => lv_ishl E.1 E.2 d (kk res h H locs ls hG hS hl)
theorem rv_ishr (E : rv_E p c cc) {x y : Int32} (d : decode cc pc = .ok (.ishr, 1)) (hq : pc + 1 = q) (kk : rv_M G A p l e R s m args below meth c cells slots Q t q lv (.int (x >>> (y &&& 31)) :: st) M) : rv_M G A p l e R s m args below meth c cells slots Q t pc lv (.int y :: .int x :: st) M := by
  subst hq; exact fun res h H locs ls hG hS hl => lv_ishr E.1 E.2 d (kk res h H locs ls hG hS hl)
theorem rv_ineg (E : rv_E p c cc) {x : Int32} (d : decode cc pc = .ok (.ineg, 1)) (hq : pc + 1 = q) (kk : rv_M G A p l e R s m args below meth c cells slots Q t q lv (.int (-x) :: st) M) : rv_M G A p l e R s m args below meth c cells slots Q t pc lv (.int x :: st) M := by
  subst hq; exact fun res h H locs ls hG hS hl => lv_ineg E.1 E.2 d (kk res h H locs ls hG hS hl)
theorem rv_idiv (E : rv_E p c cc) {x y : Int32} (d : decode cc pc = .ok (.idiv, 1)) (hy : ¬ y = 0) (hq : pc + 1 = q) (kk : rv_M G A p l e R s m args below meth c cells slots Q t q lv (.int (x / y) :: st) M) : rv_M G A p l e R s m args below meth c cells slots Q t pc lv (.int y :: .int x :: st) M := by
  subst hq; exact fun res h H locs ls hG hS hl => lv_idiv E.1 E.2 d hy (kk res h H locs ls hG hS hl)
theorem rv_irem (E : rv_E p c cc) {x y : Int32} (d : decode cc pc = .ok (.irem, 1)) (hy : ¬ y = 0) (hq : pc + 1 = q) (kk : rv_M G A p l e R s m args below meth c cells slots Q t q lv (.int (x - x / y * y) :: st) M) : rv_M G A p l e R s m args below meth c cells slots Q t pc lv (.int y :: .int x :: st) M := by
  subst hq; exact fun res h H locs ls hG hS hl => lv_irem E.1 E.2 d hy (kk res h H locs ls hG hS hl)
theorem rv_dup (E : rv_E p c cc) {v : Value} (d : decode cc pc = .ok (.dup, 1)) (hc : v.category = 1) (hq : pc + 1 = q) (kk : rv_M G A p l e R s m args below meth c cells slots Q t q lv (v :: v :: st) M) : rv_M G A p l e R s m args below meth c cells slots Q t pc lv (v :: st) M := by
  subst hq; exact fun res h H locs ls hG hS hl => lv_dup E.1 E.2 d hc (kk res h H locs ls hG hS hl)
theorem rv_dup2 (E : rv_E p c cc) {v w : Value} (d : decode cc pc = .ok (.dup2, 1)) (hv : v.category = 1) (hw : w.category = 1) (hq : pc + 1 = q) (kk : rv_M G A p l e R s m args below meth c cells slots Q t q lv (v :: w :: v :: w :: st) M) : rv_M G A p l e R s m args below meth c cells slots Q t pc lv (v :: w :: st) M := by
  subst hq; exact fun res h H locs ls hG hS hl => lv_dup2_11 E.1 E.2 d hv hw (kk res h H locs ls hG hS hl)
theorem rv_pop (E : rv_E p c cc) {v : Value} (d : decode cc pc = .ok (.pop, 1)) (hv : v.category = 1) (hq : pc + 1 = q) (kk : rv_M G A p l e R s m args below meth c cells slots Q t q lv st M) : rv_M G A p l e R s m args below meth c cells slots Q t pc lv (v :: st) M := by
  subst hq; exact fun res h H locs ls hG hS hl => lv_pop E.1 E.2 d hv (kk res h H locs ls hG hS hl)
theorem rv_goto (E : rv_E p c cc) {off : Int} (d : decode cc pc = .ok (.goto off, 3)) (hq : (pc : Int) + off = (q : Int)) (kk : rv_M G A p l e R s m args below meth c cells slots Q t q lv st M) : rv_M G A p l e R s m args below meth c cells slots Q t pc lv st M :=
  fun res h H locs ls hG hS hl => lv_goto E.1 E.2 d hq (kk res h H locs ls hG hS hl)
theorem rv_sw {P : Prop} [Decidable P] {pcA pcB : Nat} {lA lB : List (Option Value)} {sA sB : List Value} {MA MB : μ} (go : ∀ (res : ρ) (H : Heap) (locs : List Loc) (ls : Array Slot), G M H → va_S A s.heap H locs → rv_has ls lv → (P → W p l e R s m args below meth c H locs cells slots (Q res) (F0 m pcA ls sA)) → (¬ P → W p l e R s m args below meth c H locs cells slots (Q res) (F0 m pcB ls sB)) → W p l e R s m args below meth c H locs cells slots (Q res) (F0 m pc ls st))
    (k1 : rv_M G A p l e R s m args below meth c cells slots Q t1 pcA lv sA M) (k2 : rv_M G A p l e R s m args below meth c cells slots Q t2 pcB lv sB M) : rv_M G A p l e R s m args below meth c cells slots Q (if P then t1 else t2) pc lv st M := by
  intro res h H locs ls hG hS hl
  refine go res H locs ls hG hS hl (fun hP => ?_) (fun hP => ?_)
  · rw [if_pos hP] at h; exact k1 res h H locs ls hG hS hl
  · rw [if_neg hP] at h; exact k2 res h H locs ls hG hS hl
theorem rv_nle {x y : Int32} : ¬ y ≤ x ↔ x < y := Int32.not_le
theorem rv_nlt {x y : Int32} : ¬ y < x ↔ x ≤ y := Int32.not_lt
-- branches: the program's condition is that of going on, the first branch is the next row
theorem rv_icmp_ge (E : rv_E p c cc) {x y : Int32} {off : Int} {tgt : Nat} (d : decode cc pc = .ok (.if_icmp .ge off, 3)) (ht : (pc : Int) + off = (tgt : Int)) (hq : pc + 3 = q) (k1 : rv_M G A p l e R s m args below meth c cells slots Q t1 q lv st M) (k2 : rv_M G A p l e R s m args below meth c cells slots Q t2 tgt lv st M) : rv_M G A p l e R s m args below meth c cells slots Q (if x < y then t1 else t2) pc lv (.int y :: .int x :: st) M := by
  subst hq; exact rv_sw (lA := lv) (lB := lv) (MA := M) (MB := M) (fun res H locs ls hG hS hl a b => lv_icmp_ge E.1 E.2 d ht (fun h => b (fun z => rv_nle.mpr z h)) (fun h => a (rv_nle.mp h))) k1 k2
theorem rv_icmp_lt (E : rv_E p c cc) {x y : Int32} {off : Int} {tgt : Nat} (d : decode cc pc = .ok (.if_icmp .lt off, 3)) (ht : (pc : Int) + off = (tgt : Int)) (hq : pc + 3 = q) (k1 : rv_M G A p l e R s m args below meth c cells slots Q t1 q lv st M) (k2 : rv_M G A p l e R s m args below meth c cells slots Q t2 tgt lv st M) : rv_M G A p l e R s m args below meth c cells slots Q (if y ≤ x then t1 else t2) pc lv (.int y :: .int x :: st) M := by
  subst hq; exact rv_sw (lA := lv) (lB := lv) (MA := M) (MB := M) (fun res H locs ls hG hS hl a b => lv_icmp_lt E.1 E.2 d ht (fun h => b (fun z => rv_nlt.mpr z h)) (fun h => a (rv_nlt.mp h))) k1 k2
theorem rv_icmp_gt (E : rv_E p c cc) {x y : Int32} {off : Int} {tgt : Nat} (d : decode cc pc = .ok (.if_icmp .gt off, 3)) (ht : (pc : Int) + off = (tgt : Int)) (hq : pc + 3 = q) (k1 : rv_M G A p l e R s m args below meth c cells slots Q t1 q lv st M) (k2 : rv_M G A p l e R s m args below meth c cells slots Q t2 tgt lv st M) : rv_M G A p l e R s m args below meth c cells slots Q (if x ≤ y then t1 else t2) pc lv (.int y :: .int x :: st) M := by
  subst hq; exact rv_sw (lA := lv) (lB := lv) (MA := M) (MB := M) (fun res H locs ls hG hS hl a b => lv_icmp_gt E.1 E.2 d ht (fun h => b (fun z => rv_nlt.mpr z h)) (fun h => a (rv_nlt.mp h))) k1 k2
theorem rv_icmp_le (E : rv_E p c cc) {x y : Int32} {off : Int} {tgt : Nat} (d : decode cc pc = .ok (.if_icmp .le off, 3)) (ht : (pc : Int) + off = (tgt : Int)) (hq : pc + 3 = q) (k1 : rv_M G A p l e R s m args below meth c cells slots Q t1 q lv st M) (k2 : rv_M G A p l e R s m args below meth c cells slots Q t2 tgt lv st M) : rv_M G A p l e R s m args below meth c cells slots Q (if y < x then t1 else t2) pc lv (.int y :: .int x :: st) M := by
  subst hq; exact rv_sw (lA := lv) (lB := lv) (MA := M) (MB := M) (fun res H locs ls hG hS hl a b => lv_icmp_le E.1 E.2 d ht (fun h => b (fun z => rv_nle.mpr z h)) (fun h => a (rv_nle.mp h))) k1 k2
theorem rv_icmp_ne (E : rv_E p c cc) {x y : Int32} {off : Int} {tgt : Nat} (d : decode cc pc = .ok (.if_icmp .ne off, 3)) (ht : (pc : Int) + off = (tgt : Int)) (hq : pc + 3 = q) (k1 : rv_M G A p l e R s m args below meth c cells slots Q t1 q lv st M) (k2 : rv_M G A p l e R s m args below meth c cells slots Q t2 tgt lv st M) : rv_M G A p l e R s m args below meth c cells slots Q (if x = y then t1 else t2) pc lv (.int y :: .int x :: st) M := by
  subst hq; exact rv_sw (lA := lv) (lB := lv) (MA := M) (MB := M) (fun res H locs ls hG hS hl a b => lv_icmp_ne E.1 E.2 d ht (fun h => b h) (fun h => a h)) k1 k2
theorem rv_icmp_eq (E : rv_E p c cc) {x y : Int32} {off : Int} {tgt : Nat} (d : decode cc pc = .ok (.if_icmp .eq off, 3)) (ht : (pc : Int) + off = (tgt : Int)) (hq : pc + 3 = q) (k1 : rv_M G A p l e R s m args below meth c cells slots Q t1 q lv st M) (k2 : rv_M G A p l e R s m args below meth c cells slots Q t2 tgt lv st M) : rv_M G A p l e R s m args below meth c cells slots Q (if ¬ x = y then t1 else t2) pc lv (.int y :: .int x :: st) M := by
  subst hq; exact rv_sw (lA := lv) (lB := lv) (MA := M) (MB := M) (fun res H locs ls hG hS hl a b => lv_icmp_eq E.1 E.2 d ht (fun h => b (fun z => z h)) (fun h => a h)) k1 k2
theorem rv_if_ge (E : rv_E p c cc) {x : Int32} {off : Int} {tgt : Nat} (d : decode cc pc = .ok (.ifCond .ge off, 3)) (ht : (pc : Int) + off = (tgt : Int)) (hq : pc + 3 = q) (k1 : rv_M G A p l e R s m args below meth c cells slots Q t1 q lv st M) (k2 : rv_M G A p l e R s m args below meth c cells slots Q t2 tgt lv st M) : rv_M G A p l e R s m args below meth c cells slots Q (if x < 0 then t1 else t2) pc lv (.int x :: st) M := by
  subst hq; exact rv_sw (lA := lv) (lB := lv) (MA := M) (MB := M) (fun res H locs ls hG hS hl a b => lv_if_ge E.1 E.2 d ht (fun h => b (fun z => rv_nle.mpr z h)) (fun h => a (rv_nle.mp h))) k1 k2
theorem rv_if_lt (E : rv_E p c cc) {x : Int32} {off : Int} {tgt : Nat} (d : decode cc pc = .ok (.ifCond .lt off, 3)) (ht : (pc : Int) + off = (tgt : Int)) (hq : pc + 3 = q) (k1 : rv_M G A p l e R s m args below meth c cells slots Q t1 q lv st M) (k2 : rv_M G A p l e R s m args below meth c cells slots Q t2 tgt lv st M) : rv_M G A p l e R s m args below meth c cells slots Q (if 0 ≤ x then t1 else t2) pc lv (.int x :: st) M := by
  subst hq; exact rv_sw (lA := lv) (lB := lv) (MA := M) (MB := M) (fun res H locs ls hG hS hl a b => lv_if_lt E.1 E.2 d ht (fun h => b (fun z => rv_nlt.mpr z h)) (fun h => a (rv_nlt.mp h))) k1 k2
theorem rv_if_gt (E : rv_E p c cc) {x : Int32} {off : Int} {tgt : Nat} (d : decode cc pc = .ok (.ifCond .gt off, 3)) (ht : (pc : Int) + off = (tgt : Int)) (hq : pc + 3 = q) (k1 : rv_M G A p l e R s m args below meth c cells slots Q t1 q lv st M) (k2 : rv_M G A p l e R s m args below meth c cells slots Q t2 tgt lv st M) : rv_M G A p l e R s m args below meth c cells slots Q (if x ≤ 0 then t1 else t2) pc lv (.int x :: st) M := by
  subst hq; exact rv_sw (lA := lv) (lB := lv) (MA := M) (MB := M) (fun res H locs ls hG hS hl a b => lv_if_gt E.1 E.2 d ht (fun h => b (fun z => rv_nlt.mpr z h)) (fun h => a (rv_nlt.mp h))) k1 k2
theorem rv_if_le (E : rv_E p c cc) {x : Int32} {off : Int} {tgt : Nat} (d : decode cc pc = .ok (.ifCond .le off, 3)) (ht : (pc : Int) + off = (tgt : Int)) (hq : pc + 3 = q) (k1 : rv_M G A p l e R s m args below meth c cells slots Q t1 q lv st M) (k2 : rv_M G A p l e R s m args below meth c cells slots Q t2 tgt lv st M) : rv_M G A p l e R s m args below meth c cells slots Q (if 0 < x then t1 else t2) pc lv (.int x :: st) M := by
  subst hq; exact rv_sw (lA := lv) (lB := lv) (MA := M) (MB := M) (fun res H locs ls hG hS hl a b => lv_if_le E.1 E.2 d ht (fun h => b (fun z => rv_nle.mpr z h)) (fun h => a (rv_nle.mp h))) k1 k2
theorem rv_if_ne (E : rv_E p c cc) {x : Int32} {off : Int} {tgt : Nat} (d : decode cc pc = .ok (.ifCond .ne off, 3)) (ht : (pc : Int) + off = (tgt : Int)) (hq : pc + 3 = q) (k1 : rv_M G A p l e R s m args below meth c cells slots Q t1 q lv st M) (k2 : rv_M G A p l e R s m args below meth c cells slots Q t2 tgt lv st M) : rv_M G A p l e R s m args below meth c cells slots Q (if x = 0 then t1 else t2) pc lv (.int x :: st) M := by
  subst hq; exact rv_sw (lA := lv) (lB := lv) (MA := M) (MB := M) (fun res H locs ls hG hS hl a b => lv_if_ne E.1 E.2 d ht (fun h => b h) (fun h => a h)) k1 k2
theorem rv_if_eq (E : rv_E p c cc) {x : Int32} {off : Int} {tgt : Nat} (d : decode cc pc = .ok (.ifCond .eq off, 3)) (ht : (pc : Int) + off = (tgt : Int)) (hq : pc + 3 = q) (k1 : rv_M G A p l e R s m args below meth c cells slots Q t1 q lv st M) (k2 : rv_M G A p l e R s m args below meth c cells slots Q t2 tgt lv st M) : rv_M G A p l e R s m args below meth c cells slots Q (if ¬ x = 0 then t1 else t2) pc lv (.int x :: st) M := by
  subst hq; exact rv_sw (lA := lv) (lB := lv) (MA := M) (MB := M) (fun res H locs ls hG hS hl a b => lv_if_eq E.1 E.2 d ht (fun h => b (fun z => z h)) (fun h => a h)) k1 k2
-- the same of a Boolean
theorem rv_ifz_ne (E : rv_E p c cc) {x : Bool} {off : Int} {tgt : Nat} (d : decode cc pc = .ok (.ifCond .ne off, 3)) (ht : (pc : Int) + off = (tgt : Int)) (hq : pc + 3 = q) (k1 : rv_M G A p l e R s m args below meth c cells slots Q t1 q lv st M) (k2 : rv_M G A p l e R s m args below meth c cells slots Q t2 tgt lv st M) : rv_M G A p l e R s m args below meth c cells slots Q (if x = false then t1 else t2) pc lv (.int (rv_i x) :: st) M := by
  subst hq; exact rv_sw (lA := lv) (lB := lv) (MA := M) (MB := M) (fun res H locs ls hG hS hl a b => lv_if_ne E.1 E.2 d ht (fun h => b (fun z => h (rv_i_0.mpr z))) (fun h => a (rv_i_0.mp h))) k1 k2
theorem rv_ifz_eq (E : rv_E p c cc) {x : Bool} {off : Int} {tgt : Nat} (d : decode cc pc = .ok (.ifCond .eq off, 3)) (ht : (pc : Int) + off = (tgt : Int)) (hq : pc + 3 = q) (k1 : rv_M G A p l e R s m args below meth c cells slots Q t1 q lv st M) (k2 : rv_M G A p l e R s m args below meth c cells slots Q t2 tgt lv st M) : rv_M G A p l e R s m args below meth c cells slots Q (if x = true then t1 else t2) pc lv (.int (rv_i x) :: st) M := by
  subst hq; exact rv_sw (lA := lv) (lB := lv) (MA := M) (MB := M) (fun res H locs ls hG hS hl a b => lv_if_eq E.1 E.2 d ht (fun h => b (fun z => by rw [z] at h; cases h)) (fun h => a (by cases x with | true => rfl | false => exact absurd rfl h))) k1 k2
/-- a stuck call is stuck; else what comes of it -/
theorem rv_b1 {α : Type} {f : Option α} {k : α → Option ρ} (kk : ∀ a, f = some a → rv_M G A p l e R s m args below meth c cells slots Q (k a) pc lv st M) : rv_M G A p l e R s m args below meth c cells slots Q (rv_o1 f k) pc lv st M := by
  intro res h
  cases hf : f with
  | none => rw [hf] at h; cases h
  | some a => rw [hf] at h; exact kk a hf res h
theorem rv_b2 {α β : Type} {f : Option (α × β)} {k : α → β → Option ρ} (kk : ∀ a b, f = some (a, b) → rv_M G A p l e R s m args below meth c cells slots Q (k a b) pc lv st M) : rv_M G A p l e R s m args below meth c cells slots Q (rv_o2 f k) pc lv st M := by
  intro res h
  cases hf : f with
  | none => rw [hf] at h; cases h
  | some a => rw [hf] at h; exact kk a.1 a.2 hf res h
/-- an index is tested first -/
theorem rv_g {b : Bool} (kk : b = true → rv_M G A p l e R s m args below meth c cells slots Q t pc lv st M) : rv_M G A p l e R s m args below meth c cells slots Q (if b = true then t else none) pc lv st M := by
  cases b with
  | true => rw [if_pos rfl]; exact kk rfl
  | false => rw [if_neg (by decide)]; exact rv_stuck
theorem rv_ltm {k : μ → Option ρ} (kk : ∀ M, rv_M G A p l e R s m args below meth c cells slots Q (k M) pc lv st M) : rv_M G A p l e R s m args below meth c cells slots Q (rv_lt M k) pc lv st M := kk M
/-- a static method of numbers alone, called -/
theorem rv_calls {own : String} {nL : Nat} {y : MethodName} {by_ : ByteArray} {maxL n idx : Nat} {rt : Option FieldType} {rm : Room} {As rest : List Value} {AL : List Cond} {SQ : Array Value → State → Outcome → State → Prop} (S : CallFix p m c cc nL s args AL own) (hk : ∀ (M : μ) (H H1 : Heap), (∀ q : Nat, q < H.size → H1[q]? = H[q]?) → G M H → G M H1) {v : Int32} (hM : Met l y (Cond.code y by_ maxL rt :: AL) rm (va_Pc As (fun _ => True)) SQ 0 0 (fun _ => False)) (hSQ : SQ = va_Qi (fun r (_ : Unit) => r = v) (fun _ _ => True) (fun _ => False)) (cg : GoodIn AL (va_wsS own idx y (Cond.code y by_ maxL rt :: AL))) (hd : y.cls ≠ "java/lang/invoke/MethodHandle" ∧ y.cls ≠ "java/lang/invoke/VarHandle" ∧ (parseMethodDescriptor y.desc).map (fun d => d.parameters.length) = some n) (hrm : rm.cells = 0 ∧ rm.slots = 0) (hR : rm.frames + 1 ≤ R.frames ∧ 8 + (maxL + 11) + rm.locals ≤ R.locals) (hn : As.length = n) (hlv : lv.length = nL) (hst : st = As.reverse ++ rest) (hrs : (rest.map fun v => v.category).sum ≤ 8) (hcs : cells ≤ R.cells ∧ slots ≤ R.slots) (d : decode cc pc = .ok (.invokestatic idx, 3)) (hq : pc + 3 = q) (kk : rv_M G A p l e R s m args below meth c cells slots Q t q lv (.int v :: rest) M) : rv_M G A p l e R s m args below meth c cells slots Q t pc lv st M := by
  subst hq; subst hst; subst hSQ
  intro res h H locs ls hG hS hl
  refine va_calli (va_runS (As := As) (rest := rest) S hM (va_cwS n S.2.2.2.2 cg rfl hrm.1 hrm.2 hd hR) ⟨fun a U g mk hq => hq, fun U hU hW => ⟨rfl, trivial⟩⟩ rfl hn (hl.1.trans hlv) rfl (by simpa using hrs) d hcs) hS (fun _ _ hq => hq.elim) (fun _ hq => hq.elim) (fun r u t H1 locs1 ht hvm hw hB hz1 hk1 hS1 => ?_)
  subst hw
  exact kk res h H1 locs1 ls (hk M H H1 (fun q hq => hk1 q hq (fun z => z)) hG) hS1 hl
end RV
