/-! THE LAW: its world (the house, wherever its cells lie from z0 on; the law's three rows at k 0, k 1, k 2; the script at b), and its methods' rows -/
abbrev lk_mu : Type := rC_gh × rv_Mem × rv_Mem
abbrev lk_ty (cI cZ cO : ClassId) : List (ClassId × FieldType) := [(cI, .int), (cZ, .boolean), (cO, .object "java/lang/Object")]
def lk_n (i : Nat) : Nat := if i = 0 then 32 else if i = 1 then 60 else 2
def rl_in (ad : Nat → Nat) (gh : rC_gh) (q : Nat) : Prop := rC_K ad gh q ∨ ∃ i, i < 3 ∧ (q = ad (9 + i) ∨ (0 < gh.1 i ∧ q = ad (9 + i + 44)))
theorem rl_rM {ad : Nat → Nat} {gh : rC_gh} {sz q : Nat} (h : rM_A ad gh sz q) : rl_in ad gh q ∨ sz ≤ q := by
  rcases h with (h | h) | h
  · exact Or.inl (Or.inl h)
  · exact Or.inr h
  · exact Or.inl (Or.inr h)
theorem rM_sub_rf {ad : Nat → Nat} {gh : rC_gh} {sz : Nat} : rM_sub ad ad gh gh sz := fun q h => h.elim (fun h => Or.inl (Or.inl h)) Or.inr
def rL_xt (U : State) : Prop := va_Nc (rC_ex 2) (rC_ex 1) U ∧ va_Nc (rC_ex 3) (rC_ex 1) U ∧ va_Nc (rC_ex 3) (rC_ex 2) U
theorem rL_xt.moved {u U : State} (hv : u.vm.Alike U.vm) (h : rL_xt u) : rL_xt U := ⟨h.1.moved hv, h.2.1.moved hv, h.2.2.moved hv⟩
def lk_G (D : va_G) (cI cZ cO : ClassId) (de z0 o : Nat) (k : Nat → Nat) (σ : lk_mu) (H : Heap) : Prop := ∃ u : Nat → Nat, u 0 = o ∧ rC_I u σ.1 ∧ (∀ q, rl_in u σ.1 q → z0 ≤ q ∧ ∀ i, i < 3 → q ≠ k i) ∧ rC_G D cI cZ cO u σ.1 de σ.2.1 H ∧ ∀ i, i < 3 → va_at D vwCl (k i, .inl (cI, lk_n i, .inl (σ.2.2 i))) H
/-- where things lie -/
def lk_S (l : Launch) (de z0 b : Nat) (k : Nat → Nat) : Prop := l.stackTraces = false ∧ b < z0 ∧ de < z0 ∧ (∀ i, i < 3 → z0 ≤ k i) ∧ ∀ i j, i < 3 → j < 3 → k i = k j → i = j
/-- what is so of the machine -/
def lk_U (D : va_G) (cI cZ cO : ClassId) (mi de z0 b L : Nat) (xs : Nat → Int32) (U : State) : Prop := va_K D vwCl (lk_ty cI cZ cO) U ∧ rC_nw U ∧ rC_tk (fun q => z0 ≤ q) U ∧ rM_tk mi de (fun q => z0 ≤ q) U ∧ rL_xt U ∧ va_X b L xs U U.heap ∧ z0 ≤ U.heap.size
def lk_P (D : va_G) (cI cZ cO : ClassId) (mi de z0 o b L : Nat) (k : Nat → Nat) (xs : Nat → Int32) (σ : lk_mu) (U : State) : Prop := lk_U D cI cZ cO mi de z0 b L xs U ∧ lk_G D cI cZ cO de z0 o k σ U.heap
def lk_E (D : va_G) (cI cZ cO : ClassId) (mi de z0 b L : Nat) (k : Nat → Nat) (xs : Nat → Int32) (cc : ByteArray) (nL : Nat) (ret : Option FieldType) (p : Program) (l : Launch) (s : State) (m : MethodId) (args : Array Value) (meth : Method) (c : Code) : Prop := CallFix p m c cc nL s args rv_AL RL ∧ lk_U D cI cZ cO mi de z0 b L xs s ∧ lk_S l de z0 b k ∧ meth.sig.returnType = ret ∧ meth.locks = false
def lk_qi (D : va_G) (cI cZ cO : ClassId) (de z0 o : Nat) (k : Nat → Nat) (v : Int32) (σ : lk_mu) : Array Value → State → Outcome → State → Prop := va_Qi (fun r (_ : Unit) => r = v) (fun _ t => lk_G D cI cZ cO de z0 o k σ t.heap) (fun q => z0 ≤ q)
def lk_ql (D : va_G) (cI cZ cO : ClassId) (de z0 o : Nat) (k : Nat → Nat) (v : Int64) (σ : lk_mu) : Array Value → State → Outcome → State → Prop := va_Ql (fun r (_ : Unit) => r = v) (fun _ t => lk_G D cI cZ cO de z0 o k σ t.heap) (fun q => z0 ≤ q)
def lk_qRI (D : va_G) (cI cZ cO : ClassId) (de z0 o : Nat) (k : Nat → Nat) (gh : rC_gh) (A : rv_Mem) (below : List Frame) (args : Array Value) (s : State) (mc ms : Nat) : Int32 × rv_Mem → State → Prop := fun r => MQ below (lk_qi D cI cZ cO de z0 o k r.1 (gh, r.2, A)) args s mc ms (fun q => z0 ≤ q)
def lk_qRZ (D : va_G) (cI cZ cO : ClassId) (de z0 o : Nat) (k : Nat → Nat) (gh : rC_gh) (A : rv_Mem) (below : List Frame) (args : Array Value) (s : State) (mc ms : Nat) : Bool × rv_Mem → State → Prop := fun r => MQ below (lk_qi D cI cZ cO de z0 o k (rv_i r.1) (gh, r.2, A)) args s mc ms (fun q => z0 ≤ q)
def lk_qRJ (D : va_G) (cI cZ cO : ClassId) (de z0 o : Nat) (k : Nat → Nat) (gh : rC_gh) (A : rv_Mem) (below : List Frame) (args : Array Value) (s : State) (mc ms : Nat) : Int64 × rv_Mem → State → Prop := fun r => MQ below (lk_ql D cI cZ cO de z0 o k r.1 (gh, r.2, A)) args s mc ms (fun q => z0 ≤ q)
def lk_qWI (D : va_G) (cI cZ cO : ClassId) (de z0 o : Nat) (k : Nat → Nat) (A : rv_Mem) (below : List Frame) (args : Array Value) (s : State) (mc ms : Nat) : Int32 × rC_gh × rv_Mem → State → Prop := fun r => MQ below (lk_qi D cI cZ cO de z0 o k r.1 (r.2.1, r.2.2, A)) args s mc ms (fun q => z0 ≤ q)
def lk_qWZ (D : va_G) (cI cZ cO : ClassId) (de z0 o : Nat) (k : Nat → Nat) (A : rv_Mem) (below : List Frame) (args : Array Value) (s : State) (mc ms : Nat) : Bool × rC_gh × rv_Mem → State → Prop := fun r => MQ below (lk_qi D cI cZ cO de z0 o k (rv_i r.1) (r.2.1, r.2.2, A)) args s mc ms (fun q => z0 ≤ q)
/-- what comes of a call in a try -/
def lk_x1 {α ρ : Type} (f : Option (α ⊕ Nat)) (k : α → Option ρ) (kx : Nat → Option ρ) : Option ρ := match f with
  | none => none
  | some (.inl a) => k a
  | some (.inr x) => kx x
def lk_x3 {α ρ : Type} (f : Option ((α × rv_Mem) ⊕ (Nat × rv_Mem))) (k : α → rv_Mem → Option ρ) (kx : Nat → rv_Mem → Option ρ) : Option ρ := match f with
  | none => none
  | some (.inl (a, M)) => k a M
  | some (.inr (x, M)) => kx x M
def lk_xm {α ρ : Type} (f : Option ((α × rC_gh × rv_Mem) ⊕ Nat)) (k : α → rC_gh → rv_Mem → Option ρ) (kx : Nat → Option ρ) : Option ρ := match f with
  | none => none
  | some (.inl (a, g, M)) => k a g M
  | some (.inr x) => kx x
def lk_hh {ρ : Type} (x : Nat) (t1 t2 t3 : Option ρ) : Option ρ := if x = 1 then t1 else if x = 2 then t2 else if x = 3 then t3 else none
def lk_o3 {α β γ δ : Type} (x : Option (α × β × γ)) (k : α → β → γ → Option δ) : Option δ := match x with
  | some (a, b, c) => k a b c
  | none => none
section LK
variable {p : Program} {l : Launch} {e : Env} {R : Room} {s : State} {m : MethodId} {args : Array Value} {below : List Frame} {meth : Method} {c : Code} {cells slots mc ms : Nat}
variable {μ ρ : Type} {G : μ → Heap → Prop} {A0 : Nat → Prop} {Q : ρ → State → Prop} {D : va_G} {cI cZ cO : ClassId} {mi de z0 o b L : Nat} {k : Nat → Nat} {xs : Nat → Int32}
variable {cc : ByteArray} {nL pc q : Nat} {ret : Option FieldType} {lv lv' : List (Option Value)} {st : List Value} {M : μ} {σ : lk_mu} {t t1 t2 t3 : Option ρ}
theorem lk_x1r {α : Type} {f : Option (α ⊕ Nat)} {k : α → Option ρ} {kx : Nat → Option ρ} (k1 : ∀ a, f = some (.inl a) → rv_M G A0 p l e R s m args below meth c cells slots Q (k a) pc lv st M) (k2 : ∀ x, f = some (.inr x) → rv_M G A0 p l e R s m args below meth c cells slots Q (kx x) pc lv st M) : rv_M G A0 p l e R s m args below meth c cells slots Q (lk_x1 f k kx) pc lv st M := by
  match f, k1, k2 with
  | none, _, _ => exact rv_stuck
  | some (.inl a), k1, _ => exact k1 a rfl
  | some (.inr x), _, k2 => exact k2 x rfl
theorem lk_x3r {α : Type} {f : Option ((α × rv_Mem) ⊕ (Nat × rv_Mem))} {k : α → rv_Mem → Option ρ} {kx : Nat → rv_Mem → Option ρ} (k1 : ∀ a M1, f = some (.inl (a, M1)) → rv_M G A0 p l e R s m args below meth c cells slots Q (k a M1) pc lv st M) (k2 : ∀ x M1, f = some (.inr (x, M1)) → rv_M G A0 p l e R s m args below meth c cells slots Q (kx x M1) pc lv st M) : rv_M G A0 p l e R s m args below meth c cells slots Q (lk_x3 f k kx) pc lv st M := by
  match f, k1, k2 with
  | none, _, _ => exact rv_stuck
  | some (.inl (a, M1)), k1, _ => exact k1 a M1 rfl
  | some (.inr (x, M1)), _, k2 => exact k2 x M1 rfl
theorem lk_xmr {α : Type} {f : Option ((α × rC_gh × rv_Mem) ⊕ Nat)} {k : α → rC_gh → rv_Mem → Option ρ} {kx : Nat → Option ρ} (k1 : ∀ a g M1, f = some (.inl (a, g, M1)) → rv_M G A0 p l e R s m args below meth c cells slots Q (k a g M1) pc lv st M) (k2 : ∀ x, f = some (.inr x) → rv_M G A0 p l e R s m args below meth c cells slots Q (kx x) pc lv st M) : rv_M G A0 p l e R s m args below meth c cells slots Q (lk_xm f k kx) pc lv st M := by
  match f, k1, k2 with
  | none, _, _ => exact rv_stuck
  | some (.inl (a, g, M1)), k1, _ => exact k1 a g M1 rfl
  | some (.inr x), _, k2 => exact k2 x rfl
theorem lk_b3 {α β γ : Type} {f : Option (α × β × γ)} {k : α → β → γ → Option ρ} (kk : ∀ a b c', f = some (a, b, c') → rv_M G A0 p l e R s m args below meth c cells slots Q (k a b c') pc lv st M) : rv_M G A0 p l e R s m args below meth c cells slots Q (lk_o3 f k) pc lv st M := by
  match f, kk with
  | none, _ => exact rv_stuck
  | some (a, b, c'), kk => exact kk a b c' rfl
-- longs, and divisions by what may be 0
theorem rv_ladd (E : rv_E p c cc) {x y : Int64} (d : decode cc pc = .ok (.ladd, 1)) (hq : pc + 1 = q) (kk : rv_M G A0 p l e R s m args below meth c cells slots Q t q lv (.long (x + y) :: st) M) : rv_M G A0 p l e R s m args below meth c cells slots Q t pc lv (.long y :: .long x :: st) M := by
  subst hq; exact fun res h H locs ls hG hS hl => lv_ladd E.1 E.2 d (kk res h H locs ls hG hS hl)
theorem rv_lmul (E : rv_E p c cc) {x y : Int64} (d : decode cc pc = .ok (.lmul, 1)) (hq : pc + 1 = q) (kk : rv_M G A0 p l e R s m args below meth c cells slots Q t q lv (.long (x * y) :: st) M) : rv_M G A0 p l e R s m args below meth c cells slots Q t pc lv (.long y :: .long x :: st) M := by
  subst hq; exact fun res h H locs ls hG hS hl => lv_lmul E.1 E.2 d (kk res h H locs ls hG hS hl)
theorem rv_i2l (E : rv_E p c cc) {x : Int32} (d : decode cc pc = .ok (.i2l, 1)) (hq : pc + 1 = q) (kk : rv_M G A0 p l e R s m args below meth c cells slots Q t q lv (.long x.toInt64 :: st) M) : rv_M G A0 p l e R s m args below meth c cells slots Q t pc lv (.int x :: st) M := by
  subst hq; exact fun res h H locs ls hG hS hl => lv_i2l E.1 E.2 d rfl (kk res h H locs ls hG hS hl)
theorem rv_l2i (E : rv_E p c cc) {x : Int64} (d : decode cc pc = .ok (.l2i, 1)) (hq : pc + 1 = q) (kk : rv_M G A0 p l e R s m args below meth c cells slots Q t q lv (.int x.toInt32 :: st) M) : rv_M G A0 p l e R s m args below meth c cells slots Q t pc lv (.long x :: st) M := by
  subst hq; exact fun res h H locs ls hG hS hl => lv_l2i E.1 E.2 d rfl (kk res h H locs ls hG hS hl)
theorem rv_idivg (E : rv_E p c cc) {x y : Int32} (d : decode cc pc = .ok (.idiv, 1)) (hq : pc + 1 = q) (kk : rv_M G A0 p l e R s m args below meth c cells slots Q t q lv (.int (x / y) :: st) M) : rv_M G A0 p l e R s m args below meth c cells slots Q (if y = 0 then none else t) pc lv (.int y :: .int x :: st) M := by
  by_cases h0 : y = 0
  · rw [if_pos h0]; exact rv_stuck
  · rw [if_neg h0]; exact rv_idiv E d h0 hq kk
theorem rv_iremg (E : rv_E p c cc) {x y : Int32} (d : decode cc pc = .ok (.irem, 1)) (hq : pc + 1 = q) (kk : rv_M G A0 p l e R s m args below meth c cells slots Q t q lv (.int (x - x / y * y) :: st) M) : rv_M G A0 p l e R s m args below meth c cells slots Q (if y = 0 then none else t) pc lv (.int y :: .int x :: st) M := by
  by_cases h0 : y = 0
  · rw [if_pos h0]; exact rv_stuck
  · rw [if_neg h0]; exact rv_irem E d h0 hq kk
theorem lk_E.x (E : lk_E D cI cZ cO mi de z0 b L k xs cc nL ret p l s m args meth c) : rv_E p c cc := ⟨E.1.1, E.1.2.1⟩
theorem lk_ldc2 (E : lk_E D cI cZ cO mi de z0 b L k xs cc nL ret p l s m args meth c) {i : Nat} {v : Int64} (hk : Cond.constantLong RL i v ∈ rv_AL) (d : decode cc pc = .ok (.ldc2_w i, 3)) (hq : pc + 3 = q) (kk : rv_M G A0 p l e R s m args below meth c cells slots Q t q lv (.long v :: st) M) : rv_M G A0 p l e R s m args below meth c cells slots Q t pc lv st M := by
  subst hq; exact fun res h H locs ls hG hS hl => lv_ldc2 E.1.1 E.1.2.1 E.1.2.2.2.1 (E.1.2.2.2.2 _ hk) d (kk res h H locs ls hG hS hl)
theorem lk_ldcw (E : lk_E D cI cZ cO mi de z0 b L k xs cc nL ret p l s m args meth c) {i : Nat} {v : Int32} (hk : Cond.constant RL i v ∈ rv_AL) (d : decode cc pc = .ok (.ldc_w i, 3)) (hq : pc + 3 = q) (kk : rv_M G A0 p l e R s m args below meth c cells slots Q t q lv (.int v :: st) M) : rv_M G A0 p l e R s m args below meth c cells slots Q t pc lv st M := by
  subst hq; exact fun res h H locs ls hG hS hl => lv_ldcw E.1.1 E.1.2.1 E.1.2.2.2.1 (E.1.2.2.2.2 _ hk) d (kk res h H locs ls hG hS hl)
theorem lk_ldc (E : lk_E D cI cZ cO mi de z0 b L k xs cc nL ret p l s m args meth c) {i : Nat} {v : Int32} (hk : Cond.constant RL i v ∈ rv_AL) (d : decode cc pc = .ok (.ldc i, 2)) (hq : pc + 2 = q) (kk : rv_M G A0 p l e R s m args below meth c cells slots Q t q lv (.int v :: st) M) : rv_M G A0 p l e R s m args below meth c cells slots Q t pc lv st M := by
  subst hq; exact fun res h H locs ls hG hS hl => lv_ldc E.1.1 E.1.2.1 E.1.2.2.2.1 (E.1.2.2.2.2 _ hk) d (kk res h H locs ls hG hS hl)
-- the script and the rows
theorem lk_slen (E : lk_E D cI cZ cO mi de z0 b L k xs cc nL ret p l s m args meth c) (d : decode cc pc = .ok (.arraylength, 1)) (hq : pc + 1 = q) (kk : rv_M G (fun q => z0 ≤ q) p l e R s m args below meth c cells slots Q t q lv (.int (nI L) :: st) M) : rv_M G (fun q => z0 ≤ q) p l e R s m args below meth c cells slots Q t pc lv (.ref b :: st) M := by
  subst hq; exact fun res h H locs ls hG hS hl => va_slen E.1.1 E.1.2.1 E.2.1.2.2.2.2.2.1 (Nat.lt_of_lt_of_le E.2.2.1.2.1 E.2.1.2.2.2.2.2.2) (fun z => absurd E.2.2.1.2.1 (Nat.not_lt.mpr z)) hS d (kk res h H locs ls hG hS hl)
theorem lk_sld (E : lk_E D cI cZ cO mi de z0 b L k xs cc nL ret p l s m args meth c) {i : Int32} (d : decode cc pc = .ok (.iaload, 1)) (hq : pc + 1 = q) (kk : rv_M G (fun q => z0 ≤ q) p l e R s m args below meth c cells slots Q t q lv (.int (xs i.toNatClampNeg) :: st) M) : rv_M G (fun q => z0 ≤ q) p l e R s m args below meth c cells slots Q (if rv_in i L = true then t else none) pc lv (.int i :: .ref b :: st) M := by
  refine rv_g (fun hi => ?_)
  subst hq; exact fun res h H locs ls hG hS hl => va_sld E.1.1 E.1.2.1 E.2.1.2.2.2.2.2.1 (Nat.lt_of_lt_of_le E.2.2.1.2.1 E.2.1.2.2.2.2.2.2) (fun z => absurd E.2.2.1.2.1 (Nat.not_lt.mpr z)) hS (rv_in_vp hi) d (kk res h H locs ls hG hS hl)
theorem lk_ald (E : lk_E D cI cZ cO mi de z0 b L k xs cc nL ret p l s m args meth c) (i : Nat) (hi : i < 3) {x : Int32} (d : decode cc pc = .ok (.iaload, 1)) (hq : pc + 1 = q) (kk : rv_M (lk_G D cI cZ cO de z0 o k) (fun q => z0 ≤ q) p l e R s m args below meth c cells slots Q t q lv (.int (σ.2.2 i x.toNatClampNeg) :: st) σ) : rv_M (lk_G D cI cZ cO de z0 o k) (fun q => z0 ≤ q) p l e R s m args below meth c cells slots Q (if rv_in x (lk_n i) = true then t else none) pc lv (.int x :: .ref (k i) :: st) σ := by
  refine rv_g (fun hx => ?_)
  subst hq
  intro res h H locs ls hG hS hl
  obtain ⟨u, h0, hI, hu, hC, ha⟩ := id hG
  have hP : va_P D vwCl [(k i, .inl (cI, lk_n i, .inl (σ.2.2 i)))] H := fun j z hz => by
    match j, hz with
    | 0, hz => cases hz; exact ha i hi
    | j + 1, hz => simp at hz
  exact va_iald E.1.1 E.1.2.1 E.2.1.1 hP 0 0 rfl rfl (rv_in_vp hx) d (kk res h H locs ls hG hS hl)
theorem lk_ast (E : lk_E D cI cZ cO mi de z0 b L k xs cc nL ret p l s m args meth c) (i : Nat) (hi : i < 3) {x v : Int32} (d : decode cc pc = .ok (.iastore, 1)) (hq : pc + 1 = q) (kk : rv_M (lk_G D cI cZ cO de z0 o k) (fun q => z0 ≤ q) p l e R s m args below meth c cells slots Q t q lv st (σ.1, σ.2.1, rv_u σ.2.2 i x.toNatClampNeg v)) : rv_M (lk_G D cI cZ cO de z0 o k) (fun q => z0 ≤ q) p l e R s m args below meth c cells slots Q (if rv_in x (lk_n i) = true then t else none) pc lv (.int v :: .int x :: .ref (k i) :: st) σ := by
  refine rv_g (fun hx => ?_)
  subst hq
  intro res h H locs ls hG hS hl
  obtain ⟨u, h0, hI, hu, hC, ha⟩ := hG
  refine W.iast E.1.1 E.1.2.1 (ha i hi) ((E.2.1.1.2 0 _ rfl).1 (lk_n i) (fun j => .int (σ.2.2 i j))) (fun q => by cases q) (by show ¬ (x < 0 ∨ (arrV _ _ _).slots.size ≤ _); rw [arrV_size]; exact rv_in_vp hx) rfl rfl d fun H1 e1 z oq => ?_
  have hno : ∀ q, rl_in u σ.1 q → q ≠ k i := fun q h => (hu q h).2 i hi
  refine kk res h H1 _ ls ⟨u, h0, hI, hu, ?_, fun j hj => ?_⟩ (hS.put z oq (E.2.2.1.2.2.2.1 i hi)) hl
  · refine ⟨fun j hj => (hC.1 j hj).kept (oq _ (hno _ (Or.inl ⟨j, hj, rfl⟩))), fun j hj => ?_⟩
    obtain ⟨cap, mc9, f, h1, h2, h3⟩ := hC.2 j hj
    refine ⟨cap, mc9, f, h1.kept (oq _ (hno _ (Or.inr ⟨j, hj, Or.inl rfl⟩))), h2.kept (oq _ ?_), h3⟩
    rcases Nat.eq_zero_or_pos (σ.1.1 j) with hz | hz
    · have e9 := (h3.2.2.1 hz).1
      have h8 := E.2.2.1.2.2.1
      have h7 := E.2.2.1.2.2.2.1 i hi
      show u (9 + j + 44) ≠ k i
      omega
    · exact hno _ (Or.inr ⟨j, hj, Or.inr ⟨hz, rfl⟩⟩)
  · by_cases e : j = i
    · subst e
      have h7 : (rv_u σ.2.2 j x.toNatClampNeg v) j = upd (σ.2.2 j) x.toNatClampNeg v := by funext a; simp [rv_u, upd]
      show H1[k j]? = some (vp_cell cI (lk_n j, .inl (rv_u σ.2.2 j x.toNatClampNeg v j)))
      rw [h7, e1]
      show some ((vp_cell cI (lk_n j, .inl (σ.2.2 j))).setSlot _ _) = _
      rw [vp_cell_i, vp_cell_i, arrV_store]
      show some (arrV _ _ _) = some (arrV _ _ _)
      congr 2
      funext a
      unfold updV upd
      by_cases hj : a = x.toNatClampNeg <;> simp [hj]
    · have h7 : (rv_u σ.2.2 i x.toNatClampNeg v) j = σ.2.2 j := by funext a; simp [rv_u, e]
      show va_at D vwCl (k j, .inl (cI, lk_n j, .inl (rv_u σ.2.2 i x.toNatClampNeg v j))) H1
      rw [h7]
      exact (ha j hj).kept (oq _ (fun z => e (E.2.2.1.2.2.2.2 j i hj hi z)))
-- ends
theorem lk_iret (E : lk_E D cI cZ cO mi de z0 b L k xs cc nL (some .int) p l s m args meth c) {v : Int32} {r : ρ} (hQ : Q r = MQ below (lk_qi D cI cZ cO de z0 o k v σ) args s mc ms (fun q => z0 ≤ q)) (hm : cells ≤ mc ∧ slots ≤ ms) (d : decode cc pc = .ok (.ireturn, 1)) : rv_M (lk_G D cI cZ cO de z0 o k) (fun q => z0 ≤ q) p l e R s m args below meth c cells slots Q (some r) pc lv [.int v] σ := by
  intro res h H locs ls hG hS hl
  cases h
  rw [hQ]
  exact W.widen hm.1 hm.2 (W.iret E.1.1 E.1.2.1 E.2.2.2.1 (fun t ht hW => ⟨⟨v, (), rfl, rfl, by show lk_G D cI cZ cO de z0 o k σ t.heap; rw [ht]; exact hG⟩, hS.F ht⟩) hS.2.2 d (hlocks := E.2.2.2.2))
theorem lk_zret (E : lk_E D cI cZ cO mi de z0 b L k xs cc nL (some .boolean) p l s m args meth c) (w : Bool) {r : ρ} (hQ : Q r = MQ below (lk_qi D cI cZ cO de z0 o k (rv_i w) σ) args s mc ms (fun q => z0 ≤ q)) (hm : cells ≤ mc ∧ slots ≤ ms) (d : decode cc pc = .ok (.ireturn, 1)) : rv_M (lk_G D cI cZ cO de z0 o k) (fun q => z0 ≤ q) p l e R s m args below meth c cells slots Q (some r) pc lv [.int (rv_i w)] σ := by
  intro res h H locs ls hG hS hl
  cases h
  rw [hQ]
  exact W.widen hm.1 hm.2 (W.zret E.1.1 E.1.2.1 E.2.2.2.1 rv_i_nar (fun t ht hW => ⟨⟨rv_i w, (), rfl, rfl, by show lk_G D cI cZ cO de z0 o k σ t.heap; rw [ht]; exact hG⟩, hS.F ht⟩) hS.2.2 d (hlocks := E.2.2.2.2))
theorem lk_lret (E : lk_E D cI cZ cO mi de z0 b L k xs cc nL (some .long) p l s m args meth c) {v : Int64} {r : ρ} (hQ : Q r = MQ below (lk_ql D cI cZ cO de z0 o k v σ) args s mc ms (fun q => z0 ≤ q)) (hm : cells ≤ mc ∧ slots ≤ ms) (d : decode cc pc = .ok (.lreturn, 1)) : rv_M (lk_G D cI cZ cO de z0 o k) (fun q => z0 ≤ q) p l e R s m args below meth c cells slots Q (some r) pc lv [.long v] σ := by
  intro res h H locs ls hG hS hl
  cases h
  rw [hQ]
  exact W.widen hm.1 hm.2 (W.lret E.1.1 E.1.2.1 E.2.2.2.1 (fun t ht hW => ⟨⟨v, (), rfl, rfl, by show lk_G D cI cZ cO de z0 o k σ t.heap; rw [ht]; exact hG⟩, hS.F ht⟩) hS.2.2 d (hlocks := E.2.2.2.2))
-- calls of the class
theorem lk_AB {u : Nat → Nat} {H : Heap} (hz : z0 ≤ H.size) (hu : ∀ q, rl_in u σ.1 q → z0 ≤ q ∧ ∀ i, i < 3 → q ≠ k i) : ∀ q, rM_A u σ.1 H.size q → z0 ≤ q := fun q h => (rl_rM h).elim (fun h => (hu q h).1) (fun h => Nat.le_trans hz h)
theorem lk_sz (E : lk_E D cI cZ cO mi de z0 b L k xs cc nL ret p l s m args meth c) {H : Heap} {locs : List Loc} (hS : va_S (fun q => z0 ≤ q) s.heap H locs) : z0 ≤ H.size := Nat.le_trans E.2.1.2.2.2.2.2.2 hS.1
theorem lk_preC (E : lk_E D cI cZ cO mi de z0 b L k xs cc nL ret p l s m args meth c) {u : Nat → Nat} {H : Heap} {locs : List Loc} {av : List Value} (hu : ∀ q, rl_in u σ.1 q → z0 ≤ q ∧ ∀ i, i < 3 → q ≠ k i) (hC : rC_G D cI cZ cO u σ.1 de σ.2.1 H) (hS : va_S (fun q => z0 ≤ q) s.heap H locs) : ∀ U : State, U.heap = H → s.WarmedH U.vm → rC_Px D cI cZ cO u σ.1 de H.size av σ.2.1 av.toArray U := fun U hU hW => ⟨rfl, by rw [hU], by rw [hU]; exact hC, va_K.moved hW.alike E.2.1.1, E.2.1.2.1.warm hW, E.2.1.2.2.1.warm hU hW hS (fun q h => lk_AB (lk_sz E hS) hu q (Or.inl h))⟩
theorem lk_preM (E : lk_E D cI cZ cO mi de z0 b L k xs cc nL ret p l s m args meth c) {u : Nat → Nat} {H : Heap} {locs : List Loc} {av : List Value} (hu : ∀ q, rl_in u σ.1 q → z0 ≤ q ∧ ∀ i, i < 3 → q ≠ k i) (hC : rC_G D cI cZ cO u σ.1 de σ.2.1 H) (hS : va_S (fun q => z0 ≤ q) s.heap H locs) : ∀ U : State, U.heap = H → s.WarmedH U.vm → rM_Px D cI cZ cO u σ.1 mi de H.size av σ.2.1 av.toArray U := fun U hU hW => ⟨rfl, (lk_preC E (av := av) hu hC hS U hU hW).2, E.2.1.2.2.2.1.warm hU hW hS (lk_AB (lk_sz E hS) hu)⟩
theorem lk_recv (E : lk_E D cI cZ cO mi de z0 b L k xs cc nL ret p l s m args meth c) {u : Nat → Nat} {H : Heap} (hC : rC_G D cI cZ cO u σ.1 de σ.2.1 H) : ∃ cell : Cell, H[u 0]? = some cell ∧ cell.vm.isStatics = false ∧ s.vm.findClass RX11 = some cell.cls :=
  va_recv E.2.1.1 (rC_atP (C := RX11) (T := TX11) (N := 12) (ci := 12) (k := 0) hC ⟨rfl, rfl⟩) (ci := 12) (q0 := 0) rfl rfl
theorem lk_next {u u' : Nat → Nat} {gh' : rC_gh} {M1 : rv_Mem} {H H1 : Heap} (hz : z0 ≤ H.size) (hu : ∀ q, rl_in u σ.1 q → z0 ≤ q ∧ ∀ i, i < 3 → q ≠ k i) (ha : ∀ i, i < 3 → va_at D vwCl (k i, .inl (cI, lk_n i, .inl (σ.2.2 i))) H) (h0 : u' 0 = u 0) (hI : rC_I u' gh') (hs : rM_sub u u' σ.1 gh' H.size) (hG : rC_G D cI cZ cO u' gh' de M1 H1) (hk : ∀ q : Nat, q < H.size → ¬ rM_A u σ.1 H.size q → H1[q]? = H[q]?) : lk_G D cI cZ cO de z0 (u 0) k (gh', M1, σ.2.2) H1 := by
  refine ⟨u', h0, hI, fun q hq => ?_, hG, fun i hi => (ha i hi).kept (hk _ (ha i hi).lt (fun z => ?_))⟩
  · rcases rl_rM (hs q hq) with h | h
    · exact hu q h
    · refine ⟨Nat.le_trans hz h, fun i hi e => ?_⟩
      have := (ha i hi).lt
      have this : k i < H.size := this
      omega
  · rcases rl_rM z with h | h
    · exact (hu _ h).2 i hi rfl
    · have := (ha i hi).lt
      have this : k i < H.size := this
      exact absurd h (Nat.not_le.mpr this)
variable {y : MethodName} {by_ : ByteArray} {maxL n idx : Nat} {rt : Option FieldType} {rm : Room} {As rest : List Value}
theorem lk_ci (E : lk_E D cI cZ cO mi de z0 b L k xs cc nL ret p l s m args meth c) {v : Int32} {M1 : rv_Mem} (hM : ∀ u : Nat → Nat, rC_I u σ.1 → ∀ sz, vx_Met l y (rv_ws y by_ maxL rt) rm (rC_Px D cI cZ cO u σ.1 de sz (.ref (u 0) :: As) σ.2.1) (rC_qi D cI cZ cO u σ.1 de (rC_A u σ.1 sz) v M1) (rC_fx (rC_A u σ.1 sz)) 0 0 (rC_A u σ.1 sz)) (cg : GoodIn rv_AL (wsV RL idx RX11 y (rv_ws y by_ maxL rt))) (hd : y.cls = RX11 ∧ y.cls ≠ "java/lang/invoke/MethodHandle" ∧ y.cls ≠ "java/lang/invoke/VarHandle" ∧ (parseMethodDescriptor y.desc).map (fun d => d.parameters.length) = some n) (hrm : rm.cells = 0 ∧ rm.slots = 0) (hR : rm.frames + 1 ≤ R.frames ∧ 8 + (maxL + 11) + rm.locals ≤ R.locals) (hcs : cells ≤ R.cells ∧ slots ≤ R.slots) (hn : As.length = n) (hlv : lv.length = nL) (hst : st = As.reverse ++ .ref o :: rest) (hrs : (rest.map fun v => v.category).sum ≤ 8) (d : decode cc pc = .ok (.invokevirtual idx, 3)) (hq : pc + 3 = q) (kk : rv_M (lk_G D cI cZ cO de z0 o k) (fun q => z0 ≤ q) p l e R s m args below meth c cells slots Q t q lv (.int v :: rest) (σ.1, M1, σ.2.2)) : rv_M (lk_G D cI cZ cO de z0 o k) (fun q => z0 ≤ q) p l e R s m args below meth c cells slots Q t pc lv st σ := by
  subst hq; subst hst
  intro res h H locs ls hG hS hl
  obtain ⟨u, h0, hI, hu, hC, ha⟩ := hG
  subst h0
  have hAB := lk_AB (lk_sz E hS) hu
  refine vx_calli (vx_runV (C := RX11) (b := u 0) (As := As) (rest := rest) E.1 (hM u hI H.size) (cwV n E.1.2.2.2.2 cg rfl hrm.1 hrm.2 hd hR) ⟨rC_pblind, lk_recv E hC, lk_preC E hu hC hS⟩ rfl hn (hl.1.trans hlv) rfl (by simpa using hrs) d hcs) hS (fun q _ h => hAB q (Or.inl h)) (fun q h => hAB q (Or.inl h)) (fun q _ h => hAB q (Or.inl h)) (fun _ _ _ _ _ _ _ _ _ hp => hp.elim) (fun r u9 t H1 locs1 ht hvm hw hB hz1 hk1 hS1 => ?_)
  obtain ⟨e1, e2⟩ := hw
  subst e1; subst e2
  rw [ht] at hB
  exact kk res h H1 locs1 ls (lk_next (lk_sz E hS) hu ha rfl hI rM_sub_rf hB (fun q h1 h2 => hk1 q h1 (fun z => h2 (Or.inl z)))) hS1 hl
theorem lk_cm (E : lk_E D cI cZ cO mi de z0 b L k xs cc nL ret p l s m args meth c) {v : Int32} {gh' : rC_gh} {M1 : rv_Mem} (hM : ∀ u : Nat → Nat, rC_I u σ.1 → ∀ sz, vx_Met l y (rv_ws y by_ maxL rt) rm (rM_Px D cI cZ cO u σ.1 mi de sz (.ref (u 0) :: As) σ.2.1) (rM_qi D cI cZ cO u σ.1 de sz v gh' M1) (rC_fx (rM_A u σ.1 sz)) mc ms (rM_A u σ.1 sz)) (cg : GoodIn rv_AL (wsV RL idx RX11 y (rv_ws y by_ maxL rt))) (hd : y.cls = RX11 ∧ y.cls ≠ "java/lang/invoke/MethodHandle" ∧ y.cls ≠ "java/lang/invoke/VarHandle" ∧ (parseMethodDescriptor y.desc).map (fun d => d.parameters.length) = some n) (hrm : rm.cells = mc ∧ rm.slots = ms) (hR : rm.frames + 1 ≤ R.frames ∧ 8 + (maxL + 11) + rm.locals ≤ R.locals) (hcs : cells + mc ≤ R.cells ∧ slots + ms ≤ R.slots) (hn : As.length = n) (hlv : lv.length = nL) (hst : st = As.reverse ++ .ref o :: rest) (hrs : (rest.map fun v => v.category).sum ≤ 8) (d : decode cc pc = .ok (.invokevirtual idx, 3)) (hq : pc + 3 = q) (kk : rv_M (lk_G D cI cZ cO de z0 o k) (fun q => z0 ≤ q) p l e R s m args below meth c (cells + mc) (slots + ms) Q t q lv (.int v :: rest) (gh', M1, σ.2.2)) : rv_M (lk_G D cI cZ cO de z0 o k) (fun q => z0 ≤ q) p l e R s m args below meth c cells slots Q t pc lv st σ := by
  subst hq; subst hst
  intro res h H locs ls hG hS hl
  obtain ⟨u, h0, hI, hu, hC, ha⟩ := hG
  subst h0
  have hAB := lk_AB (lk_sz E hS) hu
  refine vx_calli (vx_runV (C := RX11) (b := u 0) (As := As) (rest := rest) E.1 (hM u hI H.size) (cwV n E.1.2.2.2.2 cg rfl hrm.1 hrm.2 hd hR) ⟨rM_pblind, lk_recv E hC, lk_preM E hu hC hS⟩ rfl hn (hl.1.trans hlv) rfl (by simpa using hrs) d hcs) hS (fun q _ h => hAB q h) (fun q h => hAB q h) (fun q _ h => hAB q h) (fun _ _ _ _ _ _ _ _ _ hp => hp.elim) (fun r u9 t H1 locs1 ht hvm hw hB hz1 hk1 hS1 => ?_)
  obtain ⟨e1, h0', hI', hs'⟩ := hw
  subst e1
  rw [ht] at hB
  exact kk res h H1 locs1 ls (lk_next (lk_sz E hS) hu ha h0' hI' hs' hB hk1) hS1 hl
theorem lk_cn (E : lk_E D cI cZ cO mi de z0 b L k xs cc nL ret p l s m args meth c) {v : Int32} {M1 : rv_Mem} (hM : ∀ u : Nat → Nat, rC_I u σ.1 → Met l y (rv_ws y by_ maxL rt) rm (rC_Pc D cI cZ cO u σ.1 de (.ref (u 0) :: As) σ.2.1) (rC_QI D cI cZ cO u σ.1 de v M1) 0 0 (rC_K u σ.1)) (cg : GoodIn rv_AL (wsV RL idx RX11 y (rv_ws y by_ maxL rt))) (hd : y.cls = RX11 ∧ y.cls ≠ "java/lang/invoke/MethodHandle" ∧ y.cls ≠ "java/lang/invoke/VarHandle" ∧ (parseMethodDescriptor y.desc).map (fun d => d.parameters.length) = some n) (hrm : rm.cells = 0 ∧ rm.slots = 0) (hR : rm.frames + 1 ≤ R.frames ∧ 8 + (maxL + 11) + rm.locals ≤ R.locals) (hcs : cells ≤ R.cells ∧ slots ≤ R.slots) (hn : As.length = n) (hlv : lv.length = nL) (hst : st = As.reverse ++ .ref o :: rest) (hrs : (rest.map fun v => v.category).sum ≤ 8) (d : decode cc pc = .ok (.invokevirtual idx, 3)) (hq : pc + 3 = q) (kk : rv_M (lk_G D cI cZ cO de z0 o k) (fun q => z0 ≤ q) p l e R s m args below meth c cells slots Q t q lv (.int v :: rest) (σ.1, M1, σ.2.2)) : rv_M (lk_G D cI cZ cO de z0 o k) (fun q => z0 ≤ q) p l e R s m args below meth c cells slots Q t pc lv st σ := by
  subst hq; subst hst
  intro res h H locs ls hG hS hl
  obtain ⟨u, h0, hI, hu, hC, ha⟩ := hG
  subst h0
  have hAA : ∀ q, rC_K u σ.1 q → z0 ≤ q := fun q h => (hu q (Or.inl h)).1
  refine va_calli (va_runV (C := RX11) (b := u 0) (As := As) (rest := rest) E.1 (hM u hI) (cwV n E.1.2.2.2.2 cg rfl hrm.1 hrm.2 hd hR) ⟨rC_blind, lk_recv E hC, fun U hU hW => ⟨rfl, by rw [hU]; exact hC, va_K.moved hW.alike E.2.1.1, E.2.1.2.1.warm hW⟩⟩ rfl hn (hl.1.trans hlv) rfl (by simpa using hrs) d hcs) hS (fun q _ h => hAA q h) hAA (fun r u9 t H1 locs1 ht hvm hw hB hz1 hk1 hS1 => ?_)
  obtain ⟨e1, e2⟩ := hw
  subst e1; subst e2
  rw [ht] at hB
  exact kk res h H1 locs1 ls (lk_next (lk_sz E hS) hu ha rfl hI rM_sub_rf hB (fun q h1 h2 => hk1 q h1 (fun z => h2 (Or.inl (Or.inl z))))) hS1 hl
/-- it throws x, and that is caught -/
theorem lk_cx (E : lk_E D cI cZ cO mi de z0 b L k xs cc nL ret p l s m args meth c) {x : Nat} {M1 : rv_Mem} {hh : List (Nat × Nat × Nat × Nat)} (hM : ∀ u : Nat → Nat, rC_I u σ.1 → ∀ sz, ∃ PX, (PX = rC_Px D cI cZ cO u σ.1 de sz (.ref (u 0) :: As) σ.2.1 ∨ PX = rM_Px D cI cZ cO u σ.1 mi de sz (.ref (u 0) :: As) σ.2.1) ∧ vx_Met l y (rv_ws y by_ maxL rt) rm PX (rC_fi (rC_A u σ.1 sz)) (rC_xc D cI cZ cO u σ.1 de (rC_A u σ.1 sz) x M1) 1 6 (rC_A u σ.1 sz)) (cg : GoodIn rv_AL (wsV RL idx RX11 y (rv_ws y by_ maxL rt))) (hd : y.cls = RX11 ∧ y.cls ≠ "java/lang/invoke/MethodHandle" ∧ y.cls ≠ "java/lang/invoke/VarHandle" ∧ (parseMethodDescriptor y.desc).map (fun d => d.parameters.length) = some n) (hrm : rm.cells = 1 ∧ rm.slots = 6) (hR : rm.frames + 1 ≤ R.frames ∧ 8 + (maxL + 11) + rm.locals ≤ R.locals) (hcs : cells + 1 ≤ R.cells ∧ slots + 6 ≤ R.slots) (hn : As.length = n) (hlv : lv.length = nL) (hst : st = As.reverse ++ .ref o :: rest) (hrs : (rest.map fun v => v.category).sum ≤ 8) (d : decode cc pc = .ok (.invokevirtual idx, 3))
    (htb : c.exceptionTable.toList = tableOf hh) (pre : List ExceptionTableEntry) (ent : ExceptionTableEntry) (suf : List ExceptionTableEntry) (htab : tableOf hh = pre ++ ent :: suf) (hpass : ∀ z ∈ pre, z.catchType ≠ 0 ∧ ∃ nm : String, Cond.classLink RL z.catchType nm ∈ rv_AL ∧ va_Nc (rC_ex x) nm s) (hcov : covers ent pc = true) (h0 : ent.catchType ≠ 0) (hlink : Cond.classLink RL ent.catchType (rC_ex x) ∈ rv_AL) (hcast : va_Nw (.castable (rC_ex x) (rC_ex x)) s)
    (kk : ∀ q9 : Nat, rv_M (lk_G D cI cZ cO de z0 o k) (fun q => z0 ≤ q) p l e R s m args below meth c (cells + 1) (slots + 6) Q t ent.handlerPc lv [.ref q9] (σ.1, M1, σ.2.2)) : rv_M (lk_G D cI cZ cO de z0 o k) (fun q => z0 ≤ q) p l e R s m args below meth c cells slots Q t pc lv st σ := by
  subst hst
  intro res h H locs ls hG hS hl
  obtain ⟨u, h0u, hI, hu, hC, ha⟩ := hG
  subst h0u
  have hAB := lk_AB (lk_sz E hS) hu
  obtain ⟨PX, hPX, hMX⟩ := hM u hI H.size
  have hpv : PreV s H RX11 (u 0) PX As := by
    rcases hPX with rfl | rfl
    · exact ⟨rC_pblind, lk_recv E hC, lk_preC E hu hC hS⟩
    · exact ⟨rM_pblind, lk_recv E hC, lk_preM E hu hC hS⟩
  refine vx_calli (vx_runV (C := RX11) (b := u 0) (As := As) (rest := rest) E.1 hMX (cwV n E.1.2.2.2.2 cg rfl hrm.1 hrm.2 hd hR) hpv rfl hn (hl.1.trans hlv) rfl (by simpa using hrs) d hcs) hS (fun q _ h => hAB q (Or.inl h)) (fun q h => hAB q (Or.inl h)) (fun q _ h => hAB q (Or.inl h)) (fun E9 ce q9 u9 t9 H1 locs1 ht hvm hw hB hz1 hk1 hS1 hce hcv hcl9 => ?_) (fun _ _ _ _ _ _ _ hp => hp.elim)
  obtain ⟨rfl, hB⟩ := hB
  rw [ht] at hB
  refine vx_catch E.1.2.2.2.1 pre ent suf (htb.trans htab) (fun z hz => ?_) hcov h0 (E.1.2.2.2.2 _ hlink) (va_Nw.use rfl hcast) hce hcv hcl9 (kk q9 res h H1 locs1 ls (lk_next (lk_sz E hS) hu ha rfl hI rM_sub_rf hB (fun q h1 h2 => hk1 q h1 (fun z => h2 (Or.inl z)))) hS1 hl)
  obtain ⟨h1, nm, h2, h3⟩ := hpass z hz
  exact Or.inr ⟨h1, nm, E.1.2.2.2.2 _ h2, h3⟩
end LK
