section RV2
variable {p : Program} {l : Launch} {e : Env} {R : Room} {s : State} {m : MethodId} {args : Array Value} {below : List Frame} {meth : Method} {c : Code} {cells slots : Nat}
variable {μ ρ : Type} {G : μ → Heap → Prop} {A : Nat → Prop} {Q : ρ → State → Prop}
variable {cc : ByteArray} {pc q : Nat} {lv lv' : List (Option Value)} {st : List Value} {M : μ} {t t1 t2 : Option ρ}
theorem rv_has_setl {ls' : Array Slot} {lv : List (Option Value)} {i : Nat} {w : Value} (hi : i + 1 < lv.length) (hc : rv_c2 lv i = true)
    (h : lv_has ls' lv.length ((i, w) :: (rv_kl lv).filter (fun q => !(q.1 == i) && (!(q.1 == i + 1) && !(q.1 + 1 == i && q.2.category == 2))))) : rv_has ls' ((lv.set i (some w)).set (i + 1) none) := by
  refine ⟨by rw [List.length_set, List.length_set]; exact h.1, h.2.1, fun j v hj => ?_⟩
  by_cases hj1 : j = i + 1
  · subst hj1
    rw [List.getElem?_set_self (by rw [List.length_set]; exact hi)] at hj
    cases hj
  · rw [List.getElem?_set_ne (Ne.symm hj1)] at hj
    by_cases hji : j = i
    · subst hji
      rw [List.getElem?_set_self (by omega)] at hj
      have e : w = v := by simpa using hj
      subst e
      exact h.2.2 (j, w) List.mem_cons_self
    · rw [List.getElem?_set_ne (Ne.symm hji)] at hj
      refine h.2.2 (j, v) (List.mem_cons_of_mem _ (List.mem_filter.mpr ⟨rv_kl_mem.mpr hj, ?_⟩))
      have h1 : (j == i) = false := by simpa using hji
      have h2 : (j == i + 1) = false := by simpa using hj1
      simp only [h1, h2, Bool.not_false, Bool.true_and]
      cases i with
      | zero => simp
      | succ k =>
        by_cases hjk : j = k
        · subst hjk
          have : rv_c2 lv (j + 1) = (v.category != 2) := by simp only [rv_c2, hj]
          rw [this] at hc
          simp only [bne_iff_ne, ne_eq] at hc
          simp [hc]
        · simp [hjk]
theorem rv_astore_n (E : rv_E p c cc) {k : Fin 4} {x : Nat} (d : decode cc pc = .ok (.astore_n k, 1)) (hi : (k : Nat) < lv.length) (hc : rv_c2 lv k = true) (he : lv.set k (some (.ref x)) = lv') (hq : pc + 1 = q) (kk : rv_M G A p l e R s m args below meth c cells slots Q t q lv' st M) : rv_M G A p l e R s m args below meth c cells slots Q t pc lv (.ref x :: st) M := by
  subst hq; subst he
  exact fun res h H locs ls hG hS hl => lv_astore_n E.1 E.2 d rfl (rv_has_k hl) hi rfl (fun ls' hl' => kk res h H locs ls' hG hS (rv_has_set hi hc hl'))
theorem rv_astore (E : rv_E p c cc) {k : Nat} {x : Nat} (d : decode cc pc = .ok (.astore k, 2)) (hi : k < lv.length) (hc : rv_c2 lv k = true) (he : lv.set k (some (.ref x)) = lv') (hq : pc + 2 = q) (kk : rv_M G A p l e R s m args below meth c cells slots Q t q lv' st M) : rv_M G A p l e R s m args below meth c cells slots Q t pc lv (.ref x :: st) M := by
  subst hq; subst he
  exact fun res h H locs ls hG hS hl => lv_astore E.1 E.2 d (rv_has_k hl) hi rfl (fun ls' hl' => kk res h H locs ls' hG hS (rv_has_set hi hc hl'))
theorem rv_lstore_n (E : rv_E p c cc) {k : Fin 4} {x : Int64} (d : decode cc pc = .ok (.lstore_n k, 1)) (hi : (k : Nat) + 1 < lv.length) (hc : rv_c2 lv k = true) (he : (lv.set k (some (.long x))).set (k + 1) none = lv') (hq : pc + 1 = q) (kk : rv_M G A p l e R s m args below meth c cells slots Q t q lv' st M) : rv_M G A p l e R s m args below meth c cells slots Q t pc lv (.long x :: st) M := by
  subst hq; subst he
  exact fun res h H locs ls hG hS hl => lv_lstore_n E.1 E.2 d rfl (rv_has_k hl) hi rfl (fun ls' hl' => kk res h H locs ls' hG hS (rv_has_setl hi hc hl'))
theorem rv_lstore (E : rv_E p c cc) {k : Nat} {x : Int64} (d : decode cc pc = .ok (.lstore k, 2)) (hi : k + 1 < lv.length) (hc : rv_c2 lv k = true) (he : (lv.set k (some (.long x))).set (k + 1) none = lv') (hq : pc + 2 = q) (kk : rv_M G A p l e R s m args below meth c cells slots Q t q lv' st M) : rv_M G A p l e R s m args below meth c cells slots Q t pc lv (.long x :: st) M := by
  subst hq; subst he
  exact fun res h H locs ls hG hS hl => lv_lstore E.1 E.2 d (rv_has_k hl) hi rfl (fun ls' hl' => kk res h H locs ls' hG hS (rv_has_setl hi hc hl'))
theorem rv_lload_n (E : rv_E p c cc) {k : Fin 4} {x : Int64} (d : decode cc pc = .ok (.lload_n k, 1)) (hv : lv[(k : Nat)]? = some (some (.long x))) (hq : pc + 1 = q) (kk : rv_M G A p l e R s m args below meth c cells slots Q t q lv (.long x :: st) M) : rv_M G A p l e R s m args below meth c cells slots Q t pc lv st M := by
  subst hq; exact fun res h H locs ls hG hS hl => lv_lload_n E.1 E.2 d rfl (hl.2.2 _ _ hv) (kk res h H locs ls hG hS hl)
theorem rv_lload (E : rv_E p c cc) {k : Nat} {x : Int64} (d : decode cc pc = .ok (.lload k, 2)) (hv : lv[k]? = some (some (.long x))) (hq : pc + 2 = q) (kk : rv_M G A p l e R s m args below meth c cells slots Q t q lv (.long x :: st) M) : rv_M G A p l e R s m args below meth c cells slots Q t pc lv st M := by
  subst hq; exact fun res h H locs ls hG hS hl => lv_lload E.1 E.2 d (hl.2.2 _ _ hv) (kk res h H locs ls hG hS hl)
theorem rv_lconst (E : rv_E p c cc) {n : Fin 2} {v : Int64} (d : decode cc pc = .ok (.lconst n, 1)) (hv : Int64.ofNat (n : Nat) = v) (hq : pc + 1 = q) (kk : rv_M G A p l e R s m args below meth c cells slots Q t q lv (.long v :: st) M) : rv_M G A p l e R s m args below meth c cells slots Q t pc lv st M := by
  subst hq; exact fun res h H locs ls hG hS hl => lv_lconst E.1 E.2 d hv (kk res h H locs ls hG hS hl)
theorem rv_land (E : rv_E p c cc) {x y : Int64} (d : decode cc pc = .ok (.land, 1)) (hq : pc + 1 = q) (kk : rv_M G A p l e R s m args below meth c cells slots Q t q lv (.long (x &&& y) :: st) M) : rv_M G A p l e R s m args below meth c cells slots Q t pc lv (.long y :: .long x :: st) M := by
  subst hq; exact fun res h H locs ls hG hS hl => lv_land E.1 E.2 d (kk res h H locs ls hG hS hl)
theorem rv_lor (E : rv_E p c cc) {x y : Int64} (d : decode cc pc = .ok (.lor, 1)) (hq : pc + 1 = q) (kk : rv_M G A p l e R s m args below meth c cells slots Q t q lv (.long (x ||| y) :: st) M) : rv_M G A p l e R s m args below meth c cells slots Q t pc lv (.long y :: .long x :: st) M := by
  subst hq; exact fun res h H locs ls hG hS hl => lv_lor E.1 E.2 d (kk res h H locs ls hG hS hl)
theorem rv_lshl (E : rv_E p c cc) {x : Int64} {y : Int32} (d : decode cc pc = .ok (.lshl, 1)) (hq : pc + 1 = q) (kk : rv_M G A p l e R s m args below meth c cells slots Q t q lv (.long (x <<< (y.toInt64 &&& 63)) :: st) M) : rv_M G A p l e R s m args below meth c cells slots Q t pc lv (.int y :: .long x :: st) M := by
  subst hq; exact fun res h H locs ls hG hS hl => lv_lshl E.1 E.2 d rfl (kk res h H locs ls hG hS hl)
theorem rv_lshr (E : rv_E p c cc) {x : Int64} {y : Int32} (d : decode cc pc = .ok (.lshr, 1)) (hq : pc + 1 = q) (kk : rv_M G A p l e R s m args below meth c cells slots Q t q lv (.long (x >>> (y.toInt64 &&& 63)) :: st) M) : rv_M G A p l e R s m args below meth c cells slots Q t pc lv (.int y :: .long x :: st) M := by
  subst hq; exact fun res h H locs ls hG hS hl => lv_lshr E.1 E.2 d rfl (kk res h H locs ls hG hS hl)
theorem rv_lcmp (E : rv_E p c cc) {x y : Int64} (d : decode cc pc = .ok (.lcmp, 1)) (hq : pc + 1 = q) (kk : rv_M G A p l e R s m args below meth c cells slots Q t q lv (.int (lg_cmp x y) :: st) M) : rv_M G A p l e R s m args below meth c cells slots Q t pc lv (.long y :: .long x :: st) M := by
  subst hq; exact fun res h H locs ls hG hS hl => W.lcmp E.1 E.2 d (kk res h H locs ls hG hS hl)
theorem rv_iushr (E : rv_E p c cc) {x y : Int32} (d : decode cc pc = .ok (.iushr, 1)) (hq : pc + 1 = q) (kk : rv_M G A p l e R s m args below meth c cells slots Q t q lv (.int ((x.toUInt32 >>> (y.toUInt32 &&& Int32.toUInt32 31)).toInt32) :: st) M) : rv_M G A p l e R s m args below meth c cells slots Q t pc lv (.int y :: .int x :: st) M := by
  subst hq; exact fun res h H locs ls hG hS hl => lv_iushr E.1 E.2 d rfl (kk res h H locs ls hG hS hl)
/-- more room is said to be used -/
theorem rv_wd (k n : Nat) (h1 : cells ≤ k) (h2 : slots ≤ n) (kk : rv_M G A p l e R s m args below meth c k n Q t pc lv st M) : rv_M G A p l e R s m args below meth c cells slots Q t pc lv st M :=
  fun res h H locs ls hG hS hl => W.widen h1 h2 (kk res h H locs ls hG hS hl)
theorem rv_mmax (E : rv_E p c cc) {own : String} {nL idx : Nat} {x y : Int32} (hml : c.maxLocals = nL) (hlv : lv.length = nL) (hown : s.vm.findClass own = some m.cls) (hlink : (Cond.methodLink own idx Lib.Math.max.name).before args s = true) (hstat : (Cond.static Lib.Math.max.name).before args s = true) (hini : (Cond.initialized "java/lang/Math").before args s = true) (hcode : (Cond.code Lib.Math.max.name Lib.Math.max.code 2 (some .int)).before args s = true)
    (hfr : 1 ≤ R.frames) (hlo : (st.map fun v => v.category).sum + 13 ≤ R.locals) (hcs : cells ≤ R.cells ∧ slots ≤ R.slots) (d : decode cc pc = .ok (.invokestatic idx, 3)) (hq : pc + 3 = q) (kk : rv_M G A p l e R s m args below meth c cells slots Q t q lv (.int (if x < y then y else x) :: st) M) : rv_M G A p l e R s m args below meth c cells slots Q t pc lv (.int y :: .int x :: st) M := by
  subst hq; exact fun res h H locs ls hG hS hl => va_mmax E.1 E.2 (hml.trans (hlv.symm.trans hl.1.symm)) hown hlink hstat hini hcode hfr hlo hcs.1 hcs.2 d (kk res h H locs ls hG hS hl)
theorem rv_mmin (E : rv_E p c cc) {own : String} {nL idx : Nat} {x y : Int32} (hml : c.maxLocals = nL) (hlv : lv.length = nL) (hown : s.vm.findClass own = some m.cls) (hlink : (Cond.methodLink own idx Lib.Math.min.name).before args s = true) (hstat : (Cond.static Lib.Math.min.name).before args s = true) (hini : (Cond.initialized "java/lang/Math").before args s = true) (hcode : (Cond.code Lib.Math.min.name Lib.Math.min.code 2 (some .int)).before args s = true)
    (hfr : 1 ≤ R.frames) (hlo : (st.map fun v => v.category).sum + 13 ≤ R.locals) (hcs : cells ≤ R.cells ∧ slots ≤ R.slots) (d : decode cc pc = .ok (.invokestatic idx, 3)) (hq : pc + 3 = q) (kk : rv_M G A p l e R s m args below meth c cells slots Q t q lv (.int (if y < x then y else x) :: st) M) : rv_M G A p l e R s m args below meth c cells slots Q t pc lv (.int y :: .int x :: st) M := by
  subst hq; exact fun res h H locs ls hG hS hl => va_mmin E.1 E.2 (hml.trans (hlv.symm.trans hl.1.symm)) hown hlink hstat hini hcode hfr hlo hcs.1 hcs.2 d (kk res h H locs ls hG hS hl)
end RV2
/-- the locals at a method's entry: a long takes two places -/
def rv_lv : List Value → List (Option Value)
  | [] => []
  | v :: vs => if v.category = 2 then some v :: none :: rv_lv vs else some v :: rv_lv vs
theorem rv_lv_len : ∀ vs : List Value, (rv_lv vs).length = (lg_sl vs).length
  | [] => rfl
  | v :: vs => by
    have ih := rv_lv_len vs
    unfold rv_lv
    unfold lg_sl at ih ⊢
    rw [List.flatMap_cons]
    by_cases h : v.category = 2
    · rw [if_pos h, if_pos h]; simp [ih]
    · rw [if_neg h, if_neg h]; simp [ih]
theorem rv_lv_mem : ∀ (vs : List Value) (k i : Nat) (v : Value), (rv_lv vs)[i]? = some (some v) → (k + i, v) ∈ lv_args k vs
  | [], k, i, v, h => by simp [rv_lv] at h
  | w :: vs, k, i, v, h => by
    unfold rv_lv at h
    unfold lv_args
    by_cases hw : w.category = 2
    · rw [if_pos hw] at h ⊢
      match i, h with
      | 0, h =>
        simp only [List.getElem?_cons_zero, Option.some.injEq] at h
        subst h
        exact List.mem_cons_self
      | 1, h => simp at h
      | i + 2, h =>
        have h2 : (rv_lv vs)[i]? = some (some v) := by simpa using h
        have := rv_lv_mem vs (k + 2) i v h2
        rw [show k + (i + 2) = k + 2 + i by omega]
        exact List.mem_cons_of_mem _ this
    · rw [if_neg hw] at h ⊢
      match i, h with
      | 0, h =>
        simp only [List.getElem?_cons_zero, Option.some.injEq] at h
        subst h
        exact List.mem_cons_self
      | i + 1, h =>
        have h2 : (rv_lv vs)[i]? = some (some v) := by simpa using h
        have := rv_lv_mem vs (k + 1) i v h2
        rw [show k + (i + 1) = k + 1 + i by omega]
        exact List.mem_cons_of_mem _ this
theorem rv_entryL {ls : Array Slot} (vs : List Value) {n : Nat} (hn : (rv_lv vs).length ≤ n) (h : lv_has ls n (lv_args 0 vs)) : rv_has ls (rv_lv vs ++ List.replicate (n - (rv_lv vs).length) none) := by
  refine ⟨by rw [h.1]; simp; omega, h.2.1, fun i v hi => ?_⟩
  have hv : (rv_lv vs)[i]? = some (some v) := by
    by_cases hl : i < (rv_lv vs).length
    · rw [List.getElem?_append_left hl] at hi; exact hi
    · rw [List.getElem?_append_right (by omega), List.getElem?_replicate] at hi
      split at hi <;> cases hi
  have := h.2.2 _ (rv_lv_mem vs 0 i v hv)
  simpa using this
/-- where nothing is asked of the end, nothing is to be done -/
theorem rv_tr {p : Program} {l : Launch} {e : Env} {R : Room} {s : State} {m : MethodId} {args : Array Value} {below : List Frame} {meth : Method} {c : Code} {cells slots pc : Nat} {μ ρ : Type} {G : μ → Heap → Prop} {A : Nat → Prop} {Q : ρ → State → Prop} {r : ρ} {lv : List (Option Value)} {st : List Value} {M : μ} (h : ∀ t, Q r t) : rv_M G A p l e R s m args below meth c cells slots Q (some r) pc lv st M := by
  intro res hr H locs ls hG hS hl
  cases hr
  exact fun T hT X => ⟨_, Steps.refl _, h _⟩
