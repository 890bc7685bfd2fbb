/-! THE LAW'S OWN METHODS: a call of the class; its answer goes into the row of one long; its exceptions are told by a number -/
abbrev rL_ty (cI cZ cO cJ : ClassId) : List (ClassId × FieldType) := [(cI, .int), (cZ, .boolean), (cO, .object "java/lang/Object"), (cJ, .long)]
abbrev rL_o (cJ : ClassId) (o : Nat) (w : Int64) : Nat × va_E := (o, .inl (cJ, 1, .inr (.inl (fun _ => w))))
def rL_xt (U : State) : Prop := va_Nc (rC_ex 2) (rC_ex 1) U ∧ va_Nc (rC_ex 3) (rC_ex 1) U ∧ va_Nc (rC_ex 3) (rC_ex 2) U
theorem rL_xt.moved {u U : State} (hv : u.vm.Alike U.vm) (h : rL_xt u) : rL_xt U := ⟨h.1.moved hv, h.2.1.moved hv, h.2.2.moved hv⟩
def rL_P (D : va_G) (cI cZ cO cJ : ClassId) (ad : Nat → Nat) (gh : rC_gh) (mi de o sz : Nat) (M : rv_Mem) (w : Int64) (U : State) : Prop := va_K D vwCl (rL_ty cI cZ cO cJ) U ∧ U.heap.size = sz ∧ rC_G D cI cZ cO ad gh de M U.heap ∧ rC_nw U ∧ rC_tk (rC_A ad gh sz) U ∧ rM_tk mi de (rM_A ad gh sz) U ∧ va_at D vwCl (rL_o cJ o w) U.heap ∧ ¬ rM_A ad gh sz o ∧ rL_xt U ∧ de ≠ o
theorem rL_P.bl {D : va_G} {cI cZ cO cJ : ClassId} {ad : Nat → Nat} {gh : rC_gh} {mi de o sz : Nat} {M : rv_Mem} {w : Int64} {av : List Value} : FrameBlind (va_Pc av (rL_P D cI cZ cO cJ ad gh mi de o sz M w)) := fun a U g mk hq => ⟨hq.1, va_K.moved (u := U) (U := U.calling g mk a) (Vm.Alike.refl U.vm) hq.2.1, hq.2.2.1, hq.2.2.2.1, hq.2.2.2.2.1.same rfl, rC_tk.same (s := U) (U := U.calling g mk a) rfl rfl hq.2.2.2.2.2.1, rM_tk.same (s := U) (U := U.calling g mk a) rfl rfl hq.2.2.2.2.2.2.1, hq.2.2.2.2.2.2.2.1, hq.2.2.2.2.2.2.2.2.1, rL_xt.moved (u := U) (U := U.calling g mk a) (Vm.Alike.refl U.vm) hq.2.2.2.2.2.2.2.2.2.1, hq.2.2.2.2.2.2.2.2.2.2⟩
def rL_A (ad : Nat → Nat) (gh : rC_gh) (sz o : Nat) (q : Nat) : Prop := rM_A ad gh sz q ∨ q = o
def rL_E (D : va_G) (cI cZ cO cJ : ClassId) (ad : Nat → Nat) (gh : rC_gh) (mi de o : Nat) (M : rv_Mem) (w : Int64) (cc : ByteArray) (nL : Nat) (hh : List (Nat × Nat × Nat × Nat)) (p : Program) (l : Launch) (s : State) (m : MethodId) (args : Array Value) (meth : Method) (c : Code) : Prop := CallFix p m c cc nL s args rv_AL RL ∧ rL_P D cI cZ cO cJ ad gh mi de o s.heap.size M w s ∧ rC_I ad gh ∧ l.stackTraces = false ∧ c.exceptionTable.toList = tableOf hh ∧ meth.sig.returnType = some .int ∧ meth.locks = false
def rL_qo (D : va_G) (cI cZ cO cJ : ClassId) (ad : Nat → Nat) (gh : rC_gh) (de o sz : Nat) (gh' : rC_gh) (M' : rv_Mem) (w' : Int64) : Array Value → State → Outcome → State → Prop := va_Qi (fun r (u : Nat → Nat) => r = 0 ∧ u 0 = ad 0 ∧ rC_I u gh' ∧ rM_sub ad u gh gh' sz) (fun u t => rC_G D cI cZ cO u gh' de M' t.heap ∧ va_at D vwCl (rL_o cJ o w') t.heap) (rL_A ad gh sz o)
def rL_qx (D : va_G) (cI cZ cO cJ : ClassId) (ad : Nat → Nat) (gh : rC_gh) (de o sz : Nat) (k : Int32) (M' : rv_Mem) (w : Int64) : Array Value → State → Outcome → State → Prop := va_Qi (fun r (_ : Unit) => r = k) (fun _ t => rC_G D cI cZ cO ad gh de M' t.heap ∧ va_at D vwCl (rL_o cJ o w) t.heap) (rL_A ad gh sz o)
theorem rM_sub_rf {ad : Nat → Nat} {gh : rC_gh} {sz : Nat} : rM_sub ad ad gh gh sz := fun q h => h.elim (fun h => Or.inl (Or.inl h)) Or.inr
theorem rL_keep {D : va_G} {cI cZ cO : ClassId} {u : Nat → Nat} {gh : rC_gh} {de o : Nat} {M : rv_Mem} {H H1 : Heap} (hG : rC_G D cI cZ cO u gh de M H) (hq : ∀ q : Nat, q ≠ o → H1[q]? = H[q]?) (hn : ∀ q, (rC_K u gh q ∨ ∃ i, i < 3 ∧ (q = u (9 + i) ∨ (0 < gh.1 i ∧ q = u (9 + i + 44)))) → q ≠ o) (hde : de ≠ o) : rC_G D cI cZ cO u gh de M H1 := by
  refine ⟨fun k hk => (hG.1 k hk).kept (hq _ (hn _ (Or.inl ⟨k, hk, rfl⟩))), fun i hi => ?_⟩
  obtain ⟨cap, mc, f, h1, h2, h3⟩ := hG.2 i hi
  refine ⟨cap, mc, f, h1.kept (hq _ (hn _ (Or.inr ⟨i, hi, Or.inl rfl⟩))), h2.kept (hq _ ?_), h3⟩
  rcases Nat.eq_zero_or_pos (gh.1 i) with h0 | h0
  · show u (9 + i + 44) ≠ o
    rw [(h3.2.2.1 h0).1]; exact hde
  · exact hn _ (Or.inr ⟨i, hi, Or.inr ⟨h0, rfl⟩⟩)
/-- a method with handlers, out of its walk -/
theorem rL_met {l : Launch} {y : MethodName} {cc : ByteArray} {maxL : Nat} {ret : Option FieldType} {hh : List (Nat × Nat × Nat × Nat)} {rm : Room} {P : State → Prop} {vs : List Value} {Qc : Array Value → State → Outcome → State → Prop} {mc ms : Nat} {free : Addr → Prop} (hy : y.cls = RL) (hvn : (rv_lv vs).length ≤ maxL)
    (body : ∀ (p : Program) (e : Env) (s : State) (m : MethodId) (args : Array Value) (below : List Frame) (meth : Method) (c : Code) (ls : Array Slot), CallFix p m c cc maxL s args rv_AL RL → c.exceptionTable.toList = tableOf hh → meth.sig.returnType = ret → meth.locks = false → P s → rv_has ls (rv_lv vs ++ List.replicate (maxL - (rv_lv vs).length) none) → W p l e rm s m args below meth c s.heap [] 0 0 (MQ below Qc args s mc ms free) (F0 m 0 ls [])) : Met l y (Cond.codeWith y cc maxL ret hh :: rv_AL) rm (va_Pc vs P) Qc mc ms free := by
  refine MetFree.of_bodyS (code := cc) (maxLocals := maxL) (ret := ret) (by rw [hy]; decide) ?_ ?_
  · intro args s m h hn
    obtain ⟨m9, meth, c, hn9, h1, h2, h3, h4, -, h5, h6, -⟩ := Cond.codeWith_spec (atoms_spec (ws := Cond.codeWith y cc maxL ret hh :: rv_AL) h _ List.mem_cons_self)
    cases hn.symm.trans hn9
    exact ⟨meth, c, h1, h2, h3, h4, h5, h6⟩
  · intro p e s m args below meth c s₁ B hml hv _
    obtain ⟨rfl, hP⟩ := hv
    have hh0 : s₁.heap = s.heap := by rw [B.state]; rfl
    have hts := atoms_spec (ws := Cond.codeWith y cc maxL ret hh :: rv_AL) B.pre
    have hown : s.vm.findClass RL = some m.cls := by rw [← hy]; exact findClass_of_methodNamed B.named
    have htb := vx_table (x := y) B (hts _ List.mem_cons_self)
    have K : W p l e rm s m vs.toArray below meth c s.heap [] 0 0 (MQ below Qc vs.toArray s mc ms free) (entryFrame m vs.toArray maxL) := by
      rw [lg_entry_eq]
      exact body p e s m vs.toArray below meth c _ ⟨B.exec, B.bytes, hml, hown, fun w hw => hts w (List.mem_cons_of_mem _ hw)⟩ htb B.returns B.notSynchronized hP (rv_entryL vs hvn (lv_entry vs (n := maxL) (by rw [← rv_lv_len]; exact hvn)))
    obtain ⟨t, a1, o, b1, b2, b3⟩ := K s₁ hh0 (Stand.of_body B)
    exact ⟨t, o, a1, b1, b2, ⟨b3.1, b3.2⟩⟩
section RLX
variable {p : Program} {l : Launch} {e : Env} {R : Room} {s : State} {m : MethodId} {args : Array Value} {below : List Frame} {meth : Method} {c : Code} {mc ms : Nat}
variable {D : va_G} {cI cZ cO cJ : ClassId} {ad : Nat → Nat} {gh : rC_gh} {mi de o : Nat} {Q : State → Prop} {M : rv_Mem} {w : Int64} {hh : List (Nat × Nat × Nat × Nat)}
variable {cc : ByteArray} {nL pc : Nat} {lv : List (Option Value)} {st : List Value} {ls : Array Slot}
variable {y : MethodName} {by_ : ByteArray} {maxL n idx : Nat} {rt : Option FieldType} {rm : Room} {As rest : List Value}
theorem rL_E.K3 (E : rL_E D cI cZ cO cJ ad gh mi de o M w cc nL hh p l s m args meth c) : va_K D vwCl [(cI, .int), (cZ, .boolean), (cO, .object "java/lang/Object")] s := E.2.1.1.sub (tys' := [(cI, .int), (cZ, .boolean), (cO, .object "java/lang/Object")]) [0, 1, 2] rfl
theorem rL_recv (E : rL_E D cI cZ cO cJ ad gh mi de o M w cc nL hh p l s m args meth c) : ∃ cell : Cell, s.heap[ad 0]? = some cell ∧ cell.vm.isStatics = false ∧ s.vm.findClass RX11 = some cell.cls :=
  va_recv E.2.1.1 (rC_atP (C := RX11) (T := TX11) (N := 12) (ci := 12) (k := 0) E.2.1.2.2.1 ⟨rfl, rfl⟩) (ci := 12) (q0 := 0) rfl rfl
theorem rL_pre (E : rL_E D cI cZ cO cJ ad gh mi de o M w cc nL hh p l s m args meth c) {av : List Value} : ∀ U : State, U.heap = s.heap → s.WarmedH U.vm → rC_Px D cI cZ cO ad gh de s.heap.size av M av.toArray U := fun U hU hW => ⟨rfl, by rw [hU], by rw [hU]; exact E.2.1.2.2.1, va_K.moved hW.alike E.K3, E.2.1.2.2.2.1.warm hW, E.2.1.2.2.2.2.1.warm hU hW va_S.rf (fun _ h => h)⟩
theorem rL_preM (E : rL_E D cI cZ cO cJ ad gh mi de o M w cc nL hh p l s m args meth c) {av : List Value} : ∀ U : State, U.heap = s.heap → s.WarmedH U.vm → rM_Px D cI cZ cO ad gh mi de s.heap.size av M av.toArray U := fun U hU hW => ⟨rfl, (rL_pre E (av := av) U hU hW).2, E.2.1.2.2.2.2.2.1.warm hU hW va_S.rf (fun _ h => h)⟩
/-- it answers -/
theorem rL_ok (E : rL_E D cI cZ cO cJ ad gh mi de o M w cc nL hh p l s m args meth c) {v : Int32} {M1 : rv_Mem} (hM : ∀ sz, vx_Met l y (rv_ws y by_ maxL rt) rm (rC_Px D cI cZ cO ad gh de sz (.ref (ad 0) :: As) M) (rC_qi D cI cZ cO ad gh de (rC_A ad gh sz) v M1) (rC_fx (rC_A ad gh sz)) mc ms (rC_A ad gh sz)) (cg : GoodIn rv_AL (wsV RL idx RX11 y (rv_ws y by_ maxL rt))) (hd : y.cls = RX11 ∧ y.cls ≠ "java/lang/invoke/MethodHandle" ∧ y.cls ≠ "java/lang/invoke/VarHandle" ∧ (parseMethodDescriptor y.desc).map (fun d => d.parameters.length) = some n) (hrm : rm.cells = mc ∧ rm.slots = ms) (hR : rm.frames + 1 ≤ R.frames ∧ 8 + (maxL + 11) + rm.locals ≤ R.locals) (hcs : mc ≤ R.cells ∧ ms ≤ R.slots) (hn : As.length = n) (hl : rv_has ls lv) (hlv : lv.length = nL) (hst : st = As.reverse ++ .ref (ad 0) :: rest) (hrs : (rest.map fun v => v.category).sum ≤ 8) (d : decode cc pc = .ok (.invokevirtual idx, 3))
    (kk : ∀ (u : Nat → Nat) (H1 : Heap) (locs1 : List Loc), u 0 = ad 0 → rC_I u gh → rM_sub ad u gh gh s.heap.size → rC_G D cI cZ cO u gh de M1 H1 → va_at D vwCl (rL_o cJ o w) H1 → va_S (rL_A ad gh s.heap.size o) s.heap H1 locs1 → W p l e R s m args below meth c H1 locs1 mc ms Q (F0 m (pc + 3) ls (.int v :: rest))) : W p l e R s m args below meth c s.heap [] 0 0 Q (F0 m pc ls st) := by
  subst hst
  refine vx_calli (vx_runV (C := RX11) (b := ad 0) (As := As) (rest := rest) E.1 (hM s.heap.size) (cwV n E.1.2.2.2.2 cg rfl hrm.1 hrm.2 hd hR) ⟨rC_pblind, rL_recv E, rL_pre E⟩ rfl hn (hl.1.trans hlv) rfl (by simpa using hrs) d (by rw [Nat.zero_add, Nat.zero_add]; exact hcs)) (A0 := rL_A ad gh s.heap.size o) (H0 := s.heap) va_S.rf (fun q _ h => Or.inl (Or.inl h)) (fun q h => Or.inl (Or.inl h)) (fun q _ h => Or.inl (Or.inl h)) (fun _ _ _ _ _ _ _ _ _ hp => hp.elim) (fun r u t H1 locs1 ht hvm hw hB hz1 hk1 hS1 => ?_)
  obtain ⟨rfl, rfl⟩ := hw
  rw [ht] at hB
  rw [Nat.zero_add, Nat.zero_add]
  have ho := E.2.1.2.2.2.2.2.2.1
  exact kk ad H1 locs1 rfl E.2.2.1 rM_sub_rf hB (ho.kept (hk1 _ ho.lt (fun z => E.2.1.2.2.2.2.2.2.2.1 (Or.inl z)))) hS1
theorem rL_okM (E : rL_E D cI cZ cO cJ ad gh mi de o M w cc nL hh p l s m args meth c) {v : Int32} {gh' : rC_gh} {M1 : rv_Mem} (hM : ∀ sz, vx_Met l y (rv_ws y by_ maxL rt) rm (rM_Px D cI cZ cO ad gh mi de sz (.ref (ad 0) :: As) M) (rM_qi D cI cZ cO ad gh de sz v gh' M1) (rC_fx (rM_A ad gh sz)) mc ms (rM_A ad gh sz)) (cg : GoodIn rv_AL (wsV RL idx RX11 y (rv_ws y by_ maxL rt))) (hd : y.cls = RX11 ∧ y.cls ≠ "java/lang/invoke/MethodHandle" ∧ y.cls ≠ "java/lang/invoke/VarHandle" ∧ (parseMethodDescriptor y.desc).map (fun d => d.parameters.length) = some n) (hrm : rm.cells = mc ∧ rm.slots = ms) (hR : rm.frames + 1 ≤ R.frames ∧ 8 + (maxL + 11) + rm.locals ≤ R.locals) (hcs : mc ≤ R.cells ∧ ms ≤ R.slots) (hn : As.length = n) (hl : rv_has ls lv) (hlv : lv.length = nL) (hst : st = As.reverse ++ .ref (ad 0) :: rest) (hrs : (rest.map fun v => v.category).sum ≤ 8) (d : decode cc pc = .ok (.invokevirtual idx, 3))
    (kk : ∀ (u : Nat → Nat) (H1 : Heap) (locs1 : List Loc), u 0 = ad 0 → rC_I u gh' → rM_sub ad u gh gh' s.heap.size → rC_G D cI cZ cO u gh' de M1 H1 → va_at D vwCl (rL_o cJ o w) H1 → va_S (rL_A ad gh s.heap.size o) s.heap H1 locs1 → W p l e R s m args below meth c H1 locs1 mc ms Q (F0 m (pc + 3) ls (.int v :: rest))) : W p l e R s m args below meth c s.heap [] 0 0 Q (F0 m pc ls st) := by
  subst hst
  refine vx_calli (vx_runV (C := RX11) (b := ad 0) (As := As) (rest := rest) E.1 (hM s.heap.size) (cwV n E.1.2.2.2.2 cg rfl hrm.1 hrm.2 hd hR) ⟨rM_pblind, rL_recv E, rL_preM E⟩ rfl hn (hl.1.trans hlv) rfl (by simpa using hrs) d (by rw [Nat.zero_add, Nat.zero_add]; exact hcs)) (A0 := rL_A ad gh s.heap.size o) (H0 := s.heap) va_S.rf (fun q _ h => Or.inl h) (fun q h => Or.inl h) (fun q _ h => Or.inl h) (fun _ _ _ _ _ _ _ _ _ hp => hp.elim) (fun r u t H1 locs1 ht hvm hw hB hz1 hk1 hS1 => ?_)
  obtain ⟨rfl, h0, hI', hs'⟩ := hw
  rw [ht] at hB
  rw [Nat.zero_add, Nat.zero_add]
  have ho := E.2.1.2.2.2.2.2.2.1
  exact kk u H1 locs1 h0 hI' hs' hB (ho.kept (hk1 _ ho.lt (fun z => E.2.1.2.2.2.2.2.2.2.1 z))) hS1
/-- it throws, and that is caught -/
theorem rL_ex (E : rL_E D cI cZ cO cJ ad gh mi de o M w cc nL hh p l s m args meth c) {x : Nat} {M1 : rv_Mem} {mk : Bool} {PX : Nat → Array Value → State → Prop} (hM : ∀ sz, vx_Met l y (rv_ws y by_ maxL rt) rm (PX sz) (rC_fi (rC_A ad gh sz)) (rC_xc D cI cZ cO ad gh de (rC_A ad gh sz) x M1) mc ms (rC_A ad gh sz)) (hPX : PX = (fun sz => rC_Px D cI cZ cO ad gh de sz (.ref (ad 0) :: As) M) ∨ PX = (fun sz => rM_Px D cI cZ cO ad gh mi de sz (.ref (ad 0) :: As) M)) (cg : GoodIn rv_AL (wsV RL idx RX11 y (rv_ws y by_ maxL rt))) (hd : y.cls = RX11 ∧ y.cls ≠ "java/lang/invoke/MethodHandle" ∧ y.cls ≠ "java/lang/invoke/VarHandle" ∧ (parseMethodDescriptor y.desc).map (fun d => d.parameters.length) = some n) (hrm : rm.cells = mc ∧ rm.slots = ms) (hR : rm.frames + 1 ≤ R.frames ∧ 8 + (maxL + 11) + rm.locals ≤ R.locals) (hcs : mc ≤ R.cells ∧ ms ≤ R.slots) (hn : As.length = n) (hl : rv_has ls lv) (hlv : lv.length = nL) (hst : st = As.reverse ++ .ref (ad 0) :: rest) (hrs : (rest.map fun v => v.category).sum ≤ 8) (d : decode cc pc = .ok (.invokevirtual idx, 3))
    (pre : List ExceptionTableEntry) (ent : ExceptionTableEntry) (suf : List ExceptionTableEntry) (htab : tableOf hh = pre ++ ent :: suf) (hpass : ∀ z ∈ pre, z.catchType ≠ 0 ∧ ∃ nm : String, Cond.classLink RL z.catchType nm ∈ rv_AL ∧ va_Nc (rC_ex x) nm s) (hcov : covers ent pc = true) (h0 : ent.catchType ≠ 0) (hlink : Cond.classLink RL ent.catchType (rC_ex x) ∈ rv_AL) (hcast : va_Nw (.castable (rC_ex x) (rC_ex x)) s)
    (kk : ∀ (q9 : Nat) (H1 : Heap) (locs1 : List Loc), rC_G D cI cZ cO ad gh de M1 H1 → va_at D vwCl (rL_o cJ o w) H1 → va_S (rL_A ad gh s.heap.size o) s.heap H1 locs1 → W p l e R s m args below meth c H1 locs1 mc ms Q (F0 m ent.handlerPc ls [.ref q9])) : W p l e R s m args below meth c s.heap [] 0 0 Q (F0 m pc ls st) := by
  subst hst
  have hpv : PreV s s.heap RX11 (ad 0) (PX s.heap.size) As := by
    rcases hPX with rfl | rfl
    · exact ⟨rC_pblind, rL_recv E, rL_pre E⟩
    · exact ⟨rM_pblind, rL_recv E, rL_preM E⟩
  refine vx_calli (vx_runV (C := RX11) (b := ad 0) (As := As) (rest := rest) E.1 (hM s.heap.size) (cwV n E.1.2.2.2.2 cg rfl hrm.1 hrm.2 hd hR) hpv rfl hn (hl.1.trans hlv) rfl (by simpa using hrs) d (by rw [Nat.zero_add, Nat.zero_add]; exact hcs)) (A0 := rL_A ad gh s.heap.size o) (H0 := s.heap) va_S.rf (fun q _ h => Or.inl (Or.inl h)) (fun q h => Or.inl (Or.inl h)) (fun q _ h => Or.inl (Or.inl h)) (fun E9 ce q9 u t H1 locs1 ht hvm hw hB hz1 hk1 hS1 hce hcv hcl9 => ?_) (fun _ _ _ _ _ _ _ hp => hp.elim)
  obtain ⟨rfl, hB⟩ := hB
  rw [ht] at hB
  rw [Nat.zero_add, Nat.zero_add]
  have ho := E.2.1.2.2.2.2.2.2.1
  refine vx_catch E.1.2.2.2.1 pre ent suf (E.2.2.2.2.1.trans htab) (fun z hz => ?_) hcov h0 (E.1.2.2.2.2 _ hlink) (va_Nw.use rfl hcast) hce hcv hcl9 (kk q9 H1 locs1 hB (ho.kept (hk1 _ ho.lt (fun z => E.2.1.2.2.2.2.2.2.2.1 (Or.inl z)))) hS1)
  obtain ⟨h1, nm, h2, h3⟩ := hpass z hz
  exact Or.inr ⟨h1, nm, E.1.2.2.2.2 _ h2, h3⟩
/-- the answer goes into the row of one long, and the method ends with 0 -/
theorem rL_end (E : rL_E D cI cZ cO cJ ad gh mi de o M w cc nL hh p l s m args meth c) {u : Nat → Nat} {gh' : rC_gh} {M1 : rv_Mem} {v : Int64} {pc2 : Nat} {off : Int} {H1 : Heap} {locs1 : List Loc} (h0 : u 0 = ad 0) (hI' : rC_I u gh') (hs : rM_sub ad u gh gh' s.heap.size) (hG : rC_G D cI cZ cO u gh' de M1 H1) (ho : va_at D vwCl (rL_o cJ o w) H1) (hS : va_S (rL_A ad gh s.heap.size o) s.heap H1 locs1) (d1 : decode cc pc = .ok (.lastore, 1)) (d2 : decode cc (pc + 1) = .ok (.goto off, 3)) (ht : ((pc + 1 : Nat) : Int) + off = (pc2 : Int)) (d3 : decode cc pc2 = .ok (.iconst 0, 1)) (d4 : decode cc (pc2 + 1) = .ok (.ireturn, 1)) : W p l e R s m args below meth c H1 locs1 mc ms (MQ below (rL_qo D cI cZ cO cJ ad gh de o s.heap.size gh' M1 v) args s mc ms (rL_A ad gh s.heap.size o)) (F0 m pc ls [.long v, .int 0, .ref o]) := by
  refine W.last E.1.1 E.1.2.1 ho ((E.2.1.1.2 3 _ rfl).1 1 (fun _ => .long w)) (fun q => by cases q) (by show ¬ ((0 : Int32) < 0 ∨ (arrV _ _ _).slots.size ≤ (0 : Int32).toNatClampNeg); rw [arrV_size]; show ¬ ((0 : Int32) < 0 ∨ 1 ≤ (0 : Int32).toNatClampNeg); decide) rfl rfl d1 fun H2 e1 z oq => ?_
  have hz : (0 : Int32).toNatClampNeg = 0 := by decide
  have ho2 : va_at D vwCl (rL_o cJ o v) H2 := by
    show H2[o]? = some (vp_cell cJ (1, .inr (.inl (fun _ => v))))
    rw [e1]
    show some ((vp_cell cJ (1, .inr (.inl (fun _ => w)))).setSlot _ _) = _
    rw [vp_cell_l, vp_cell_l, arrV_store]
    unfold arrV
    congr 2
  have hno : ∀ q, (rC_K u gh' q ∨ ∃ i, i < 3 ∧ (q = u (9 + i) ∨ (0 < gh'.1 i ∧ q = u (9 + i + 44)))) → q ≠ o := fun q hq h9 => E.2.1.2.2.2.2.2.2.2.1 (by rw [← h9]; exact hs q hq)
  have hG2 := rL_keep hG oq hno E.2.1.2.2.2.2.2.2.2.2.2
  refine lv_goto (tgt := pc2) E.1.1 E.1.2.1 d2 ht ?_
  refine lv_iconst (v := 0) E.1.1 E.1.2.1 d3 (by decide) ?_
  have hS2 := hS.put (k := (0 : Int32).toNatClampNeg) z oq (Or.inr rfl)
  exact W.iret E.1.1 E.1.2.1 E.2.2.2.2.2.1 (fun t ht hW => ⟨⟨0, u, rfl, ⟨rfl, h0, hI', hs⟩, by rw [ht]; exact hG2, by rw [ht]; exact ho2⟩, hS2.F ht⟩) hS2.2.2 d4 (hlocks := E.2.2.2.2.2.2)
/-- a number is told, and the method ends -/
theorem rL_endx (E : rL_E D cI cZ cO cJ ad gh mi de o M w cc nL hh p l s m args meth c) {M1 : rv_Mem} {k : Int32} {j : Int} {H1 : Heap} {locs1 : List Loc} (hG : rC_G D cI cZ cO ad gh de M1 H1) (ho : va_at D vwCl (rL_o cJ o w) H1) (hS : va_S (rL_A ad gh s.heap.size o) s.heap H1 locs1) (hk : Int32.ofInt j = k) (d3 : decode cc pc = .ok (.iconst j, 1)) (d4 : decode cc (pc + 1) = .ok (.ireturn, 1)) : W p l e R s m args below meth c H1 locs1 mc ms (MQ below (rL_qx D cI cZ cO cJ ad gh de o s.heap.size k M1 w) args s mc ms (rL_A ad gh s.heap.size o)) (F0 m pc ls []) := by
  refine lv_iconst (v := k) E.1.1 E.1.2.1 d3 hk ?_
  exact W.iret E.1.1 E.1.2.1 E.2.2.2.2.2.1 (fun t ht hW => ⟨⟨k, (), rfl, rfl, by rw [ht]; exact hG, by rw [ht]; exact ho⟩, hS.F ht⟩) hS.2.2 d4 (hlocks := E.2.2.2.2.2.2)
end RLX
