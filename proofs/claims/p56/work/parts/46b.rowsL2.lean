/-! THE LAW's methods called, and their ends -/
theorem lk_le1 {x a c B C : Nat} (h : x + c ≤ B) (hb : a ≤ c) (hB : B ≤ C) : x + a ≤ C := by omega
theorem lk_le2 {x a b c B C : Nat} (h : x + c ≤ B) (hb : a + b ≤ c) (hB : B ≤ C) : x + a + b ≤ C := by omega
def lk_qL (below : List Frame) (args : Array Value) (s : State) : Bool × rC_gh × rv_Mem × rv_Mem → State → Prop := fun r => match r.1 with
  | true => lw_Z below args s
  | false => fun _ => True
section LK2
variable {p : Program} {l : Launch} {e : Env} {R : Room} {s : State} {m : MethodId} {args : Array Value} {below : List Frame} {meth : Method} {c : Code} {cells slots mc ms : Nat}
variable {μ ρ : Type} {G : μ → Heap → Prop} {A0 : Nat → Prop} {Q : ρ → State → Prop} {D : va_G} {cI cZ cO : ClassId} {mi de z0 o b L : Nat} {k : Nat → Nat} {xs : Nat → Int32}
variable {cc : ByteArray} {nL pc q : Nat} {ret : Option FieldType} {lv lv' : List (Option Value)} {st : List Value} {M : μ} {σ σ' : lk_mu} {t t1 t2 t3 : Option ρ}
theorem lk_hhr {x : Nat} (k1 : x = 1 → rv_M G A0 p l e R s m args below meth c cells slots Q t1 pc lv st M) (k2 : x = 2 → rv_M G A0 p l e R s m args below meth c cells slots Q t2 pc lv st M) (k3 : x = 3 → rv_M G A0 p l e R s m args below meth c cells slots Q t3 pc lv st M) : rv_M G A0 p l e R s m args below meth c cells slots Q (lk_hh x t1 t2 t3) pc lv st M := by
  unfold lk_hh
  by_cases h1 : x = 1
  · rw [if_pos h1]; exact k1 h1
  · rw [if_neg h1]
    by_cases h2 : x = 2
    · rw [if_pos h2]; exact k2 h2
    · rw [if_neg h2]
      by_cases h3 : x = 3
      · rw [if_pos h3]; exact k3 h3
      · rw [if_neg h3]; exact rv_stuck
theorem lk_lt {g : rC_gh} {M1 x : rv_Mem} {f : rv_Mem → Option ρ} {G : lk_mu → Heap → Prop} (kk : ∀ A, rv_M G A0 p l e R s m args below meth c cells slots Q (f A) pc lv st (g, M1, A)) : rv_M G A0 p l e R s m args below meth c cells slots Q (rv_lt x f) pc lv st (g, M1, x) := kk x
theorem lk_P.bl {av : List Value} : FrameBlind (va_Pc av (lk_P D cI cZ cO mi de z0 o b L k xs σ)) := fun a U g mk hq => by
  obtain ⟨h0, ⟨h1, h2, h3, h4, h5, h6, h7⟩, h8⟩ := hq
  exact ⟨h0, ⟨va_K.moved (u := U) (U := U.calling g mk a) (Vm.Alike.refl U.vm) h1, h2.same rfl, rC_tk.same (s := U) (U := U.calling g mk a) rfl rfl h3, rM_tk.same (s := U) (U := U.calling g mk a) rfl rfl h4, rL_xt.moved (u := U) (U := U.calling g mk a) (Vm.Alike.refl U.vm) h5, va_X.moved (u := U) (U := U.calling g mk a) (Vm.Alike.refl U.vm) h6, h7⟩, h8⟩
theorem lk_preP (E : lk_E D cI cZ cO mi de z0 b L k xs cc nL ret p l s m args meth c) {H : Heap} {locs : List Loc} (hG : lk_G D cI cZ cO de z0 o k σ H) (hS : va_S (fun q => z0 ≤ q) s.heap H locs) : ∀ U : State, U.heap = H → s.WarmedH U.vm → lk_P D cI cZ cO mi de z0 o b L k xs σ U := fun U hU hW => by
  obtain ⟨h1, h2, h3, h4, h5, h6, h7⟩ := E.2.1
  have hb : s.heap.size > b := Nat.lt_of_lt_of_le E.2.2.1.2.1 h7
  have hX : va_X b L xs s H := h6.kept (hS.2.1 b hb (fun z => absurd E.2.2.1.2.1 (Nat.not_lt.mpr z)))
  exact ⟨⟨va_K.moved hW.alike h1, h2.warm hW, h3.warm hU hW hS (fun _ h => h), h4.warm hU hW hS (fun _ h => h), h5.moved hW.alike, by rw [hU]; exact va_X.moved hW.alike hX, by rw [hU]; exact Nat.le_trans h7 hS.1⟩, by rw [hU]; exact hG⟩
variable {y : MethodName} {by_ : ByteArray} {maxL n idx : Nat} {rt : Option FieldType} {rm : Room} {As rest : List Value} {hh : List (Nat × Nat × Nat × Nat)}
theorem lk_cs {v : Int32} (E : lk_E D cI cZ cO mi de z0 b L k xs cc nL ret p l s m args meth c) (hM : Met l y (rv_ws y by_ maxL rt) rm (va_Pc As (lk_P D cI cZ cO mi de z0 o b L k xs σ)) (lk_qi D cI cZ cO de z0 o k v σ') mc ms (fun q => z0 ≤ q)) (cg : GoodIn rv_AL (va_wsS RL idx y (rv_ws y by_ maxL rt))) (hd : y.cls ≠ "java/lang/invoke/MethodHandle" ∧ y.cls ≠ "java/lang/invoke/VarHandle" ∧ (parseMethodDescriptor y.desc).map (fun d => d.parameters.length) = some n) (hrm : rm.cells = mc ∧ rm.slots = ms) (hR : rm.frames + 1 ≤ R.frames ∧ 8 + (maxL + 11) + rm.locals ≤ R.locals) (hcs : cells + mc ≤ R.cells ∧ slots + ms ≤ R.slots) (hn : As.length = n) (hlv : lv.length = nL) (hst : st = As.reverse ++ rest) (hrs : (rest.map fun v => v.category).sum ≤ 8) (d : decode cc pc = .ok (.invokestatic idx, 3)) (hq : pc + 3 = q) (kk : rv_M (lk_G D cI cZ cO de z0 o k) (fun q => z0 ≤ q) p l e R s m args below meth c (cells + mc) (slots + ms) Q t q lv (.int v :: rest) σ') : rv_M (lk_G D cI cZ cO de z0 o k) (fun q => z0 ≤ q) p l e R s m args below meth c cells slots Q t pc lv st σ := by
  subst hq; subst hst
  intro res h H locs ls hG hS hl
  refine va_calli (va_runS (As := As) (rest := rest) E.1 hM (va_cwS n E.1.2.2.2.2 cg rfl hrm.1 hrm.2 hd hR) ⟨lk_P.bl, fun U hU hW => ⟨rfl, lk_preP E hG hS U hU hW⟩⟩ rfl hn (hl.1.trans hlv) rfl (by simpa using hrs) d hcs) hS (fun q _ h => h) (fun q h => h) (fun r u9 t H1 locs1 ht hvm hw hB hz1 hk1 hS1 => ?_)
  subst hw
  rw [ht] at hB
  exact kk res h H1 locs1 ls hB hS1 hl
theorem lk_cs0 {v : Int32} (E : lk_E D cI cZ cO mi de z0 b L k xs cc nL ret p l s m args meth c) (hM : Met l y (rv_ws y by_ maxL rt) rm (va_Pc As (lk_P D cI cZ cO mi de z0 o b L k xs σ)) (lk_qi D cI cZ cO de z0 o k v σ') 0 0 (fun q => z0 ≤ q)) (cg : GoodIn rv_AL (va_wsS RL idx y (rv_ws y by_ maxL rt))) (hd : y.cls ≠ "java/lang/invoke/MethodHandle" ∧ y.cls ≠ "java/lang/invoke/VarHandle" ∧ (parseMethodDescriptor y.desc).map (fun d => d.parameters.length) = some n) (hrm : rm.cells = 0 ∧ rm.slots = 0) (hR : rm.frames + 1 ≤ R.frames ∧ 8 + (maxL + 11) + rm.locals ≤ R.locals) (hcs : cells ≤ R.cells ∧ slots ≤ R.slots) (hn : As.length = n) (hlv : lv.length = nL) (hst : st = As.reverse ++ rest) (hrs : (rest.map fun v => v.category).sum ≤ 8) (d : decode cc pc = .ok (.invokestatic idx, 3)) (hq : pc + 3 = q) (kk : rv_M (lk_G D cI cZ cO de z0 o k) (fun q => z0 ≤ q) p l e R s m args below meth c cells slots Q t q lv (.int v :: rest) σ') : rv_M (lk_G D cI cZ cO de z0 o k) (fun q => z0 ≤ q) p l e R s m args below meth c cells slots Q t pc lv st σ := lk_cs E hM cg hd hrm hR hcs hn hlv hst hrs d hq kk
theorem lk_csl0 {v : Int64} (E : lk_E D cI cZ cO mi de z0 b L k xs cc nL ret p l s m args meth c) (hM : Met l y (rv_ws y by_ maxL rt) rm (va_Pc As (lk_P D cI cZ cO mi de z0 o b L k xs σ)) (lk_ql D cI cZ cO de z0 o k v σ') 0 0 (fun q => z0 ≤ q)) (cg : GoodIn rv_AL (va_wsS RL idx y (rv_ws y by_ maxL rt))) (hd : y.cls ≠ "java/lang/invoke/MethodHandle" ∧ y.cls ≠ "java/lang/invoke/VarHandle" ∧ (parseMethodDescriptor y.desc).map (fun d => d.parameters.length) = some n) (hrm : rm.cells = 0 ∧ rm.slots = 0) (hR : rm.frames + 1 ≤ R.frames ∧ 8 + (maxL + 11) + rm.locals ≤ R.locals) (hcs : cells ≤ R.cells ∧ slots ≤ R.slots) (hn : As.length = n) (hlv : lv.length = nL) (hst : st = As.reverse ++ rest) (hrs : (rest.map fun v => v.category).sum ≤ 8) (d : decode cc pc = .ok (.invokestatic idx, 3)) (hq : pc + 3 = q) (kk : rv_M (lk_G D cI cZ cO de z0 o k) (fun q => z0 ≤ q) p l e R s m args below meth c cells slots Q t q lv (.long v :: rest) σ') : rv_M (lk_G D cI cZ cO de z0 o k) (fun q => z0 ≤ q) p l e R s m args below meth c cells slots Q t pc lv st σ := by
  subst hq; subst hst
  intro res h H locs ls hG hS hl
  refine va_calll (va_runS (As := As) (rest := rest) E.1 hM (va_cwS n E.1.2.2.2.2 cg rfl hrm.1 hrm.2 hd hR) ⟨lk_P.bl, fun U hU hW => ⟨rfl, lk_preP E hG hS U hU hW⟩⟩ rfl hn (hl.1.trans hlv) rfl (by simpa using hrs) d hcs) hS (fun q _ h => h) (fun q h => h) (fun r u9 t H1 locs1 ht hvm hw hB hz1 hk1 hS1 => ?_)
  subst hw
  rw [ht] at hB
  exact kk res h H1 locs1 ls hB hS1 hl
theorem lk_csW {v : Int32} (E : lk_E D cI cZ cO mi de z0 b L k xs cc nL ret p l s m args meth c) (hM : Met l y (Cond.codeWith y by_ maxL rt hh :: rv_AL) rm (va_Pc As (lk_P D cI cZ cO mi de z0 o b L k xs σ)) (lk_qi D cI cZ cO de z0 o k v σ') mc ms (fun q => z0 ≤ q)) (cg : GoodIn rv_AL (va_wsS RL idx y (Cond.codeWith y by_ maxL rt hh :: rv_AL))) (hd : y.cls ≠ "java/lang/invoke/MethodHandle" ∧ y.cls ≠ "java/lang/invoke/VarHandle" ∧ (parseMethodDescriptor y.desc).map (fun d => d.parameters.length) = some n) (hrm : rm.cells = mc ∧ rm.slots = ms) (hR : rm.frames + 1 ≤ R.frames ∧ 8 + (maxL + 11) + rm.locals ≤ R.locals) (hcs : cells + mc ≤ R.cells ∧ slots + ms ≤ R.slots) (hn : As.length = n) (hlv : lv.length = nL) (hst : st = As.reverse ++ rest) (hrs : (rest.map fun v => v.category).sum ≤ 8) (d : decode cc pc = .ok (.invokestatic idx, 3)) (hq : pc + 3 = q) (kk : rv_M (lk_G D cI cZ cO de z0 o k) (fun q => z0 ≤ q) p l e R s m args below meth c (cells + mc) (slots + ms) Q t q lv (.int v :: rest) σ') : rv_M (lk_G D cI cZ cO de z0 o k) (fun q => z0 ≤ q) p l e R s m args below meth c cells slots Q t pc lv st σ := by
  subst hq; subst hst
  intro res h H locs ls hG hS hl
  refine va_calli (vx_runSW (As := As) (rest := rest) E.1 hM (vx_cwSW n E.1.2.2.2.2 cg rfl hrm.1 hrm.2 hd hR) ⟨lk_P.bl, fun U hU hW => ⟨rfl, lk_preP E hG hS U hU hW⟩⟩ rfl hn (hl.1.trans hlv) rfl (by simpa using hrs) d hcs) hS (fun q _ h => h) (fun q h => h) (fun r u9 t H1 locs1 ht hvm hw hB hz1 hk1 hS1 => ?_)
  subst hw
  rw [ht] at hB
  exact kk res h H1 locs1 ls hB hS1 hl
theorem lk_end (E : lk_E D cI cZ cO mi de z0 b L k xs cL_law 19 (some .boolean) p l s m args meth c) (HL : s.heap.size ≤ z0 ∧ args = #[Value.ref b]) (w : Bool) {r : rC_gh × rv_Mem × rv_Mem} (hm : cells ≤ 600064 ∧ slots ≤ 7301640) (d : decode cL_law pc = .ok (.ireturn, 1)) : rv_M (lk_G D cI cZ cO de z0 o k) (fun q => z0 ≤ q) p l e room_1 s m args below meth c cells slots (lk_qL below args s) (some (w, r)) pc lv [.int (rv_i w)] σ := by
  intro res h H locs ls hG hS hl
  cases h
  cases w with
  | false => exact fun T hT X => ⟨_, Steps.refl _, trivial⟩
  | true =>
    obtain ⟨hz, rfl⟩ := HL
    show W p l e room_1 s m #[Value.ref b] below meth c H locs cells slots (lw_Z below #[Value.ref b] s) (F0 m pc ls [.int 1])
    refine W.widen hm.1 hm.2 ?_
    refine va_forget (fun q hq => Nat.le_trans hz (hS.2.2 q hq)) ?_
    exact lw_ret E.1.1 E.1.2.1 E.2.2.2.1 E.2.2.2.2 d
end LK2
/-- a method of the law out of its walk -/
theorem lk_met {l : Launch} {y : MethodName} {cc : ByteArray} {maxL : Nat} {ret : Option FieldType} {rm : Room} {D : va_G} {cI cZ cO : ClassId} {mi de z0 o b L : Nat} {k : Nat → Nat} {xs : Nat → Int32} {σ : lk_mu} {vs : List Value} {Qc : Array Value → State → Outcome → State → Prop} {ρ : Type} {t : Option ρ} {r : ρ} {mc ms : Nat} (S : lk_S l de z0 b k) (hy : y.cls = RL) (hvn : (rv_lv vs).length ≤ maxL)
    (body : ∀ (p : Program) (e : Env) (s : State) (m : MethodId) (args : Array Value) (below : List Frame) (meth : Method) (c : Code), lk_E D cI cZ cO mi de z0 b L k xs cc maxL ret p l s m args meth c → ∃ Q : ρ → State → Prop, Q r = MQ below Qc args s mc ms (fun q => z0 ≤ q) ∧ rv_M (lk_G D cI cZ cO de z0 o k) (fun q => z0 ≤ q) p l e rm s m args below meth c 0 0 Q t 0 (rv_lv vs ++ List.replicate (maxL - (rv_lv vs).length) none) [] σ) (ht : t = some r) : Met l y (rv_ws y cc maxL ret) rm (va_Pc vs (lk_P D cI cZ cO mi de z0 o b L k xs σ)) Qc mc ms (fun q => z0 ≤ q) := by
  refine Met.ofW (cc := cc) (maxL := maxL) (ret := ret) (by rw [hy]; decide) rfl ?_
  intro p e s m args below meth c s₁ B hml hv
  obtain ⟨rfl, hU, hG⟩ := hv
  have hts := atoms_spec (ws := rv_ws y cc maxL ret) B.pre
  have hown : s.vm.findClass RL = some m.cls := by rw [← hy]; exact findClass_of_methodNamed B.named
  obtain ⟨Q, hQ, kq⟩ := body p e s m vs.toArray below meth c ⟨⟨B.exec, B.bytes, hml, hown, fun w hw => hts w (List.mem_cons_of_mem _ hw)⟩, hU, S, B.returns, B.notSynchronized⟩
  rw [← hQ, lg_entry_eq]
  exact kq r ht s.heap [] _ hG va_S.rf (rv_entryL vs hvn (lv_entry vs (n := maxL) (by rw [← rv_lv_len]; exact hvn)))
theorem lk_metW {l : Launch} {y : MethodName} {cc : ByteArray} {maxL : Nat} {ret : Option FieldType} {hh : List (Nat × Nat × Nat × Nat)} {rm : Room} {D : va_G} {cI cZ cO : ClassId} {mi de z0 o b L : Nat} {k : Nat → Nat} {xs : Nat → Int32} {σ : lk_mu} {vs : List Value} {Qc : Array Value → State → Outcome → State → Prop} {ρ : Type} {t : Option ρ} {r : ρ} {mc ms : Nat} (S : lk_S l de z0 b k) (hy : y.cls = RL) (hvn : (rv_lv vs).length ≤ maxL)
    (body : ∀ (p : Program) (e : Env) (s : State) (m : MethodId) (args : Array Value) (below : List Frame) (meth : Method) (c : Code), lk_E D cI cZ cO mi de z0 b L k xs cc maxL ret p l s m args meth c → c.exceptionTable.toList = tableOf hh → ∃ Q : ρ → State → Prop, Q r = MQ below Qc args s mc ms (fun q => z0 ≤ q) ∧ rv_M (lk_G D cI cZ cO de z0 o k) (fun q => z0 ≤ q) p l e rm s m args below meth c 0 0 Q t 0 (rv_lv vs ++ List.replicate (maxL - (rv_lv vs).length) none) [] σ) (ht : t = some r) : Met l y (Cond.codeWith y cc maxL ret hh :: rv_AL) rm (va_Pc vs (lk_P D cI cZ cO mi de z0 o b L k xs σ)) Qc mc ms (fun q => z0 ≤ q) := by
  refine MetFree.of_bodyS (code := cc) (maxLocals := maxL) (ret := ret) (by rw [hy]; decide) ?_ ?_
  · intro args s m h hn
    obtain ⟨m9, meth, c, hn9, h1, h2, h3, h4, -, h5, h6, -⟩ := Cond.codeWith_spec (atoms_spec (ws := Cond.codeWith y cc maxL ret hh :: rv_AL) h _ List.mem_cons_self)
    cases hn.symm.trans hn9
    exact ⟨meth, c, h1, h2, h3, h4, h5, h6⟩
  · intro p e s m args below meth c s₁ B hml hv _
    obtain ⟨rfl, hU, hG⟩ := hv
    have hh0 : s₁.heap = s.heap := by rw [B.state]; rfl
    have hts := atoms_spec (ws := Cond.codeWith y cc maxL ret hh :: rv_AL) B.pre
    have hown : s.vm.findClass RL = some m.cls := by rw [← hy]; exact findClass_of_methodNamed B.named
    have htb := vx_table (x := y) B (hts _ List.mem_cons_self)
    obtain ⟨Q, hQ, kq⟩ := body p e s m vs.toArray below meth c ⟨⟨B.exec, B.bytes, hml, hown, fun w hw => hts w (List.mem_cons_of_mem _ hw)⟩, hU, S, B.returns, B.notSynchronized⟩ htb
    have K : W p l e rm s m vs.toArray below meth c s.heap [] 0 0 (MQ below Qc vs.toArray s mc ms (fun q => z0 ≤ q)) (entryFrame m vs.toArray maxL) := by
      rw [← hQ, lg_entry_eq]
      exact kq r ht s.heap [] _ hG va_S.rf (rv_entryL vs hvn (lv_entry vs (n := maxL) (by rw [← rv_lv_len]; exact hvn)))
    obtain ⟨t, a1, o, b1, b2, b3⟩ := K s₁ hh0 (Stand.of_body B)
    exact ⟨t, o, a1, b1, b2, ⟨b3.1, b3.2⟩⟩
