/-! CALLS OF METHODS THAT MAY THROW; lists -/
section RX2
variable {p : Program} {l : Launch} {e : Env} {R : Room} {s : State} {m : MethodId} {args : Array Value} {below : List Frame} {meth : Method} {c : Code} {cells slots mc ms : Nat}
variable {ρ : Type} {D : va_G} {cI cZ cO : ClassId} {ad : Nat → Nat} {gh : rC_gh} {de : Nat} {A : Nat → Prop} {own : String} {Q : ρ → State → Prop}
variable {cc : ByteArray} {nL pc q : Nat} {ret : Option FieldType} {lv lv' : List (Option Value)} {st : List Value} {M M' : rv_Mem} {t : Option ρ}
theorem rv_x1r {α σ : Type} {G : rv_Mem → Heap → Prop} {Q : (σ ⊕ Nat) → State → Prop} {f : Option (α ⊕ Nat)} {k : α → Option (σ ⊕ Nat)} (k1 : ∀ a, f = some (.inl a) → rv_M G A p l e R s m args below meth c cells slots Q (k a) pc lv st M) (k2 : ∀ x, f = some (.inr x) → rv_M G A p l e R s m args below meth c cells slots Q (some (.inr x)) pc lv st M) : rv_M G A p l e R s m args below meth c cells slots Q (rv_x1 f k) pc lv st M := by
  match f, k1, k2 with
  | none, _, _ => exact rv_stuck
  | some (.inl a), k1, _ => exact k1 a rfl
  | some (.inr x), _, k2 => exact k2 x rfl
theorem rv_x2r {α σ : Type} {G : rv_Mem → Heap → Prop} {Q : (σ ⊕ (Nat × rv_Mem)) → State → Prop} {f : Option (α ⊕ Nat)} {k : α → Option (σ ⊕ (Nat × rv_Mem))} (k1 : ∀ a, f = some (.inl a) → rv_M G A p l e R s m args below meth c cells slots Q (k a) pc lv st M) (k2 : ∀ x, f = some (.inr x) → rv_M G A p l e R s m args below meth c cells slots Q (some (.inr (x, M))) pc lv st M) : rv_M G A p l e R s m args below meth c cells slots Q (rv_x2 f M k) pc lv st M := by
  match f, k1, k2 with
  | none, _, _ => exact rv_stuck
  | some (.inl a), k1, _ => exact k1 a rfl
  | some (.inr x), _, k2 => exact k2 x rfl
theorem rv_x3r {α σ : Type} {G : rv_Mem → Heap → Prop} {Q : (σ ⊕ (Nat × rv_Mem)) → State → Prop} {f : Option ((α × rv_Mem) ⊕ (Nat × rv_Mem))} {k : α → rv_Mem → Option (σ ⊕ (Nat × rv_Mem))} (k1 : ∀ a M1, f = some (.inl (a, M1)) → rv_M G A p l e R s m args below meth c cells slots Q (k a M1) pc lv st M) (k2 : ∀ x M1, f = some (.inr (x, M1)) → rv_M G A p l e R s m args below meth c cells slots Q (some (.inr (x, M1))) pc lv st M) : rv_M G A p l e R s m args below meth c cells slots Q (rv_x3 f k) pc lv st M := by
  match f, k1, k2 with
  | none, _, _ => exact rv_stuck
  | some (.inl (a, M1)), k1, _ => exact k1 a M1 rfl
  | some (.inr (x, M1)), _, k2 => exact k2 x M1 rfl
theorem rC_pblind {sz : Nat} {av : List Value} : FrameBlind (rC_Px D cI cZ cO ad gh de sz av M) := fun a U g mk hq => ⟨hq.1, hq.2.1, hq.2.2.1, va_K.moved (u := U) (U := U.calling g mk a) (Vm.Alike.refl U.vm) hq.2.2.2.1, hq.2.2.2.2.1.same rfl, rC_tk.same (s := U) (U := U.calling g mk a) rfl rfl hq.2.2.2.2.2⟩
theorem rC_ppre (E : rC_X D cI cZ cO ad gh own cc nL ret p l s m args meth c) {H : Heap} {locs : List Loc} {av : List Value} (hG : rC_G D cI cZ cO ad gh de M H) (hS : va_S (rC_A ad gh s.heap.size) s.heap H locs) : ∀ U : State, U.heap = H → s.WarmedH U.vm → rC_Px D cI cZ cO ad gh de H.size av M av.toArray U := fun U hU hW => ⟨rfl, by rw [hU], by rw [hU]; exact hG, va_K.moved hW.alike E.1.2.1, E.1.2.2.2.2.2.2.warm hW, E.2.2.2.warm hU hW hS (rC_AX hS.1)⟩
theorem rC_aa {H : Heap} {n : Nat} : ∀ q : Nat, q < H.size → rC_A ad gh H.size q → rC_A ad gh n q := fun q hq h => h.elim Or.inl (fun z => absurd hq (Nat.not_lt.mpr z))
theorem vx_callr9 {S SX : Type} {mc ms : Nat} {A0 A1 AX free : Nat → Prop} {H H0 : Heap} {locs : List Loc} {a : Array Value} {ls : Array Slot} {st0 rest : List Value} {Q : State → Prop} {post : S → Prop} {px : SX → Prop} {B : S → Nat → State → Prop} {BX : String → SX → State → Prop} (hr : vx_Run p l e R s m args below meth c H locs cells slots mc ms (F0 m pc ls st0) rest (va_Qr post B A1 a) (vx_X px BX AX) free) (hS : va_S A0 H0 H locs) (hA : ∀ q, q < H.size → A1 q → A0 q) (hf : ∀ q, free q → A0 q) (hAX : ∀ q, q < H.size → AX q → A0 q)
    (kx : ∀ (E : String) (ce : Cell) (q9 : Addr) (u : SX) (t : State) (H1 : Heap) (locs1 : List Loc), t.heap = H1 → s.vm.Alike t.vm → px u → BX E u t → H.size ≤ H1.size → (∀ q : Nat, q < H.size → ¬ AX q → H1[q]? = H[q]?) → va_S A0 H0 H1 locs1 → H1[q9]? = some ce → ce.vm = .none → s.vm.findClass E = some ce.cls → vx_W p l e R s m args below meth c H1 locs1 (cells + mc) (slots + ms) Q (F0 m pc ls rest) q9)
    (kk : ∀ (u : S) (ra : Nat) (t : State) (H1 : Heap) (locs1 : List Loc), t.heap = H1 → s.vm.Alike t.vm → post u → B u ra t → H.size ≤ H1.size → (∀ q : Nat, q < H.size → ¬ A1 q → H1[q]? = H[q]?) → va_S A0 H0 H1 locs1 → W p l e R s m args below meth c H1 locs1 (cells + mc) (slots + ms) Q (F0 m (pc + 3) ls (.ref ra :: rest))) : W p l e R s m args below meth c H locs cells slots Q (F0 m pc ls st0) := by
  intro T hT X
  rcases hr T hT X with ⟨v, st₀, t, T', L, h0, X', hL, e1, e2, ⟨⟨u, ra, hv, hp, hb⟩, hF⟩, st⟩ | ⟨q, st₀, t, T', L, E, ce, h0, X', hL, e1, e2, ⟨u, hp, hb, hF⟩, hce, hcv, hcl, st⟩
  · cases hv
    obtain ⟨k1, k2, k3⟩ := vx_keep h0 e1 hS hA hf hL hF
    obtain ⟨t2, a1, b1⟩ := kk u ra t T'.heap (locs ++ L) e1.symm (by rw [← e2]; exact X'.warmed.alike) hp hb k1 k2 k3 T' rfl X'
    exact ⟨t2, st t2 a1, b1⟩
  · obtain ⟨k1, k2, k3⟩ := vx_keep h0 e1 hS hAX hf hL hF
    obtain ⟨t2, a1, b1⟩ := kx E ce q u t T'.heap (locs ++ L) e1.symm (by rw [← e2]; exact X'.warmed.alike) hp hb k1 k2 k3 (by rw [e1]; exact hce) hcv hcl T' rfl X'
    exact ⟨t2, st.trans a1, b1⟩
variable {y : MethodName} {by_ : ByteArray} {maxL n idx : Nat} {rt : Option FieldType} {rm : Room} {As rest : List Value} {mk9 mn9 : Nat}
theorem rC_xVi (E : rC_X D cI cZ cO ad gh own cc nL ret p l s m args meth c) {ci N b : Nat} {C : String} {T : u_T} (hcl : vwCl[ci]? = some (C, T, N)) (hk : rC_at gh b ci) {v : Int32} (hM : ∀ sz, vx_Met l y (rv_ws y by_ maxL rt) rm (rC_Px D cI cZ cO ad gh de sz (.ref (ad b) :: As) M) (rC_qi D cI cZ cO ad gh de (rC_A ad gh sz) v M') (rC_fx (rC_A ad gh sz)) mk9 mn9 (rC_A ad gh sz)) (cg : GoodIn rv_AL (wsV own idx C y (rv_ws y by_ maxL rt))) (hd : y.cls = C ∧ y.cls ≠ "java/lang/invoke/MethodHandle" ∧ y.cls ≠ "java/lang/invoke/VarHandle" ∧ (parseMethodDescriptor y.desc).map (fun d => d.parameters.length) = some n) (hrm : rm.cells = mk9 ∧ rm.slots = mn9) (hR : rm.frames + 1 ≤ R.frames ∧ 8 + (maxL + 11) + rm.locals ≤ R.locals) (hcs : cells + mk9 ≤ R.cells ∧ slots + mn9 ≤ R.slots) (hn : As.length = n) (hlv : lv.length = nL) (hst : st = As.reverse ++ .ref (ad b) :: rest) (hrs : (rest.map fun v => v.category).sum ≤ 8) (d : decode cc pc = .ok (.invokevirtual idx, 3)) (hq : pc + 3 = q) (kk : rv_M (rC_G D cI cZ cO ad gh de) (rC_A ad gh s.heap.size) p l e R s m args below meth c (cells + mk9) (slots + mn9) Q t q lv (.int v :: rest) M') : rv_M (rC_G D cI cZ cO ad gh de) (rC_A ad gh s.heap.size) p l e R s m args below meth c cells slots Q t pc lv st M := by
  subst hq; subst hst
  intro res h H locs ls hG hS hl
  refine vx_calli (vx_runV (C := C) (b := ad b) (As := As) (rest := rest) E.1.1 (hM H.size) (cwV n E.1.hts cg rfl hrm.1 hrm.2 hd hR) ⟨rC_pblind, rC_recv E.1 hcl hk hG, rC_ppre E hG hS⟩ rfl hn (hl.1.trans hlv) rfl (by simpa using hrs) d hcs) hS rC_aa (rC_AX hS.1) rC_aa (fun _ _ _ _ _ _ _ _ _ hp => hp.elim) (fun r u t H1 locs1 ht hvm hw hB hz1 hk1 hS1 => ?_)
  obtain ⟨rfl, rfl⟩ := hw
  rw [ht] at hB
  exact kk res h H1 locs1 ls hB hS1 hl
theorem rC_yVi (E : rC_X D cI cZ cO ad gh own cc nL ret p l s m args meth c) {ci N b : Nat} {C : String} {T : u_T} (hcl : vwCl[ci]? = some (C, T, N)) (hk : rC_at gh b ci) {x : Nat} {r : ρ} {Qf : Array Value → State → Outcome → State → Prop} (hM : ∀ sz, vx_Met l y (rv_ws y by_ maxL rt) rm (rC_Px D cI cZ cO ad gh de sz (.ref (ad b) :: As) M) (rC_fi (rC_A ad gh sz)) (rC_xc D cI cZ cO ad gh de (rC_A ad gh sz) x M') mk9 mn9 (rC_A ad gh sz)) (hQ : Q r = vx_MQ below Qf (rC_xc D cI cZ cO ad gh de (rC_A ad gh s.heap.size) x M') args s mc ms (rC_A ad gh s.heap.size)) (cg : GoodIn rv_AL (wsV own idx C y (rv_ws y by_ maxL rt))) (hd : y.cls = C ∧ y.cls ≠ "java/lang/invoke/MethodHandle" ∧ y.cls ≠ "java/lang/invoke/VarHandle" ∧ (parseMethodDescriptor y.desc).map (fun d => d.parameters.length) = some n) (hrm : rm.cells = mk9 ∧ rm.slots = mn9) (hR : rm.frames + 1 ≤ R.frames ∧ 8 + (maxL + 11) + rm.locals ≤ R.locals) (hcs : cells + mk9 ≤ R.cells ∧ slots + mn9 ≤ R.slots) (hn : As.length = n) (hlv : lv.length = nL) (hst : st = As.reverse ++ .ref (ad b) :: rest) (hrs : (rest.map fun v => v.category).sum ≤ 8) (d : decode cc pc = .ok (.invokevirtual idx, 3)) (hm : cells + mk9 ≤ mc ∧ slots + mn9 ≤ ms) : rv_M (rC_G D cI cZ cO ad gh de) (rC_A ad gh s.heap.size) p l e R s m args below meth c cells slots Q (some r) pc lv st M := by
  subst hst
  intro res h H locs ls hG hS hl
  cases h
  rw [hQ]
  refine vx_calli (vx_runV (C := C) (b := ad b) (As := As) (rest := rest) E.1.1 (hM H.size) (cwV n E.1.hts cg rfl hrm.1 hrm.2 hd hR) ⟨rC_pblind, rC_recv E.1 hcl hk hG, rC_ppre E hG hS⟩ rfl hn (hl.1.trans hlv) rfl (by simpa using hrs) d hcs) hS rC_aa (rC_AX hS.1) rC_aa (fun E9 ce q9 u t H1 locs1 ht hvm hw hB hz1 hk1 hS1 hce hcv hcl9 => ?_) (fun _ _ _ _ _ _ _ hp => hp.elim)
  obtain ⟨rfl, hB⟩ := hB
  rw [ht] at hB
  exact vx_out (fun x hx => (E.2.2.1 x hx).elim) E.1.2.2.2.2.2.1 hce hcv hcl9 (fun t2 ht2 ha2 => ⟨(), trivial, ⟨rfl, by rw [ht2]; exact hB⟩, hS1.F ht2⟩) hS1.2.2 hm.1 hm.2
theorem rC_xSi (E : rC_X D cI cZ cO ad gh own cc nL ret p l s m args meth c) {v : Int32} (hM : ∀ sz, vx_Met l y (rv_ws y by_ maxL rt) rm (rC_Px D cI cZ cO ad gh de sz As M) (rC_qi D cI cZ cO ad gh de (rC_A ad gh sz) v M') (rC_fx (rC_A ad gh sz)) mk9 mn9 (rC_A ad gh sz)) (cg : GoodIn rv_AL (va_wsS own idx y (rv_ws y by_ maxL rt))) (hd : y.cls ≠ "java/lang/invoke/MethodHandle" ∧ y.cls ≠ "java/lang/invoke/VarHandle" ∧ (parseMethodDescriptor y.desc).map (fun d => d.parameters.length) = some n) (hrm : rm.cells = mk9 ∧ rm.slots = mn9) (hR : rm.frames + 1 ≤ R.frames ∧ 8 + (maxL + 11) + rm.locals ≤ R.locals) (hcs : cells + mk9 ≤ R.cells ∧ slots + mn9 ≤ R.slots) (hn : As.length = n) (hlv : lv.length = nL) (hst : st = As.reverse ++ rest) (hrs : (rest.map fun v => v.category).sum ≤ 8) (d : decode cc pc = .ok (.invokestatic idx, 3)) (hq : pc + 3 = q) (kk : rv_M (rC_G D cI cZ cO ad gh de) (rC_A ad gh s.heap.size) p l e R s m args below meth c (cells + mk9) (slots + mn9) Q t q lv (.int v :: rest) M') : rv_M (rC_G D cI cZ cO ad gh de) (rC_A ad gh s.heap.size) p l e R s m args below meth c cells slots Q t pc lv st M := by
  subst hq; subst hst
  intro res h H locs ls hG hS hl
  refine vx_calli (vx_runS (As := As) (rest := rest) E.1.1 (hM H.size) (va_cwS n E.1.hts cg rfl hrm.1 hrm.2 hd hR) ⟨rC_pblind, rC_ppre E hG hS⟩ rfl hn (hl.1.trans hlv) rfl (by simpa using hrs) d hcs) hS rC_aa (rC_AX hS.1) rC_aa (fun _ _ _ _ _ _ _ _ _ hp => hp.elim) (fun r u t H1 locs1 ht hvm hw hB hz1 hk1 hS1 => ?_)
  obtain ⟨rfl, rfl⟩ := hw
  rw [ht] at hB
  exact kk res h H1 locs1 ls hB hS1 hl
theorem rC_ySi (E : rC_X D cI cZ cO ad gh own cc nL ret p l s m args meth c) {x : Nat} {r : ρ} {Qf : Array Value → State → Outcome → State → Prop} (hM : ∀ sz, vx_Met l y (rv_ws y by_ maxL rt) rm (rC_Px D cI cZ cO ad gh de sz As M) (rC_fi (rC_A ad gh sz)) (rC_xc D cI cZ cO ad gh de (rC_A ad gh sz) x M') mk9 mn9 (rC_A ad gh sz)) (hQ : Q r = vx_MQ below Qf (rC_xc D cI cZ cO ad gh de (rC_A ad gh s.heap.size) x M') args s mc ms (rC_A ad gh s.heap.size)) (cg : GoodIn rv_AL (va_wsS own idx y (rv_ws y by_ maxL rt))) (hd : y.cls ≠ "java/lang/invoke/MethodHandle" ∧ y.cls ≠ "java/lang/invoke/VarHandle" ∧ (parseMethodDescriptor y.desc).map (fun d => d.parameters.length) = some n) (hrm : rm.cells = mk9 ∧ rm.slots = mn9) (hR : rm.frames + 1 ≤ R.frames ∧ 8 + (maxL + 11) + rm.locals ≤ R.locals) (hcs : cells + mk9 ≤ R.cells ∧ slots + mn9 ≤ R.slots) (hn : As.length = n) (hlv : lv.length = nL) (hst : st = As.reverse ++ rest) (hrs : (rest.map fun v => v.category).sum ≤ 8) (d : decode cc pc = .ok (.invokestatic idx, 3)) (hm : cells + mk9 ≤ mc ∧ slots + mn9 ≤ ms) : rv_M (rC_G D cI cZ cO ad gh de) (rC_A ad gh s.heap.size) p l e R s m args below meth c cells slots Q (some r) pc lv st M := by
  subst hst
  intro res h H locs ls hG hS hl
  cases h
  rw [hQ]
  refine vx_calli (vx_runS (As := As) (rest := rest) E.1.1 (hM H.size) (va_cwS n E.1.hts cg rfl hrm.1 hrm.2 hd hR) ⟨rC_pblind, rC_ppre E hG hS⟩ rfl hn (hl.1.trans hlv) rfl (by simpa using hrs) d hcs) hS rC_aa (rC_AX hS.1) rC_aa (fun E9 ce q9 u t H1 locs1 ht hvm hw hB hz1 hk1 hS1 hce hcv hcl9 => ?_) (fun _ _ _ _ _ _ _ hp => hp.elim)
  obtain ⟨rfl, hB⟩ := hB
  rw [ht] at hB
  exact vx_out (fun x hx => (E.2.2.1 x hx).elim) E.1.2.2.2.2.2.1 hce hcv hcl9 (fun t2 ht2 ha2 => ⟨(), trivial, ⟨rfl, by rw [ht2]; exact hB⟩, hS1.F ht2⟩) hS1.2.2 hm.1 hm.2
theorem rC_xVl (E : rC_X D cI cZ cO ad gh own cc nL ret p l s m args meth c) {ci N b : Nat} {C : String} {T : u_T} (hcl : vwCl[ci]? = some (C, T, N)) (hk : rC_at gh b ci) {v : Int64} (hM : ∀ sz, vx_Met l y (rv_ws y by_ maxL rt) rm (rC_Px D cI cZ cO ad gh de sz (.ref (ad b) :: As) M) (rC_ql D cI cZ cO ad gh de (rC_A ad gh sz) v M') (rC_fx (rC_A ad gh sz)) mk9 mn9 (rC_A ad gh sz)) (cg : GoodIn rv_AL (wsV own idx C y (rv_ws y by_ maxL rt))) (hd : y.cls = C ∧ y.cls ≠ "java/lang/invoke/MethodHandle" ∧ y.cls ≠ "java/lang/invoke/VarHandle" ∧ (parseMethodDescriptor y.desc).map (fun d => d.parameters.length) = some n) (hrm : rm.cells = mk9 ∧ rm.slots = mn9) (hR : rm.frames + 1 ≤ R.frames ∧ 8 + (maxL + 11) + rm.locals ≤ R.locals) (hcs : cells + mk9 ≤ R.cells ∧ slots + mn9 ≤ R.slots) (hn : As.length = n) (hlv : lv.length = nL) (hst : st = As.reverse ++ .ref (ad b) :: rest) (hrs : (rest.map fun v => v.category).sum ≤ 8) (d : decode cc pc = .ok (.invokevirtual idx, 3)) (hq : pc + 3 = q) (kk : rv_M (rC_G D cI cZ cO ad gh de) (rC_A ad gh s.heap.size) p l e R s m args below meth c (cells + mk9) (slots + mn9) Q t q lv (.long v :: rest) M') : rv_M (rC_G D cI cZ cO ad gh de) (rC_A ad gh s.heap.size) p l e R s m args below meth c cells slots Q t pc lv st M := by
  subst hq; subst hst
  intro res h H locs ls hG hS hl
  refine vx_calll (vx_runV (C := C) (b := ad b) (As := As) (rest := rest) E.1.1 (hM H.size) (cwV n E.1.hts cg rfl hrm.1 hrm.2 hd hR) ⟨rC_pblind, rC_recv E.1 hcl hk hG, rC_ppre E hG hS⟩ rfl hn (hl.1.trans hlv) rfl (by simpa using hrs) d hcs) hS rC_aa (rC_AX hS.1) rC_aa (fun _ _ _ _ _ _ _ _ _ hp => hp.elim) (fun r u t H1 locs1 ht hvm hw hB hz1 hk1 hS1 => ?_)
  obtain ⟨rfl, rfl⟩ := hw
  rw [ht] at hB
  exact kk res h H1 locs1 ls hB hS1 hl
theorem rC_yVl (E : rC_X D cI cZ cO ad gh own cc nL ret p l s m args meth c) {ci N b : Nat} {C : String} {T : u_T} (hcl : vwCl[ci]? = some (C, T, N)) (hk : rC_at gh b ci) {x : Nat} {r : ρ} {Qf : Array Value → State → Outcome → State → Prop} (hM : ∀ sz, vx_Met l y (rv_ws y by_ maxL rt) rm (rC_Px D cI cZ cO ad gh de sz (.ref (ad b) :: As) M) (rC_fl_ (rC_A ad gh sz)) (rC_xc D cI cZ cO ad gh de (rC_A ad gh sz) x M') mk9 mn9 (rC_A ad gh sz)) (hQ : Q r = vx_MQ below Qf (rC_xc D cI cZ cO ad gh de (rC_A ad gh s.heap.size) x M') args s mc ms (rC_A ad gh s.heap.size)) (cg : GoodIn rv_AL (wsV own idx C y (rv_ws y by_ maxL rt))) (hd : y.cls = C ∧ y.cls ≠ "java/lang/invoke/MethodHandle" ∧ y.cls ≠ "java/lang/invoke/VarHandle" ∧ (parseMethodDescriptor y.desc).map (fun d => d.parameters.length) = some n) (hrm : rm.cells = mk9 ∧ rm.slots = mn9) (hR : rm.frames + 1 ≤ R.frames ∧ 8 + (maxL + 11) + rm.locals ≤ R.locals) (hcs : cells + mk9 ≤ R.cells ∧ slots + mn9 ≤ R.slots) (hn : As.length = n) (hlv : lv.length = nL) (hst : st = As.reverse ++ .ref (ad b) :: rest) (hrs : (rest.map fun v => v.category).sum ≤ 8) (d : decode cc pc = .ok (.invokevirtual idx, 3)) (hm : cells + mk9 ≤ mc ∧ slots + mn9 ≤ ms) : rv_M (rC_G D cI cZ cO ad gh de) (rC_A ad gh s.heap.size) p l e R s m args below meth c cells slots Q (some r) pc lv st M := by
  subst hst
  intro res h H locs ls hG hS hl
  cases h
  rw [hQ]
  refine vx_calll (vx_runV (C := C) (b := ad b) (As := As) (rest := rest) E.1.1 (hM H.size) (cwV n E.1.hts cg rfl hrm.1 hrm.2 hd hR) ⟨rC_pblind, rC_recv E.1 hcl hk hG, rC_ppre E hG hS⟩ rfl hn (hl.1.trans hlv) rfl (by simpa using hrs) d hcs) hS rC_aa (rC_AX hS.1) rC_aa (fun E9 ce q9 u t H1 locs1 ht hvm hw hB hz1 hk1 hS1 hce hcv hcl9 => ?_) (fun _ _ _ _ _ _ _ hp => hp.elim)
  obtain ⟨rfl, hB⟩ := hB
  rw [ht] at hB
  exact vx_out (fun x hx => (E.2.2.1 x hx).elim) E.1.2.2.2.2.2.1 hce hcv hcl9 (fun t2 ht2 ha2 => ⟨(), trivial, ⟨rfl, by rw [ht2]; exact hB⟩, hS1.F ht2⟩) hS1.2.2 hm.1 hm.2
theorem rC_xSl (E : rC_X D cI cZ cO ad gh own cc nL ret p l s m args meth c) {v : Int64} (hM : ∀ sz, vx_Met l y (rv_ws y by_ maxL rt) rm (rC_Px D cI cZ cO ad gh de sz As M) (rC_ql D cI cZ cO ad gh de (rC_A ad gh sz) v M') (rC_fx (rC_A ad gh sz)) mk9 mn9 (rC_A ad gh sz)) (cg : GoodIn rv_AL (va_wsS own idx y (rv_ws y by_ maxL rt))) (hd : y.cls ≠ "java/lang/invoke/MethodHandle" ∧ y.cls ≠ "java/lang/invoke/VarHandle" ∧ (parseMethodDescriptor y.desc).map (fun d => d.parameters.length) = some n) (hrm : rm.cells = mk9 ∧ rm.slots = mn9) (hR : rm.frames + 1 ≤ R.frames ∧ 8 + (maxL + 11) + rm.locals ≤ R.locals) (hcs : cells + mk9 ≤ R.cells ∧ slots + mn9 ≤ R.slots) (hn : As.length = n) (hlv : lv.length = nL) (hst : st = As.reverse ++ rest) (hrs : (rest.map fun v => v.category).sum ≤ 8) (d : decode cc pc = .ok (.invokestatic idx, 3)) (hq : pc + 3 = q) (kk : rv_M (rC_G D cI cZ cO ad gh de) (rC_A ad gh s.heap.size) p l e R s m args below meth c (cells + mk9) (slots + mn9) Q t q lv (.long v :: rest) M') : rv_M (rC_G D cI cZ cO ad gh de) (rC_A ad gh s.heap.size) p l e R s m args below meth c cells slots Q t pc lv st M := by
  subst hq; subst hst
  intro res h H locs ls hG hS hl
  refine vx_calll (vx_runS (As := As) (rest := rest) E.1.1 (hM H.size) (va_cwS n E.1.hts cg rfl hrm.1 hrm.2 hd hR) ⟨rC_pblind, rC_ppre E hG hS⟩ rfl hn (hl.1.trans hlv) rfl (by simpa using hrs) d hcs) hS rC_aa (rC_AX hS.1) rC_aa (fun _ _ _ _ _ _ _ _ _ hp => hp.elim) (fun r u t H1 locs1 ht hvm hw hB hz1 hk1 hS1 => ?_)
  obtain ⟨rfl, rfl⟩ := hw
  rw [ht] at hB
  exact kk res h H1 locs1 ls hB hS1 hl
theorem rC_ySl (E : rC_X D cI cZ cO ad gh own cc nL ret p l s m args meth c) {x : Nat} {r : ρ} {Qf : Array Value → State → Outcome → State → Prop} (hM : ∀ sz, vx_Met l y (rv_ws y by_ maxL rt) rm (rC_Px D cI cZ cO ad gh de sz As M) (rC_fl_ (rC_A ad gh sz)) (rC_xc D cI cZ cO ad gh de (rC_A ad gh sz) x M') mk9 mn9 (rC_A ad gh sz)) (hQ : Q r = vx_MQ below Qf (rC_xc D cI cZ cO ad gh de (rC_A ad gh s.heap.size) x M') args s mc ms (rC_A ad gh s.heap.size)) (cg : GoodIn rv_AL (va_wsS own idx y (rv_ws y by_ maxL rt))) (hd : y.cls ≠ "java/lang/invoke/MethodHandle" ∧ y.cls ≠ "java/lang/invoke/VarHandle" ∧ (parseMethodDescriptor y.desc).map (fun d => d.parameters.length) = some n) (hrm : rm.cells = mk9 ∧ rm.slots = mn9) (hR : rm.frames + 1 ≤ R.frames ∧ 8 + (maxL + 11) + rm.locals ≤ R.locals) (hcs : cells + mk9 ≤ R.cells ∧ slots + mn9 ≤ R.slots) (hn : As.length = n) (hlv : lv.length = nL) (hst : st = As.reverse ++ rest) (hrs : (rest.map fun v => v.category).sum ≤ 8) (d : decode cc pc = .ok (.invokestatic idx, 3)) (hm : cells + mk9 ≤ mc ∧ slots + mn9 ≤ ms) : rv_M (rC_G D cI cZ cO ad gh de) (rC_A ad gh s.heap.size) p l e R s m args below meth c cells slots Q (some r) pc lv st M := by
  subst hst
  intro res h H locs ls hG hS hl
  cases h
  rw [hQ]
  refine vx_calll (vx_runS (As := As) (rest := rest) E.1.1 (hM H.size) (va_cwS n E.1.hts cg rfl hrm.1 hrm.2 hd hR) ⟨rC_pblind, rC_ppre E hG hS⟩ rfl hn (hl.1.trans hlv) rfl (by simpa using hrs) d hcs) hS rC_aa (rC_AX hS.1) rC_aa (fun E9 ce q9 u t H1 locs1 ht hvm hw hB hz1 hk1 hS1 hce hcv hcl9 => ?_) (fun _ _ _ _ _ _ _ hp => hp.elim)
  obtain ⟨rfl, hB⟩ := hB
  rw [ht] at hB
  exact vx_out (fun x hx => (E.2.2.1 x hx).elim) E.1.2.2.2.2.2.1 hce hcv hcl9 (fun t2 ht2 ha2 => ⟨(), trivial, ⟨rfl, by rw [ht2]; exact hB⟩, hS1.F ht2⟩) hS1.2.2 hm.1 hm.2
theorem rC_xVv (E : rC_X D cI cZ cO ad gh own cc nL ret p l s m args meth c) {ci N b : Nat} {C : String} {T : u_T} (hcl : vwCl[ci]? = some (C, T, N)) (hk : rC_at gh b ci) (hM : ∀ sz, vx_Met l y (rv_ws y by_ maxL rt) rm (rC_Px D cI cZ cO ad gh de sz (.ref (ad b) :: As) M) (rC_qv D cI cZ cO ad gh de (rC_A ad gh sz) M') (rC_fx (rC_A ad gh sz)) mk9 mn9 (rC_A ad gh sz)) (cg : GoodIn rv_AL (wsV own idx C y (rv_ws y by_ maxL rt))) (hd : y.cls = C ∧ y.cls ≠ "java/lang/invoke/MethodHandle" ∧ y.cls ≠ "java/lang/invoke/VarHandle" ∧ (parseMethodDescriptor y.desc).map (fun d => d.parameters.length) = some n) (hrm : rm.cells = mk9 ∧ rm.slots = mn9) (hR : rm.frames + 1 ≤ R.frames ∧ 8 + (maxL + 11) + rm.locals ≤ R.locals) (hcs : cells + mk9 ≤ R.cells ∧ slots + mn9 ≤ R.slots) (hn : As.length = n) (hlv : lv.length = nL) (hst : st = As.reverse ++ .ref (ad b) :: rest) (hrs : (rest.map fun v => v.category).sum ≤ 8) (d : decode cc pc = .ok (.invokevirtual idx, 3)) (hq : pc + 3 = q) (kk : rv_M (rC_G D cI cZ cO ad gh de) (rC_A ad gh s.heap.size) p l e R s m args below meth c (cells + mk9) (slots + mn9) Q t q lv (rest) M') : rv_M (rC_G D cI cZ cO ad gh de) (rC_A ad gh s.heap.size) p l e R s m args below meth c cells slots Q t pc lv st M := by
  subst hq; subst hst
  intro res h H locs ls hG hS hl
  refine vx_callv (vx_runV (C := C) (b := ad b) (As := As) (rest := rest) E.1.1 (hM H.size) (cwV n E.1.hts cg rfl hrm.1 hrm.2 hd hR) ⟨rC_pblind, rC_recv E.1 hcl hk hG, rC_ppre E hG hS⟩ rfl hn (hl.1.trans hlv) rfl (by simpa using hrs) d hcs) hS rC_aa (rC_AX hS.1) rC_aa (fun _ _ _ _ _ _ _ _ _ hp => hp.elim) (fun u t H1 locs1 ht hvm hw hB hz1 hk1 hS1 => ?_)
  subst hw
  rw [ht] at hB
  exact kk res h H1 locs1 ls hB hS1 hl
theorem rC_yVv (E : rC_X D cI cZ cO ad gh own cc nL ret p l s m args meth c) {ci N b : Nat} {C : String} {T : u_T} (hcl : vwCl[ci]? = some (C, T, N)) (hk : rC_at gh b ci) {x : Nat} {r : ρ} {Qf : Array Value → State → Outcome → State → Prop} (hM : ∀ sz, vx_Met l y (rv_ws y by_ maxL rt) rm (rC_Px D cI cZ cO ad gh de sz (.ref (ad b) :: As) M) (rC_fvv (rC_A ad gh sz)) (rC_xc D cI cZ cO ad gh de (rC_A ad gh sz) x M') mk9 mn9 (rC_A ad gh sz)) (hQ : Q r = vx_MQ below Qf (rC_xc D cI cZ cO ad gh de (rC_A ad gh s.heap.size) x M') args s mc ms (rC_A ad gh s.heap.size)) (cg : GoodIn rv_AL (wsV own idx C y (rv_ws y by_ maxL rt))) (hd : y.cls = C ∧ y.cls ≠ "java/lang/invoke/MethodHandle" ∧ y.cls ≠ "java/lang/invoke/VarHandle" ∧ (parseMethodDescriptor y.desc).map (fun d => d.parameters.length) = some n) (hrm : rm.cells = mk9 ∧ rm.slots = mn9) (hR : rm.frames + 1 ≤ R.frames ∧ 8 + (maxL + 11) + rm.locals ≤ R.locals) (hcs : cells + mk9 ≤ R.cells ∧ slots + mn9 ≤ R.slots) (hn : As.length = n) (hlv : lv.length = nL) (hst : st = As.reverse ++ .ref (ad b) :: rest) (hrs : (rest.map fun v => v.category).sum ≤ 8) (d : decode cc pc = .ok (.invokevirtual idx, 3)) (hm : cells + mk9 ≤ mc ∧ slots + mn9 ≤ ms) : rv_M (rC_G D cI cZ cO ad gh de) (rC_A ad gh s.heap.size) p l e R s m args below meth c cells slots Q (some r) pc lv st M := by
  subst hst
  intro res h H locs ls hG hS hl
  cases h
  rw [hQ]
  refine vx_callv (vx_runV (C := C) (b := ad b) (As := As) (rest := rest) E.1.1 (hM H.size) (cwV n E.1.hts cg rfl hrm.1 hrm.2 hd hR) ⟨rC_pblind, rC_recv E.1 hcl hk hG, rC_ppre E hG hS⟩ rfl hn (hl.1.trans hlv) rfl (by simpa using hrs) d hcs) hS rC_aa (rC_AX hS.1) rC_aa (fun E9 ce q9 u t H1 locs1 ht hvm hw hB hz1 hk1 hS1 hce hcv hcl9 => ?_) (fun _ _ _ _ _ _ hp => hp.elim)
  obtain ⟨rfl, hB⟩ := hB
  rw [ht] at hB
  exact vx_out (fun x hx => (E.2.2.1 x hx).elim) E.1.2.2.2.2.2.1 hce hcv hcl9 (fun t2 ht2 ha2 => ⟨(), trivial, ⟨rfl, by rw [ht2]; exact hB⟩, hS1.F ht2⟩) hS1.2.2 hm.1 hm.2
theorem rC_xSv (E : rC_X D cI cZ cO ad gh own cc nL ret p l s m args meth c) (hM : ∀ sz, vx_Met l y (rv_ws y by_ maxL rt) rm (rC_Px D cI cZ cO ad gh de sz As M) (rC_qv D cI cZ cO ad gh de (rC_A ad gh sz) M') (rC_fx (rC_A ad gh sz)) mk9 mn9 (rC_A ad gh sz)) (cg : GoodIn rv_AL (va_wsS own idx y (rv_ws y by_ maxL rt))) (hd : y.cls ≠ "java/lang/invoke/MethodHandle" ∧ y.cls ≠ "java/lang/invoke/VarHandle" ∧ (parseMethodDescriptor y.desc).map (fun d => d.parameters.length) = some n) (hrm : rm.cells = mk9 ∧ rm.slots = mn9) (hR : rm.frames + 1 ≤ R.frames ∧ 8 + (maxL + 11) + rm.locals ≤ R.locals) (hcs : cells + mk9 ≤ R.cells ∧ slots + mn9 ≤ R.slots) (hn : As.length = n) (hlv : lv.length = nL) (hst : st = As.reverse ++ rest) (hrs : (rest.map fun v => v.category).sum ≤ 8) (d : decode cc pc = .ok (.invokestatic idx, 3)) (hq : pc + 3 = q) (kk : rv_M (rC_G D cI cZ cO ad gh de) (rC_A ad gh s.heap.size) p l e R s m args below meth c (cells + mk9) (slots + mn9) Q t q lv (rest) M') : rv_M (rC_G D cI cZ cO ad gh de) (rC_A ad gh s.heap.size) p l e R s m args below meth c cells slots Q t pc lv st M := by
  subst hq; subst hst
  intro res h H locs ls hG hS hl
  refine vx_callv (vx_runS (As := As) (rest := rest) E.1.1 (hM H.size) (va_cwS n E.1.hts cg rfl hrm.1 hrm.2 hd hR) ⟨rC_pblind, rC_ppre E hG hS⟩ rfl hn (hl.1.trans hlv) rfl (by simpa using hrs) d hcs) hS rC_aa (rC_AX hS.1) rC_aa (fun _ _ _ _ _ _ _ _ _ hp => hp.elim) (fun u t H1 locs1 ht hvm hw hB hz1 hk1 hS1 => ?_)
  subst hw
  rw [ht] at hB
  exact kk res h H1 locs1 ls hB hS1 hl
theorem rC_ySv (E : rC_X D cI cZ cO ad gh own cc nL ret p l s m args meth c) {x : Nat} {r : ρ} {Qf : Array Value → State → Outcome → State → Prop} (hM : ∀ sz, vx_Met l y (rv_ws y by_ maxL rt) rm (rC_Px D cI cZ cO ad gh de sz As M) (rC_fvv (rC_A ad gh sz)) (rC_xc D cI cZ cO ad gh de (rC_A ad gh sz) x M') mk9 mn9 (rC_A ad gh sz)) (hQ : Q r = vx_MQ below Qf (rC_xc D cI cZ cO ad gh de (rC_A ad gh s.heap.size) x M') args s mc ms (rC_A ad gh s.heap.size)) (cg : GoodIn rv_AL (va_wsS own idx y (rv_ws y by_ maxL rt))) (hd : y.cls ≠ "java/lang/invoke/MethodHandle" ∧ y.cls ≠ "java/lang/invoke/VarHandle" ∧ (parseMethodDescriptor y.desc).map (fun d => d.parameters.length) = some n) (hrm : rm.cells = mk9 ∧ rm.slots = mn9) (hR : rm.frames + 1 ≤ R.frames ∧ 8 + (maxL + 11) + rm.locals ≤ R.locals) (hcs : cells + mk9 ≤ R.cells ∧ slots + mn9 ≤ R.slots) (hn : As.length = n) (hlv : lv.length = nL) (hst : st = As.reverse ++ rest) (hrs : (rest.map fun v => v.category).sum ≤ 8) (d : decode cc pc = .ok (.invokestatic idx, 3)) (hm : cells + mk9 ≤ mc ∧ slots + mn9 ≤ ms) : rv_M (rC_G D cI cZ cO ad gh de) (rC_A ad gh s.heap.size) p l e R s m args below meth c cells slots Q (some r) pc lv st M := by
  subst hst
  intro res h H locs ls hG hS hl
  cases h
  rw [hQ]
  refine vx_callv (vx_runS (As := As) (rest := rest) E.1.1 (hM H.size) (va_cwS n E.1.hts cg rfl hrm.1 hrm.2 hd hR) ⟨rC_pblind, rC_ppre E hG hS⟩ rfl hn (hl.1.trans hlv) rfl (by simpa using hrs) d hcs) hS rC_aa (rC_AX hS.1) rC_aa (fun E9 ce q9 u t H1 locs1 ht hvm hw hB hz1 hk1 hS1 hce hcv hcl9 => ?_) (fun _ _ _ _ _ _ hp => hp.elim)
  obtain ⟨rfl, hB⟩ := hB
  rw [ht] at hB
  exact vx_out (fun x hx => (E.2.2.1 x hx).elim) E.1.2.2.2.2.2.1 hce hcv hcl9 (fun t2 ht2 ha2 => ⟨(), trivial, ⟨rfl, by rw [ht2]; exact hB⟩, hS1.F ht2⟩) hS1.2.2 hm.1 hm.2
theorem rC_xVr (E : rC_X D cI cZ cO ad gh own cc nL ret p l s m args meth c) {ci N b : Nat} {C : String} {T : u_T} (hcl : vwCl[ci]? = some (C, T, N)) (hk : rC_at gh b ci) {k : Nat} (hM : ∀ sz, vx_Met l y (rv_ws y by_ maxL rt) rm (rC_Px D cI cZ cO ad gh de sz (.ref (ad b) :: As) M) (rC_qr D cI cZ cO ad gh de (rC_A ad gh sz) k M') (rC_fx (rC_A ad gh sz)) mk9 mn9 (rC_A ad gh sz)) (cg : GoodIn rv_AL (wsV own idx C y (rv_ws y by_ maxL rt))) (hd : y.cls = C ∧ y.cls ≠ "java/lang/invoke/MethodHandle" ∧ y.cls ≠ "java/lang/invoke/VarHandle" ∧ (parseMethodDescriptor y.desc).map (fun d => d.parameters.length) = some n) (hrm : rm.cells = mk9 ∧ rm.slots = mn9) (hR : rm.frames + 1 ≤ R.frames ∧ 8 + (maxL + 11) + rm.locals ≤ R.locals) (hcs : cells + mk9 ≤ R.cells ∧ slots + mn9 ≤ R.slots) (hn : As.length = n) (hlv : lv.length = nL) (hst : st = As.reverse ++ .ref (ad b) :: rest) (hrs : (rest.map fun v => v.category).sum ≤ 8) (d : decode cc pc = .ok (.invokevirtual idx, 3)) (hq : pc + 3 = q) (kk : rv_M (rC_G D cI cZ cO ad gh de) (rC_A ad gh s.heap.size) p l e R s m args below meth c (cells + mk9) (slots + mn9) Q t q lv (.ref (ad k) :: rest) M') : rv_M (rC_G D cI cZ cO ad gh de) (rC_A ad gh s.heap.size) p l e R s m args below meth c cells slots Q t pc lv st M := by
  subst hq; subst hst
  intro res h H locs ls hG hS hl
  refine vx_callr9 (vx_runV (C := C) (b := ad b) (As := As) (rest := rest) E.1.1 (hM H.size) (cwV n E.1.hts cg rfl hrm.1 hrm.2 hd hR) ⟨rC_pblind, rC_recv E.1 hcl hk hG, rC_ppre E hG hS⟩ rfl hn (hl.1.trans hlv) rfl (by simpa using hrs) d hcs) hS rC_aa (rC_AX hS.1) rC_aa (fun _ _ _ _ _ _ _ _ _ hp => hp.elim) (fun u ra t H1 locs1 ht hvm hw hB hz1 hk1 hS1 => ?_)
  subst hw
  obtain ⟨rfl, hB⟩ := hB
  rw [ht] at hB
  exact kk res h H1 locs1 ls hB hS1 hl
theorem rC_yVr (E : rC_X D cI cZ cO ad gh own cc nL ret p l s m args meth c) {ci N b : Nat} {C : String} {T : u_T} (hcl : vwCl[ci]? = some (C, T, N)) (hk : rC_at gh b ci) {x : Nat} {r : ρ} {Qf : Array Value → State → Outcome → State → Prop} (hM : ∀ sz, vx_Met l y (rv_ws y by_ maxL rt) rm (rC_Px D cI cZ cO ad gh de sz (.ref (ad b) :: As) M) (rC_fr (rC_A ad gh sz)) (rC_xc D cI cZ cO ad gh de (rC_A ad gh sz) x M') mk9 mn9 (rC_A ad gh sz)) (hQ : Q r = vx_MQ below Qf (rC_xc D cI cZ cO ad gh de (rC_A ad gh s.heap.size) x M') args s mc ms (rC_A ad gh s.heap.size)) (cg : GoodIn rv_AL (wsV own idx C y (rv_ws y by_ maxL rt))) (hd : y.cls = C ∧ y.cls ≠ "java/lang/invoke/MethodHandle" ∧ y.cls ≠ "java/lang/invoke/VarHandle" ∧ (parseMethodDescriptor y.desc).map (fun d => d.parameters.length) = some n) (hrm : rm.cells = mk9 ∧ rm.slots = mn9) (hR : rm.frames + 1 ≤ R.frames ∧ 8 + (maxL + 11) + rm.locals ≤ R.locals) (hcs : cells + mk9 ≤ R.cells ∧ slots + mn9 ≤ R.slots) (hn : As.length = n) (hlv : lv.length = nL) (hst : st = As.reverse ++ .ref (ad b) :: rest) (hrs : (rest.map fun v => v.category).sum ≤ 8) (d : decode cc pc = .ok (.invokevirtual idx, 3)) (hm : cells + mk9 ≤ mc ∧ slots + mn9 ≤ ms) : rv_M (rC_G D cI cZ cO ad gh de) (rC_A ad gh s.heap.size) p l e R s m args below meth c cells slots Q (some r) pc lv st M := by
  subst hst
  intro res h H locs ls hG hS hl
  cases h
  rw [hQ]
  refine vx_callr9 (vx_runV (C := C) (b := ad b) (As := As) (rest := rest) E.1.1 (hM H.size) (cwV n E.1.hts cg rfl hrm.1 hrm.2 hd hR) ⟨rC_pblind, rC_recv E.1 hcl hk hG, rC_ppre E hG hS⟩ rfl hn (hl.1.trans hlv) rfl (by simpa using hrs) d hcs) hS rC_aa (rC_AX hS.1) rC_aa (fun E9 ce q9 u t H1 locs1 ht hvm hw hB hz1 hk1 hS1 hce hcv hcl9 => ?_) (fun _ _ _ _ _ _ _ hp => hp.elim)
  obtain ⟨rfl, hB⟩ := hB
  rw [ht] at hB
  exact vx_out (fun x hx => (E.2.2.1 x hx).elim) E.1.2.2.2.2.2.1 hce hcv hcl9 (fun t2 ht2 ha2 => ⟨(), trivial, ⟨rfl, by rw [ht2]; exact hB⟩, hS1.F ht2⟩) hS1.2.2 hm.1 hm.2
theorem rC_xSr (E : rC_X D cI cZ cO ad gh own cc nL ret p l s m args meth c) {k : Nat} (hM : ∀ sz, vx_Met l y (rv_ws y by_ maxL rt) rm (rC_Px D cI cZ cO ad gh de sz As M) (rC_qr D cI cZ cO ad gh de (rC_A ad gh sz) k M') (rC_fx (rC_A ad gh sz)) mk9 mn9 (rC_A ad gh sz)) (cg : GoodIn rv_AL (va_wsS own idx y (rv_ws y by_ maxL rt))) (hd : y.cls ≠ "java/lang/invoke/MethodHandle" ∧ y.cls ≠ "java/lang/invoke/VarHandle" ∧ (parseMethodDescriptor y.desc).map (fun d => d.parameters.length) = some n) (hrm : rm.cells = mk9 ∧ rm.slots = mn9) (hR : rm.frames + 1 ≤ R.frames ∧ 8 + (maxL + 11) + rm.locals ≤ R.locals) (hcs : cells + mk9 ≤ R.cells ∧ slots + mn9 ≤ R.slots) (hn : As.length = n) (hlv : lv.length = nL) (hst : st = As.reverse ++ rest) (hrs : (rest.map fun v => v.category).sum ≤ 8) (d : decode cc pc = .ok (.invokestatic idx, 3)) (hq : pc + 3 = q) (kk : rv_M (rC_G D cI cZ cO ad gh de) (rC_A ad gh s.heap.size) p l e R s m args below meth c (cells + mk9) (slots + mn9) Q t q lv (.ref (ad k) :: rest) M') : rv_M (rC_G D cI cZ cO ad gh de) (rC_A ad gh s.heap.size) p l e R s m args below meth c cells slots Q t pc lv st M := by
  subst hq; subst hst
  intro res h H locs ls hG hS hl
  refine vx_callr9 (vx_runS (As := As) (rest := rest) E.1.1 (hM H.size) (va_cwS n E.1.hts cg rfl hrm.1 hrm.2 hd hR) ⟨rC_pblind, rC_ppre E hG hS⟩ rfl hn (hl.1.trans hlv) rfl (by simpa using hrs) d hcs) hS rC_aa (rC_AX hS.1) rC_aa (fun _ _ _ _ _ _ _ _ _ hp => hp.elim) (fun u ra t H1 locs1 ht hvm hw hB hz1 hk1 hS1 => ?_)
  subst hw
  obtain ⟨rfl, hB⟩ := hB
  rw [ht] at hB
  exact kk res h H1 locs1 ls hB hS1 hl
theorem rC_ySr (E : rC_X D cI cZ cO ad gh own cc nL ret p l s m args meth c) {x : Nat} {r : ρ} {Qf : Array Value → State → Outcome → State → Prop} (hM : ∀ sz, vx_Met l y (rv_ws y by_ maxL rt) rm (rC_Px D cI cZ cO ad gh de sz As M) (rC_fr (rC_A ad gh sz)) (rC_xc D cI cZ cO ad gh de (rC_A ad gh sz) x M') mk9 mn9 (rC_A ad gh sz)) (hQ : Q r = vx_MQ below Qf (rC_xc D cI cZ cO ad gh de (rC_A ad gh s.heap.size) x M') args s mc ms (rC_A ad gh s.heap.size)) (cg : GoodIn rv_AL (va_wsS own idx y (rv_ws y by_ maxL rt))) (hd : y.cls ≠ "java/lang/invoke/MethodHandle" ∧ y.cls ≠ "java/lang/invoke/VarHandle" ∧ (parseMethodDescriptor y.desc).map (fun d => d.parameters.length) = some n) (hrm : rm.cells = mk9 ∧ rm.slots = mn9) (hR : rm.frames + 1 ≤ R.frames ∧ 8 + (maxL + 11) + rm.locals ≤ R.locals) (hcs : cells + mk9 ≤ R.cells ∧ slots + mn9 ≤ R.slots) (hn : As.length = n) (hlv : lv.length = nL) (hst : st = As.reverse ++ rest) (hrs : (rest.map fun v => v.category).sum ≤ 8) (d : decode cc pc = .ok (.invokestatic idx, 3)) (hm : cells + mk9 ≤ mc ∧ slots + mn9 ≤ ms) : rv_M (rC_G D cI cZ cO ad gh de) (rC_A ad gh s.heap.size) p l e R s m args below meth c cells slots Q (some r) pc lv st M := by
  subst hst
  intro res h H locs ls hG hS hl
  cases h
  rw [hQ]
  refine vx_callr9 (vx_runS (As := As) (rest := rest) E.1.1 (hM H.size) (va_cwS n E.1.hts cg rfl hrm.1 hrm.2 hd hR) ⟨rC_pblind, rC_ppre E hG hS⟩ rfl hn (hl.1.trans hlv) rfl (by simpa using hrs) d hcs) hS rC_aa (rC_AX hS.1) rC_aa (fun E9 ce q9 u t H1 locs1 ht hvm hw hB hz1 hk1 hS1 hce hcv hcl9 => ?_) (fun _ _ _ _ _ _ _ hp => hp.elim)
  obtain ⟨rfl, hB⟩ := hB
  rw [ht] at hB
  exact vx_out (fun x hx => (E.2.2.1 x hx).elim) E.1.2.2.2.2.2.1 hce hcv hcl9 (fun t2 ht2 ha2 => ⟨(), trivial, ⟨rfl, by rw [ht2]; exact hB⟩, hS1.F ht2⟩) hS1.2.2 hm.1 hm.2
-- lists: how many, and the i-th
theorem rC_lsz (E : rC_E D cI cZ cO ad gh A own cc nL ret p s m args meth c) (i : Nat) (hi : i < 3) (hM : Met l yJx4a65c_size_8abf5 (rv_ws yJx4a65c_size_8abf5 cJx4a65c_size_8abf5 1 (some .int)) { frames := 0, cells := 0, slots := 0, locals := 0 } (rC_Pc D cI cZ cO ad gh de [.ref (ad (9 + i))] M) (rC_QI D cI cZ cO ad gh de (nI (gh.1 i)) M) 0 0 (rC_K ad gh)) (cg : GoodIn rv_AL (wsV own idx RJx4a65c yJx4a65c_size_8abf5 (rv_ws yJx4a65c_size_8abf5 cJx4a65c_size_8abf5 1 (some .int)))) (hR : 0 + 1 ≤ R.frames ∧ 8 + (1 + 11) + 0 ≤ R.locals) (hcs : cells ≤ R.cells ∧ slots ≤ R.slots) (hlv : lv.length = nL) (hrs : (st.map fun v => v.category).sum ≤ 8) (d : decode cc pc = .ok (.invokevirtual idx, 3)) (hq : pc + 3 = q) (kk : rv_M (rC_G D cI cZ cO ad gh de) A p l e R s m args below meth c cells slots Q t q lv (.int (nI (gh.1 i)) :: st) M) : rv_M (rC_G D cI cZ cO ad gh de) A p l e R s m args below meth c cells slots Q t pc lv (.ref (ad (9 + i)) :: st) M := by
  subst hq
  intro res h H locs ls hG hS hl
  obtain ⟨cap, mc9, f9, h1, -⟩ := hG.2 i hi
  have hP : va_P D vwCl [(ad (9 + i), .inr (0, [.int mc9, .ref (ad (9 + i + 44)), .int (nI (gh.1 i))]))] H := fun j z hz => by
    match j, hz with
    | 0, hz => cases hz; exact h1
    | j + 1, hz => simp at hz
  refine va_calli (va_runV (C := RJx4a65c) (b := ad (9 + i)) (As := []) (rest := st) E.1 hM (cwV 0 E.hts cg rfl rfl rfl (by decide +kernel) hR) ⟨rC_blind, va_recv E.2.1 hP (ci := 0) (q0 := 0) rfl rfl, fun U hU hW => ⟨rfl, by rw [hU]; exact hG, va_K.moved hW.alike E.2.1, E.2.2.2.2.2.2.warm hW⟩⟩ rfl rfl (hl.1.trans hlv) rfl (by simpa using hrs) d hcs) hS (fun q _ hq => E.2.2.2.1 q hq) (fun q hq => E.2.2.2.1 q hq) (fun r u t H1 locs1 ht hvm hw hB hz1 hk1 hS1 => ?_)
  obtain ⟨rfl, rfl⟩ := hw
  rw [ht] at hB
  exact kk res h H1 locs1 ls hB hS1 hl
theorem rC_lgt (E : rC_E D cI cZ cO ad gh A own cc nL ret p s m args meth c) (i : Nat) (hi : i < 3) {x : Int32} {rm : Room} (hM : rv_in x (gh.1 i) = true → Met l yJx4a65c_get_915e3 (rv_ws yJx4a65c_get_915e3 cJx4a65c_get_915e3 2 (some (.object "java/lang/Object"))) rm (rC_Pc D cI cZ cO ad gh de [.ref (ad (9 + i)), .int x] M) (va_Qr (fun (_ : Unit) => True) (fun _ a t => a = ad (rC_b i + x.toNatClampNeg) ∧ rC_G D cI cZ cO ad gh de M t.heap) (rC_K ad gh)) 0 0 (rC_K ad gh)) (hrm : rm.cells = 0 ∧ rm.slots = 0) (cg : GoodIn rv_AL (wsV own idx RJx4a65c yJx4a65c_get_915e3 (rv_ws yJx4a65c_get_915e3 cJx4a65c_get_915e3 2 (some (.object "java/lang/Object"))))) (hR : rm.frames + 1 ≤ R.frames ∧ 8 + (2 + 11) + rm.locals ≤ R.locals) (hcs : cells ≤ R.cells ∧ slots ≤ R.slots) (hlv : lv.length = nL) (hrs : (st.map fun v => v.category).sum ≤ 8) (d : decode cc pc = .ok (.invokevirtual idx, 3)) (hq : pc + 3 = q) (kk : rv_M (rC_G D cI cZ cO ad gh de) A p l e R s m args below meth c cells slots Q t q lv (.ref (ad (rC_b i + x.toNatClampNeg)) :: st) M) : rv_M (rC_G D cI cZ cO ad gh de) A p l e R s m args below meth c cells slots Q (if rv_in x (gh.1 i) = true then t else none) pc lv (.int x :: .ref (ad (9 + i)) :: st) M := by
  refine rv_g (fun hin => ?_)
  subst hq
  intro res h H locs ls hG hS hl
  obtain ⟨cap, mc9, f9, h1, -⟩ := hG.2 i hi
  have hP : va_P D vwCl [(ad (9 + i), .inr (0, [.int mc9, .ref (ad (9 + i + 44)), .int (nI (gh.1 i))]))] H := fun j z hz => by
    match j, hz with
    | 0, hz => cases hz; exact h1
    | j + 1, hz => simp at hz
  refine va_callr (va_runV (C := RJx4a65c) (b := ad (9 + i)) (As := [.int x]) (rest := st) E.1 (hM hin) (cwV 1 E.hts cg rfl hrm.1 hrm.2 (by decide +kernel) hR) ⟨rC_blind, va_recv E.2.1 hP (ci := 0) (q0 := 0) rfl rfl, fun U hU hW => ⟨rfl, by rw [hU]; exact hG, va_K.moved hW.alike E.2.1, E.2.2.2.2.2.2.warm hW⟩⟩ rfl rfl (hl.1.trans hlv) rfl (by simpa using hrs) d hcs) hS (fun q _ hq => E.2.2.2.1 q hq) (fun q hq => E.2.2.2.1 q hq) (fun u ra t H1 locs1 ht hvm hw hB hz1 hk1 hS1 => ?_)
  obtain ⟨rfl, hB⟩ := hB
  rw [ht] at hB
  exact kk res h H1 locs1 ls hB hS1 hl
/-- the element is of its kind -/
theorem rC_cst (E : rC_E D cI cZ cO ad gh A own cc nL ret p s m args meth c) {ci N k i : Nat} {C : String} {T : u_T} (hcl : vwCl[ci]? = some (C, T, N)) (hk : rC_at gh k ci) (hlk : Cond.classLink own i C ∈ rv_AL) (d : decode cc pc = .ok (.checkcast i, 3)) (hq : pc + 3 = q) (kk : rv_M (rC_G D cI cZ cO ad gh de) A p l e R s m args below meth c cells slots Q t q lv (.ref (ad k) :: st) M) : rv_M (rC_G D cI cZ cO ad gh de) A p l e R s m args below meth c cells slots Q t pc lv (.ref (ad k) :: st) M := by
  subst hq
  intro res h H locs ls hG hS hl
  exact va_castS E.1.1 E.1.2.1 E.ow (E.hts _ hlk) (E.2.1.1 ci _ hcl).2 (rC_recv E hcl hk hG) d (kk res h H locs ls hG hS hl)
-- ends of a method that doesn't throw
theorem rC_iret (E : rC_E D cI cZ cO ad gh (rC_K ad gh) own cc nL (some .int) p s m args meth c) {v : Int32} {r : ρ} (hQ : Q r = MQ below (rC_QI D cI cZ cO ad gh de v M) args s 0 0 (rC_K ad gh)) (d : decode cc pc = .ok (.ireturn, 1)) : rv_M (rC_G D cI cZ cO ad gh de) (rC_K ad gh) p l e R s m args below meth c 0 0 Q (some r) pc lv [.int v] M := by
  intro res h H locs ls hG hS hl
  cases h
  rw [hQ]
  exact W.iret E.1.1 E.1.2.1 E.2.2.2.2.1 (fun t ht hW => ⟨⟨v, M, rfl, ⟨rfl, rfl⟩, by show rC_G D cI cZ cO ad gh de M t.heap; rw [ht]; exact hG⟩, hS.F ht⟩) hS.2.2 d (hlocks := E.2.2.2.2.2.1)
theorem rC_zret (E : rC_E D cI cZ cO ad gh (rC_K ad gh) own cc nL (some .boolean) p s m args meth c) (b : Bool) {r : ρ} (hQ : Q r = MQ below (rC_QI D cI cZ cO ad gh de (rv_i b) M) args s 0 0 (rC_K ad gh)) (d : decode cc pc = .ok (.ireturn, 1)) : rv_M (rC_G D cI cZ cO ad gh de) (rC_K ad gh) p l e R s m args below meth c 0 0 Q (some r) pc lv [.int (rv_i b)] M := by
  intro res h H locs ls hG hS hl
  cases h
  rw [hQ]
  exact W.zret E.1.1 E.1.2.1 E.2.2.2.2.1 rv_i_nar (fun t ht hW => ⟨⟨rv_i b, M, rfl, ⟨rfl, rfl⟩, by show rC_G D cI cZ cO ad gh de M t.heap; rw [ht]; exact hG⟩, hS.F ht⟩) hS.2.2 d (hlocks := E.2.2.2.2.2.1)
theorem rC_vret (E : rC_E D cI cZ cO ad gh (rC_K ad gh) own cc nL none p s m args meth c) {r : ρ} (hQ : Q r = MQ below (rC_QV D cI cZ cO ad gh de M) args s 0 0 (rC_K ad gh)) (d : decode cc pc = .ok (.return_, 1)) : rv_M (rC_G D cI cZ cO ad gh de) (rC_K ad gh) p l e R s m args below meth c 0 0 Q (some r) pc lv [] M := by
  intro res h H locs ls hG hS hl
  cases h
  rw [hQ]
  exact W.vret E.1.1 E.1.2.1 E.2.2.2.2.1 (fun t ht hW => ⟨⟨M, rfl, rfl, by show rC_G D cI cZ cO ad gh de M t.heap; rw [ht]; exact hG⟩, hS.F ht⟩) hS.2.2 d (hlocks := E.2.2.2.2.2.1)
end RX2
/-- a method out of its walk -/
theorem rC_met {l : Launch} {own : String} {y : MethodName} {cc : ByteArray} {maxL : Nat} {ret : Option FieldType} {rm : Room} {D : va_G} {cI cZ cO : ClassId} {ad : Nat → Nat} {gh : rC_gh} {de : Nat} {M : rv_Mem} {vs : List Value} {Qc : Array Value → State → Outcome → State → Prop} {ρ : Type} {t : Option ρ} {r : ρ} (hI : rC_I ad gh) (hy : y.cls = own) (hp : plainName own = true) (hvn : (rv_lv vs).length ≤ maxL)
    (body : ∀ (p : Program) (e : Env) (s : State) (m : MethodId) (args : Array Value) (below : List Frame) (meth : Method) (c : Code), rC_E D cI cZ cO ad gh (rC_K ad gh) own cc maxL ret p s m args meth c → ∃ Q : ρ → State → Prop, Q r = MQ below Qc args s 0 0 (rC_K ad gh) ∧ rv_M (rC_G D cI cZ cO ad gh de) (rC_K ad gh) p l e rm s m args below meth c 0 0 Q t 0 (rv_lv vs ++ List.replicate (maxL - (rv_lv vs).length) none) [] M) (ht : t = some r) : Met l y (rv_ws y cc maxL ret) rm (rC_Pc D cI cZ cO ad gh de vs M) Qc 0 0 (rC_K ad gh) := by
  refine Met.ofW (cc := cc) (maxL := maxL) (ret := ret) (by rw [hy]; exact hp) rfl ?_
  intro p e s m args below meth c s₁ B hml hv
  obtain ⟨rfl, hG, hK, hnw⟩ := hv
  have hts := atoms_spec (ws := rv_ws y cc maxL ret) B.pre
  have hown : s.vm.findClass own = some m.cls := by rw [← hy]; exact findClass_of_methodNamed B.named
  obtain ⟨Q, hQ, k⟩ := body p e s m vs.toArray below meth c ⟨⟨B.exec, B.bytes, hml, hown, fun w hw => hts w (List.mem_cons_of_mem _ hw)⟩, hK, hI, fun _ h => h, B.returns, B.notSynchronized, hnw⟩
  rw [← hQ, lg_entry_eq]
  exact k r ht s.heap [] _ hG va_S.rf (rv_entryL vs hvn (lv_entry vs (n := maxL) (by rw [← rv_lv_len]; exact hvn)))
/-- a method that may throw, out of its walk -/
theorem rC_xmet {l : Launch} {own : String} {y : MethodName} {cc : ByteArray} {maxL : Nat} {ret : Option FieldType} {rm : Room} {D : va_G} {cI cZ cO : ClassId} {ad : Nat → Nat} {gh : rC_gh} {de sz : Nat} {M : rv_Mem} {vs : List Value} {Qc : (Nat → Prop) → Array Value → State → Outcome → State → Prop} {XC : (Nat → Prop) → String → State → State → Prop} {ρ : Type} {t : Option ρ} {r : ρ} {mc ms : Nat} (hfl : l.stackTraces = false) (hI : rC_I ad gh) (hy : y.cls = own) (hp : plainName own = true) (hvn : (rv_lv vs).length ≤ maxL)
    (body : ∀ (p : Program) (e : Env) (s : State) (m : MethodId) (args : Array Value) (below : List Frame) (meth : Method) (c : Code), rC_X D cI cZ cO ad gh own cc maxL ret p l s m args meth c → ∃ Q : ρ → State → Prop, Q r = vx_MQ below (Qc (rC_A ad gh s.heap.size)) (XC (rC_A ad gh s.heap.size)) args s mc ms (rC_A ad gh s.heap.size) ∧ rv_M (rC_G D cI cZ cO ad gh de) (rC_A ad gh s.heap.size) p l e rm s m args below meth c 0 0 Q t 0 (rv_lv vs ++ List.replicate (maxL - (rv_lv vs).length) none) [] M) (ht : t = some r) : vx_Met l y (rv_ws y cc maxL ret) rm (rC_Px D cI cZ cO ad gh de sz vs M) (Qc (rC_A ad gh sz)) (XC (rC_A ad gh sz)) mc ms (rC_A ad gh sz) := by
  refine vx_ofW (cc := cc) (maxL := maxL) (ret := ret) (by rw [hy]; exact hp) rfl ?_
  intro p e s m args below meth c s₁ B hml hex hv
  obtain ⟨rfl, hsz, hG, hK, hnw, htk⟩ := hv
  subst hsz
  have hts := atoms_spec (ws := rv_ws y cc maxL ret) B.pre
  have hown : s.vm.findClass own = some m.cls := by rw [← hy]; exact findClass_of_methodNamed B.named
  obtain ⟨Q, hQ, k⟩ := body p e s m vs.toArray below meth c ⟨⟨⟨B.exec, B.bytes, hml, hown, fun w hw => hts w (List.mem_cons_of_mem _ hw)⟩, hK, hI, fun _ h => Or.inl h, B.returns, B.notSynchronized, hnw⟩, hfl, hex, htk⟩
  rw [← hQ, lg_entry_eq]
  exact k r ht s.heap [] _ hG va_S.rf (rv_entryL vs hvn (lv_entry vs (n := maxL) (by rw [← rv_lv_len]; exact hvn)))
