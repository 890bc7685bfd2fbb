/-! THROWS OF THE CLASS: 1 an index out of bounds, 2 an illegal argument, 3 an illegal state -/
def rC_ex (c : Nat) : String := if c = 1 then "java/lang/IndexOutOfBoundsException" else if c = 2 then "java/lang/IllegalArgumentException" else "java/lang/IllegalStateException"
def rC_strs : List (Nat × String) := [(493, "no such commit"), (495, "no such change"), (497, "no such patch set"), (485, "no such person"), (491, "no such label"), (489, "no such file"), (111, "no such place"), (118, "no such line"), (123, "the file is full"), (163, "no room for a change"), (241, "the change is not open"), (501, "the person cannot see the change"), (190, "the desk is of another repository"), (199, "the change would be above itself"), (503, "no room for a commit"), (211, "the base is the new one already"), (217, "a conflict"), (233, "the change is not abandoned"), (256, "no such topic"), (499, "no such comment"), (309, "the comment takes no answers"), (505, "no room for a comment"), (321, "no drafts"), (542, "no such fixes"), (376, "two fixes touch"), (382, "a file would be too long"), (487, "no such repository"), (389, "no such level"), (391, "no such people"), (416, "no such value"), (425, "no such kind"), (427, "no such values"), (432, "no rule can be for that"), (435, "no such statements"), (440, "the rule is refused"), (445, "no such rule"), (455, "no such way"), (476, "no reviewer can be added"), (481, "no such number of days"), (483, "behind the last day"), (397, "no such directory"), (277, "no lines"), (359, "no such lines"), (272, "no such hunk"), (361, "no room for a finding")]
def rC_A (ad : Nat → Nat) (gh : rC_gh) (sz : Nat) (q : Nat) : Prop := rC_K ad gh q ∨ sz ≤ q
def rC_dcl : List Cond := [.declares (Bundle.initS "java/lang/RuntimeException"), .declares (Bundle.initS "java/lang/Exception"), .declares (Bundle.initS "java/lang/Throwable")]
/-- what a throw needs of the heap and of the tables -/
def rC_tk (A : Nat → Prop) (U : State) : Prop := vx_Zq Bundle.tN "UNASSIGNED_STACK" Bundle.steD A U U.heap ∧ vx_Zq Bundle.tN "SUPPRESSED_SENTINEL" Bundle.listD A U U.heap ∧ (∀ q ∈ rC_strs, ∃ sa, vk_R "ReviewForge" q.1 q.2 sa U) ∧ va_Nw (.castable "java/lang/IndexOutOfBoundsException" "java/lang/IndexOutOfBoundsException") U ∧ va_Nw (.castable "java/lang/IllegalArgumentException" "java/lang/IllegalArgumentException") U ∧ va_Nw (.castable "java/lang/IllegalStateException" "java/lang/IllegalStateException") U ∧ ∀ w ∈ rC_dcl, va_Nw w U
def rC_ns : List String := ["java/lang/RuntimeException", "java/lang/Exception"]
theorem rC_xg1 : ∀ w ∈ (vx_atS "ReviewForge" 113 "java/lang/IndexOutOfBoundsException" rC_ns).filter goodWord, w ∈ lw_tbl := by decide +kernel
theorem rC_xn1 : ∀ w ∈ (vx_atS "ReviewForge" 113 "java/lang/IndexOutOfBoundsException" rC_ns).filter (fun w => !goodWord w), w ∈ (Cond.castable "java/lang/IndexOutOfBoundsException" "java/lang/IndexOutOfBoundsException" :: rC_dcl) := by decide +kernel
theorem rC_xo1 : ∀ w ∈ Cond.classLink "ReviewForge" 109 "java/lang/IndexOutOfBoundsException" :: Cond.initialized "java/lang/IndexOutOfBoundsException" :: vx_atS "ReviewForge" 113 "java/lang/IndexOutOfBoundsException" rC_ns, vx_ot w = true := by decide +kernel
theorem rC_xk1 : Cond.classLink "ReviewForge" 109 "java/lang/IndexOutOfBoundsException" ∈ rv_AL := rv_al (rv_t2 (List.mem_of_getElem? (i := 83) rfl)) rfl
theorem rC_xi1 : Cond.initialized "java/lang/IndexOutOfBoundsException" ∈ rv_AL := rv_al (rv_t1 (List.mem_of_getElem? (i := 16) rfl)) rfl
theorem rC_xg2 : ∀ w ∈ (vx_atS "ReviewForge" 120 "java/lang/IllegalArgumentException" rC_ns).filter goodWord, w ∈ lw_tbl := by decide +kernel
theorem rC_xn2 : ∀ w ∈ (vx_atS "ReviewForge" 120 "java/lang/IllegalArgumentException" rC_ns).filter (fun w => !goodWord w), w ∈ (Cond.castable "java/lang/IllegalArgumentException" "java/lang/IllegalArgumentException" :: rC_dcl) := by decide +kernel
theorem rC_xo2 : ∀ w ∈ Cond.classLink "ReviewForge" 116 "java/lang/IllegalArgumentException" :: Cond.initialized "java/lang/IllegalArgumentException" :: vx_atS "ReviewForge" 120 "java/lang/IllegalArgumentException" rC_ns, vx_ot w = true := by decide +kernel
theorem rC_xk2 : Cond.classLink "ReviewForge" 116 "java/lang/IllegalArgumentException" ∈ rv_AL := rv_al (rv_t2 (List.mem_of_getElem? (i := 236) rfl)) rfl
theorem rC_xi2 : Cond.initialized "java/lang/IllegalArgumentException" ∈ rv_AL := rv_al (rv_t1 (List.mem_of_getElem? (i := 19) rfl)) rfl
theorem rC_xg3 : ∀ w ∈ (vx_atS "ReviewForge" 125 "java/lang/IllegalStateException" rC_ns).filter goodWord, w ∈ lw_tbl := by decide +kernel
theorem rC_xn3 : ∀ w ∈ (vx_atS "ReviewForge" 125 "java/lang/IllegalStateException" rC_ns).filter (fun w => !goodWord w), w ∈ (Cond.castable "java/lang/IllegalStateException" "java/lang/IllegalStateException" :: rC_dcl) := by decide +kernel
theorem rC_xo3 : ∀ w ∈ Cond.classLink "ReviewForge" 121 "java/lang/IllegalStateException" :: Cond.initialized "java/lang/IllegalStateException" :: vx_atS "ReviewForge" 125 "java/lang/IllegalStateException" rC_ns, vx_ot w = true := by decide +kernel
theorem rC_xk3 : Cond.classLink "ReviewForge" 121 "java/lang/IllegalStateException" ∈ rv_AL := rv_al (rv_t3 (List.mem_of_getElem? (i := 100) rfl)) rfl
theorem rC_xi3 : Cond.initialized "java/lang/IllegalStateException" ∈ rv_AL := rv_al (rv_t1 (List.mem_of_getElem? (i := 20) rfl)) rfl
def rC_X (D : va_G) (cI cZ cO : ClassId) (ad : Nat → Nat) (gh : rC_gh) (own : String) (cc : ByteArray) (nL : Nat) (ret : Option FieldType) (p : Program) (l : Launch) (s : State) (m : MethodId) (args : Array Value) (meth : Method) (c : Code) : Prop := rC_E D cI cZ cO ad gh (rC_A ad gh s.heap.size) own cc nL ret p s m args meth c ∧ l.stackTraces = false ∧ (∀ x ∈ c.exceptionTable.toList, False) ∧ rC_tk (rC_A ad gh s.heap.size) s
def rC_Px (D : va_G) (cI cZ cO : ClassId) (ad : Nat → Nat) (gh : rC_gh) (de sz : Nat) (av : List Value) (M : rv_Mem) : Array Value → State → Prop := va_Pc av (fun U => U.heap.size = sz ∧ rC_G D cI cZ cO ad gh de M U.heap ∧ va_K D vwCl [(cI, .int), (cZ, .boolean), (cO, .object "java/lang/Object")] U ∧ rC_nw U ∧ rC_tk (rC_A ad gh sz) U)
def rC_qi (D : va_G) (cI cZ cO : ClassId) (ad : Nat → Nat) (gh : rC_gh) (de : Nat) (A : Nat → Prop) (v : Int32) (M : rv_Mem) : Array Value → State → Outcome → State → Prop := va_Qi (fun r (M' : rv_Mem) => r = v ∧ M' = M) (fun M' t => rC_G D cI cZ cO ad gh de M' t.heap) A
def rC_ql (D : va_G) (cI cZ cO : ClassId) (ad : Nat → Nat) (gh : rC_gh) (de : Nat) (A : Nat → Prop) (v : Int64) (M : rv_Mem) : Array Value → State → Outcome → State → Prop := va_Ql (fun r (M' : rv_Mem) => r = v ∧ M' = M) (fun M' t => rC_G D cI cZ cO ad gh de M' t.heap) A
def rC_qv (D : va_G) (cI cZ cO : ClassId) (ad : Nat → Nat) (gh : rC_gh) (de : Nat) (A : Nat → Prop) (M : rv_Mem) : Array Value → State → Outcome → State → Prop := va_Qv (fun (M' : rv_Mem) => M' = M) (fun M' t => rC_G D cI cZ cO ad gh de M' t.heap) A
def rC_qr (D : va_G) (cI cZ cO : ClassId) (ad : Nat → Nat) (gh : rC_gh) (de : Nat) (A : Nat → Prop) (k : Nat) (M : rv_Mem) : Array Value → State → Outcome → State → Prop := va_Qr (fun (M' : rv_Mem) => M' = M) (fun M' a t => a = ad k ∧ rC_G D cI cZ cO ad gh de M' t.heap) A
/-- it doesn't return -/
def rC_fi (A : Nat → Prop) : Array Value → State → Outcome → State → Prop := va_Qi (fun _ (_ : Unit) => False) (fun _ _ => True) A
def rC_fl_ (A : Nat → Prop) : Array Value → State → Outcome → State → Prop := va_Ql (fun _ (_ : Unit) => False) (fun _ _ => True) A
def rC_fvv (A : Nat → Prop) : Array Value → State → Outcome → State → Prop := va_Qv (fun (_ : Unit) => False) (fun _ _ => True) A
def rC_fr (A : Nat → Prop) : Array Value → State → Outcome → State → Prop := va_Qr (fun (_ : Unit) => False) (fun _ _ _ => True) A
/-- it doesn't throw -/
def rC_fx (A : Nat → Prop) : String → State → State → Prop := vx_X (fun (_ : Unit) => False) (fun _ _ _ => True) A
def rC_xc (D : va_G) (cI cZ cO : ClassId) (ad : Nat → Nat) (gh : rC_gh) (de : Nat) (A : Nat → Prop) (x : Nat) (M : rv_Mem) : String → State → State → Prop := vx_X (fun (_ : Unit) => True) (fun E (_ : Unit) t => E = rC_ex x ∧ rC_G D cI cZ cO ad gh de M t.heap) A
/-- programs that may throw, in turn -/
def rv_x1 {α ρ : Type} (f : Option (α ⊕ Nat)) (k : α → Option (ρ ⊕ Nat)) : Option (ρ ⊕ Nat) := match f with
  | some (.inl r) => k r
  | some (.inr x) => some (.inr x)
  | none => none
def rv_x2 {α ρ : Type} (f : Option (α ⊕ Nat)) (M : rv_Mem) (k : α → Option (ρ ⊕ (Nat × rv_Mem))) : Option (ρ ⊕ (Nat × rv_Mem)) := match f with
  | some (.inl r) => k r
  | some (.inr x) => some (.inr (x, M))
  | none => none
def rv_x3 {α ρ : Type} (f : Option ((α × rv_Mem) ⊕ (Nat × rv_Mem))) (k : α → rv_Mem → Option (ρ ⊕ (Nat × rv_Mem))) : Option (ρ ⊕ (Nat × rv_Mem)) := match f with
  | some (.inl (r, M)) => k r M
  | some (.inr x) => some (.inr x)
  | none => none
theorem rC_dcl_warm {s U : State} (hW : s.WarmedH U.vm) (h : ∀ w ∈ rC_dcl, va_Nw w s) : ∀ w ∈ rC_dcl, va_Nw w U := by
  intro w hw
  have h1 := h w hw
  simp only [rC_dcl, List.mem_cons, List.not_mem_nil, or_false] at hw
  rcases hw with rfl | rfl | rfl
  · exact h1.warmD hW
  · exact h1.warmD hW
  · exact h1.warmD hW
theorem rC_tk.warm {A B : Nat → Prop} {s U : State} {H : Heap} {locs : List Loc} (hU : U.heap = H) (hW : s.WarmedH U.vm) (hS : va_S A s.heap H locs) (hAB : ∀ q, B q → A q) (h : rC_tk A s) : rC_tk B U := by
  obtain ⟨h1, h2, h3, h4, h5, h6, h7⟩ := h
  refine ⟨?_, ?_, fun q hq => ?_, h4.warmC hW, h5.warmC hW, h6.warmC hW, rC_dcl_warm hW h7⟩
  · exact ((h1.moved hW.alike).kept (fun a ha hn => by rw [hU]; exact hS.2.1 a ha hn)).narrow hAB
  · exact ((h2.moved hW.alike).kept (fun a ha hn => by rw [hU]; exact hS.2.1 a ha hn)).narrow hAB
  · obtain ⟨sa, h⟩ := h3 q hq
    exact ⟨sa, h.warm hW⟩
theorem rC_tk.same {A : Nat → Prop} {s U : State} (hv : s.vm = U.vm) (hh : s.heap = U.heap) (h : rC_tk A s) : rC_tk A U := by
  obtain ⟨h1, h2, h3, h4, h5, h6, h7⟩ := h
  have ha : s.vm.Alike U.vm := by rw [hv]; exact Vm.Alike.refl _
  refine ⟨by rw [← hh]; exact h1.moved ha, by rw [← hh]; exact h2.moved ha, fun q hq => ?_, h4.same rfl hv, h5.same rfl hv, h6.same rfl hv, fun w hw => ?_⟩
  · obtain ⟨sa, h⟩ := h3 q hq
    exact ⟨sa, vk_R.same hv.symm h⟩
  · have h1 := h7 w hw
    simp only [rC_dcl, List.mem_cons, List.not_mem_nil, or_false] at hw
    rcases hw with rfl | rfl | rfl <;> exact h1.same rfl hv
section RX
variable {p : Program} {l : Launch} {e : Env} {R : Room} {s : State} {m : MethodId} {args : Array Value} {below : List Frame} {meth : Method} {c : Code} {cells slots mc ms : Nat}
variable {ρ : Type} {D : va_G} {cI cZ cO : ClassId} {ad : Nat → Nat} {gh : rC_gh} {de : Nat} {own : String} {Q : ρ → State → Prop}
variable {cc : ByteArray} {nL pc q : Nat} {ret : Option FieldType} {lv lv' : List (Option Value)} {st : List Value} {M : rv_Mem} {t : Option ρ}
theorem rC_hat {c : Nat} {X : String} {ic : Nat} (hts : ∀ w ∈ rv_AL, w.before args s = true) (hg : ∀ w ∈ (vx_atS "ReviewForge" ic X rC_ns).filter goodWord, w ∈ lw_tbl) (hn : ∀ w ∈ (vx_atS "ReviewForge" ic X rC_ns).filter (fun w => !goodWord w), w ∈ (Cond.castable X X :: rC_dcl)) (hc : va_Nw (.castable X X) s) (hd : ∀ w ∈ rC_dcl, va_Nw w s) : ∀ w ∈ vx_atS "ReviewForge" ic X rC_ns, w.before args s = true := by
  refine vx_hat (B := Cond.castable X X :: rC_dcl) (fun w hw => hts w (List.mem_filter.mpr ⟨hg w hw, (List.mem_filter.mp hw).2⟩)) hn ?_
  intro w hw
  rcases List.mem_cons.mp hw with rfl | hw
  · exact va_Nw.use rfl hc
  · have h1 := hd w hw
    simp only [rC_dcl, List.mem_cons, List.not_mem_nil, or_false] at hw
    rcases hw with rfl | rfl | rfl <;> exact va_Nw.use rfl h1
theorem rC_AX {sz : Nat} (hsz : s.heap.size ≤ sz) : ∀ q, rC_A ad gh sz q → rC_A ad gh s.heap.size q := fun q h => h.elim Or.inl (fun z => Or.inr (Nat.le_trans hsz z))
/-- a throw of a written text (c: its number, X its class) -/
theorem rC_throw (E : rC_X D cI cZ cO ad gh RX11 cc nL ret p l s m args meth c) {x : Nat} {X text : String} {ik is ic : Nat} {Qf : Array Value → State → Outcome → State → Prop} {r : ρ} (hX : rC_ex x = X) (hcls : Bundle.fit X = true) (hk : Cond.classLink "ReviewForge" ik X ∈ rv_AL) (hini : Cond.initialized X ∈ rv_AL) (hg : ∀ w ∈ (vx_atS "ReviewForge" ic X rC_ns).filter goodWord, w ∈ lw_tbl) (hn : ∀ w ∈ (vx_atS "ReviewForge" ic X rC_ns).filter (fun w => !goodWord w), w ∈ (Cond.castable X X :: rC_dcl)) (ho : ∀ w ∈ Cond.classLink "ReviewForge" ik X :: Cond.initialized X :: vx_atS "ReviewForge" ic X rC_ns, vx_ot w = true) (hca : va_Nw (.castable X X) s) (hstr : (is, text) ∈ rC_strs) (hQ : Q r = vx_MQ below Qf (rC_xc D cI cZ cO ad gh de (rC_A ad gh s.heap.size) x M) args s mc ms (rC_A ad gh s.heap.size)) (hlv : lv.length = nL)
    (d0 : decode cc pc = .ok (.new ik, 3)) (d3 : decode cc (pc + 3) = .ok (.dup, 1)) (d4 : decode cc (pc + 4) = .ok (.ldc is, 2)) (d6 : decode cc (pc + 6) = .ok (.invokespecial ic, 3)) (d9 : decode cc (pc + 9) = .ok (.athrow, 1))
    (hRf : 5 < R.frames) (hRl : (st.map fun v => v.category).sum + 82 ≤ R.locals) (hRc : cells + 1 ≤ R.cells ∧ slots + 6 ≤ R.slots) (hm : cells + 1 ≤ mc ∧ slots + 6 ≤ ms) : rv_M (rC_G D cI cZ cO ad gh de) (rC_A ad gh s.heap.size) p l e R s m args below meth c cells slots Q (some r) pc lv st M := by
  intro res h H locs ls hG hS hl
  cases h
  rw [hQ]
  obtain ⟨EE, hst, hex, h1, h2, h3, h4, h5, h6, h7⟩ := E
  obtain ⟨sa, hsa⟩ := h3 _ hstr
  exact vx_throwS (names := rC_ns) EE.1.1 EE.1.2.1 hst EE.ow hcls (by decide +kernel) (EE.hts _ hk) (EE.hts _ hini) hsa (rC_hat (c := x) EE.hts hg hn hca h7) ho h1 h2 hS (hl.1.trans (hlv.trans EE.1.2.2.1.symm)) d0 d3 d4 d6 d9 (fun x hx => (hex x hx).elim) hRf (by simpa [rC_ns] using hRl) hRc.1 hRc.2 EE.2.2.2.2.2.1 (fun t ha hz hk => ⟨(), trivial, ⟨hX.symm, rC_kept hG hk⟩, ⟨Nat.le_trans hS.1 hz, fun q hq hnq => (hk q (Nat.lt_of_lt_of_le hq hS.1)).trans (hS.2.1 q hq hnq)⟩⟩) hS.2.2 hm.1 hm.2
theorem rC_throwW (E : rC_X D cI cZ cO ad gh RX11 cc nL ret p l s m args meth c) {x : Nat} {X text : String} {ik is ic : Nat} {Qf : Array Value → State → Outcome → State → Prop} {r : ρ} (hX : rC_ex x = X) (hcls : Bundle.fit X = true) (hk : Cond.classLink "ReviewForge" ik X ∈ rv_AL) (hini : Cond.initialized X ∈ rv_AL) (hg : ∀ w ∈ (vx_atS "ReviewForge" ic X rC_ns).filter goodWord, w ∈ lw_tbl) (hn : ∀ w ∈ (vx_atS "ReviewForge" ic X rC_ns).filter (fun w => !goodWord w), w ∈ (Cond.castable X X :: rC_dcl)) (ho : ∀ w ∈ Cond.classLink "ReviewForge" ik X :: Cond.initialized X :: vx_atS "ReviewForge" ic X rC_ns, vx_ot w = true) (hca : va_Nw (.castable X X) s) (hstr : (is, text) ∈ rC_strs) (hQ : Q r = vx_MQ below Qf (rC_xc D cI cZ cO ad gh de (rC_A ad gh s.heap.size) x M) args s mc ms (rC_A ad gh s.heap.size)) (hlv : lv.length = nL)
    (d0 : decode cc pc = .ok (.new ik, 3)) (d3 : decode cc (pc + 3) = .ok (.dup, 1)) (d4 : decode cc (pc + 4) = .ok (.ldc_w is, 3)) (d7 : decode cc (pc + 7) = .ok (.invokespecial ic, 3)) (d10 : decode cc (pc + 10) = .ok (.athrow, 1))
    (hRf : 5 < R.frames) (hRl : (st.map fun v => v.category).sum + 82 ≤ R.locals) (hRc : cells + 1 ≤ R.cells ∧ slots + 6 ≤ R.slots) (hm : cells + 1 ≤ mc ∧ slots + 6 ≤ ms) : rv_M (rC_G D cI cZ cO ad gh de) (rC_A ad gh s.heap.size) p l e R s m args below meth c cells slots Q (some r) pc lv st M := by
  intro res h H locs ls hG hS hl
  cases h
  rw [hQ]
  obtain ⟨EE, hst, hex, h1, h2, h3, h4, h5, h6, h7⟩ := E
  obtain ⟨sa, hsa⟩ := h3 _ hstr
  exact vx_throwSW (names := rC_ns) EE.1.1 EE.1.2.1 hst EE.ow hcls (by decide +kernel) (EE.hts _ hk) (EE.hts _ hini) hsa (rC_hat (c := x) EE.hts hg hn hca h7) ho h1 h2 hS (hl.1.trans (hlv.trans EE.1.2.2.1.symm)) d0 d3 d4 d7 d10 (fun x hx => (hex x hx).elim) hRf (by simpa [rC_ns] using hRl) hRc.1 hRc.2 EE.2.2.2.2.2.1 (fun t ha hz hk => ⟨(), trivial, ⟨hX.symm, rC_kept hG hk⟩, ⟨Nat.le_trans hS.1 hz, fun q hq hnq => (hk q (Nat.lt_of_lt_of_le hq hS.1)).trans (hS.2.1 q hq hnq)⟩⟩) hS.2.2 hm.1 hm.2
-- ends of a method that may throw
theorem rC_xiret (E : rC_X D cI cZ cO ad gh own cc nL (some .int) p l s m args meth c) {v : Int32} {r : ρ} {XC : String → State → State → Prop} (hQ : Q r = vx_MQ below (rC_qi D cI cZ cO ad gh de (rC_A ad gh s.heap.size) v M) XC args s mc ms (rC_A ad gh s.heap.size)) (hm : cells ≤ mc ∧ slots ≤ ms) (d : decode cc pc = .ok (.ireturn, 1)) : rv_M (rC_G D cI cZ cO ad gh de) (rC_A ad gh s.heap.size) p l e R s m args below meth c cells slots Q (some r) pc lv [.int v] M := by
  intro res h H locs ls hG hS hl
  cases h
  rw [hQ]
  exact W.widen hm.1 hm.2 (vx_ret (W.iret E.1.1.1 E.1.1.2.1 E.1.2.2.2.2.1 (fun t ht hW => ⟨⟨v, M, rfl, ⟨rfl, rfl⟩, by show rC_G D cI cZ cO ad gh de M t.heap; rw [ht]; exact hG⟩, hS.F ht⟩) hS.2.2 d (hlocks := E.1.2.2.2.2.2.1)))
theorem rC_xzret (E : rC_X D cI cZ cO ad gh own cc nL (some .boolean) p l s m args meth c) (b : Bool) {r : ρ} {XC : String → State → State → Prop} (hQ : Q r = vx_MQ below (rC_qi D cI cZ cO ad gh de (rC_A ad gh s.heap.size) (rv_i b) M) XC args s mc ms (rC_A ad gh s.heap.size)) (hm : cells ≤ mc ∧ slots ≤ ms) (d : decode cc pc = .ok (.ireturn, 1)) : rv_M (rC_G D cI cZ cO ad gh de) (rC_A ad gh s.heap.size) p l e R s m args below meth c cells slots Q (some r) pc lv [.int (rv_i b)] M := by
  intro res h H locs ls hG hS hl
  cases h
  rw [hQ]
  exact W.widen hm.1 hm.2 (vx_ret (W.zret E.1.1.1 E.1.1.2.1 E.1.2.2.2.2.1 rv_i_nar (fun t ht hW => ⟨⟨rv_i b, M, rfl, ⟨rfl, rfl⟩, by show rC_G D cI cZ cO ad gh de M t.heap; rw [ht]; exact hG⟩, hS.F ht⟩) hS.2.2 d (hlocks := E.1.2.2.2.2.2.1)))
theorem rC_xlret (E : rC_X D cI cZ cO ad gh own cc nL (some .long) p l s m args meth c) {v : Int64} {r : ρ} {XC : String → State → State → Prop} (hQ : Q r = vx_MQ below (rC_ql D cI cZ cO ad gh de (rC_A ad gh s.heap.size) v M) XC args s mc ms (rC_A ad gh s.heap.size)) (hm : cells ≤ mc ∧ slots ≤ ms) (d : decode cc pc = .ok (.lreturn, 1)) : rv_M (rC_G D cI cZ cO ad gh de) (rC_A ad gh s.heap.size) p l e R s m args below meth c cells slots Q (some r) pc lv [.long v] M := by
  intro res h H locs ls hG hS hl
  cases h
  rw [hQ]
  exact W.widen hm.1 hm.2 (vx_ret (W.lret E.1.1.1 E.1.1.2.1 E.1.2.2.2.2.1 (fun t ht hW => ⟨⟨v, M, rfl, ⟨rfl, rfl⟩, by show rC_G D cI cZ cO ad gh de M t.heap; rw [ht]; exact hG⟩, hS.F ht⟩) hS.2.2 d (hlocks := E.1.2.2.2.2.2.1)))
theorem rC_xvret (E : rC_X D cI cZ cO ad gh own cc nL none p l s m args meth c) {r : ρ} {XC : String → State → State → Prop} (hQ : Q r = vx_MQ below (rC_qv D cI cZ cO ad gh de (rC_A ad gh s.heap.size) M) XC args s mc ms (rC_A ad gh s.heap.size)) (hm : cells ≤ mc ∧ slots ≤ ms) (d : decode cc pc = .ok (.return_, 1)) : rv_M (rC_G D cI cZ cO ad gh de) (rC_A ad gh s.heap.size) p l e R s m args below meth c cells slots Q (some r) pc lv [] M := by
  intro res h H locs ls hG hS hl
  cases h
  rw [hQ]
  exact W.widen hm.1 hm.2 (vx_ret (W.vret E.1.1.1 E.1.1.2.1 E.1.2.2.2.2.1 (fun t ht hW => ⟨⟨M, rfl, rfl, by show rC_G D cI cZ cO ad gh de M t.heap; rw [ht]; exact hG⟩, hS.F ht⟩) hS.2.2 d (hlocks := E.1.2.2.2.2.2.1)))
theorem rC_xaret (E : rC_X D cI cZ cO ad gh own cc nL ret p l s m args meth c) {C : String} (hr : ret = some (.object C)) {k : Nat} {r : ρ} {XC : String → State → State → Prop} (hQ : Q r = vx_MQ below (rC_qr D cI cZ cO ad gh de (rC_A ad gh s.heap.size) k M) XC args s mc ms (rC_A ad gh s.heap.size)) (hm : cells ≤ mc ∧ slots ≤ ms) (d : decode cc pc = .ok (.areturn, 1)) : rv_M (rC_G D cI cZ cO ad gh de) (rC_A ad gh s.heap.size) p l e R s m args below meth c cells slots Q (some r) pc lv [.ref (ad k)] M := by
  intro res h H locs ls hG hS hl
  cases h
  rw [hQ]
  subst hr
  exact W.widen hm.1 hm.2 (vx_ret (W.aret E.1.1.1 E.1.1.2.1 E.1.2.2.2.2.1 (Or.inl ⟨_, rfl⟩) (Or.inr ⟨_, rfl⟩) (fun t ht hW => ⟨⟨M, ad k, rfl, rfl, rfl, by show rC_G D cI cZ cO ad gh de M t.heap; rw [ht]; exact hG⟩, hS.F ht⟩) hS.2.2 d (hlocks := E.1.2.2.2.2.2.1)))
end RX
