/-! THE LAW: its world, and the rows of its cases -/
def rl_in (ad : Nat → Nat) (gh : rC_gh) (q : Nat) : Prop := rC_K ad gh q ∨ ∃ i, i < 3 ∧ (q = ad (9 + i) ∨ (0 < gh.1 i ∧ q = ad (9 + i + 44)))
def rl_W (D : va_G) (cI cZ cO cJ : ClassId) (ad2 : Nat → Nat) (de o a0 z0 : Nat) (ad : Nat → Nat) (gh : rC_gh) (MC MR : rv_Mem) (w : Int64) (H : Heap) : Prop := rC_G D cI cZ cO ad gh de MC H ∧ rC_I ad gh ∧ rR_G D cI cZ ad2 MR H ∧ va_at D vwCl (rL_o cJ o w) H ∧ ad 0 = a0 ∧ ∀ q, rl_in ad gh q → z0 ≤ q ∧ q ≠ o ∧ ¬ rR_A ad2 q
def rl_E (D : va_G) (cI cZ cO cJ : ClassId) (ad2 : Nat → Nat) (mi de o b L : Nat) (xs : Nat → Int32) (p : Program) (l : Launch) (s : State) (m : MethodId) (c : Code) : Prop := CallFix p m c code 7 s #[.ref b] rv_AL RL ∧ va_K D vwCl (rL_ty cI cZ cO cJ) s ∧ rC_nw s ∧ rC_tk (fun q => s.heap.size ≤ q) s ∧ rM_tk mi de (fun q => s.heap.size ≤ q) s ∧ rL_xt s ∧ l.stackTraces = false ∧ rR_I ad2 ∧ (va_X b L xs s s.heap ∧ b < s.heap.size) ∧ s.heap.size ≤ o ∧ (∀ q, rR_A ad2 q → s.heap.size ≤ q ∧ q ≠ o) ∧ de < s.heap.size
theorem rl_rM {ad : Nat → Nat} {gh : rC_gh} {sz q : Nat} (h : rM_A ad gh sz q) : rl_in ad gh q ∨ sz ≤ q := by
  rcases h with (h | h) | h
  · exact Or.inl (Or.inl h)
  · exact Or.inr h
  · exact Or.inl (Or.inr h)
theorem rl_gS {own : String} {idx maxL : Nat} {y : MethodName} {cc : ByteArray} {ret : Option FieldType} {hh : List (Nat × Nat × Nat × Nat)} (h1 : Cond.methodLink own idx y ∈ rv_AL) (h2 : Cond.static y ∈ rv_AL) (h4 : Cond.initialized y.cls ∈ rv_AL) (h5 : Cond.codeWith y cc maxL ret hh ∈ rv_AL) : GoodIn rv_AL (va_wsS own idx y (Cond.codeWith y cc maxL ret hh :: rv_AL)) := by
  intro w hw
  have : w ∈ rv_AL := by
    simp only [va_wsS, List.cons_append, List.nil_append, List.mem_cons] at hw
    rcases hw with rfl | rfl | rfl | rfl | h
    · exact h1
    · exact h2
    · exact h4
    · exact h5
    · exact h
  exact ⟨this, rv_good w this⟩
theorem gl_thrown : GoodIn rv_AL (wsV RL 189 RX12 yX12_thrown (rv_ws yX12_thrown cX12_thrown 1 (some .int))) := rv_gV (rv_al (rv_t8 (List.mem_of_getElem? (i := 44) rfl)) rfl) (rv_al (rv_t8 (List.mem_of_getElem? (i := 45) rfl)) rfl) (rv_al (rv_t8 (List.mem_of_getElem? (i := 46) rfl)) rfl) (rv_al (rv_t1 (List.mem_of_getElem? (i := 13) rfl)) rfl) (rv_al (rv_t8 (List.mem_of_getElem? (i := 47) rfl)) rfl)
section RLAW
variable {p : Program} {l : Launch} {e : Env} {s : State} {m : MethodId} {below : List Frame} {meth : Method} {c : Code} {cells slots : Nat} {b L : Nat} {xs : Nat → Int32}
variable {D : va_G} {cI cZ cO cJ : ClassId} {ad2 : Nat → Nat} {mi de o a0 : Nat} {Q : State → Prop} {ad : Nat → Nat} {gh : rC_gh} {MC MR : rv_Mem} {w : Int64} {H : Heap} {locs : List Loc} {ls : Array Slot} {pc : Nat} {lv : List (Option Value)} {st rest : List Value}
variable {y : MethodName} {by_ : ByteArray} {maxL n idx mc ms : Nat} {rt : Option FieldType} {rm : Room} {As : List Value} {hh : List (Nat × Nat × Nat × Nat)}
theorem rl_pre (E : rl_E D cI cZ cO cJ ad2 mi de o b L xs p l s m c) (hW : rl_W D cI cZ cO cJ ad2 de o a0 s.heap.size ad gh MC MR w H) (hS : va_S (fun q => s.heap.size ≤ q) s.heap H locs) : ∀ U : State, U.heap = H → s.WarmedH U.vm → rL_P D cI cZ cO cJ ad gh mi de o H.size MC w U := by
  intro U hU hWm
  have hAB : ∀ q, rM_A ad gh H.size q → s.heap.size ≤ q := fun q h => by
    rcases rl_rM h with h | h
    · exact (hW.2.2.2.2.2 q h).1
    · exact Nat.le_trans hS.1 h
  refine ⟨va_K.moved hWm.alike E.2.1, by rw [hU], by rw [hU]; exact hW.1, E.2.2.1.warm hWm, E.2.2.2.1.warm hU hWm hS (fun q h => hAB q (Or.inl h)), E.2.2.2.2.1.warm hU hWm hS hAB, by rw [hU]; exact hW.2.2.2.1, fun h => ?_, E.2.2.2.2.2.1.moved hWm.alike, ?_⟩
  · rcases rl_rM h with h | h
    · exact (hW.2.2.2.2.2 o h).2.1 rfl
    · exact absurd (show o < H.size from hW.2.2.2.1.lt) (Nat.not_lt.mpr h)
  · have h1 := E.2.2.2.2.2.2.2.2.2.1
    have h2 := E.2.2.2.2.2.2.2.2.2.2.2
    omega
theorem rl_next (E : rl_E D cI cZ cO cJ ad2 mi de o b L xs p l s m c) (hW : rl_W D cI cZ cO cJ ad2 de o a0 s.heap.size ad gh MC MR w H) (hS : va_S (fun q => s.heap.size ≤ q) s.heap H locs) {u : Nat → Nat} {gh' : rC_gh} {M1 : rv_Mem} {w' : Int64} {H1 : Heap} (h0 : u 0 = ad 0) (hI : rC_I u gh') (hs : rM_sub ad u gh gh' H.size) (hG : rC_G D cI cZ cO u gh' de M1 H1) (ho : va_at D vwCl (rL_o cJ o w') H1) (hk : ∀ q : Nat, q < H.size → ¬ rL_A ad gh H.size o q → H1[q]? = H[q]?) : rl_W D cI cZ cO cJ ad2 de o a0 s.heap.size u gh' M1 MR w' H1 := by
  refine ⟨hG, hI, fun k hkd => (hW.2.2.1 k hkd).kept (hk _ (hW.2.2.1 k hkd).lt (fun z => ?_)), ho, h0.trans hW.2.2.2.2.1, fun q hq => ?_⟩
  · have hr : rR_A ad2 (ad2 k) := ⟨k, hkd, rfl⟩
    rcases z with z | z
    · rcases rl_rM z with z | z
      · exact (hW.2.2.2.2.2 _ z).2.2 hr
      · exact absurd (show ad2 k < H.size from (hW.2.2.1 k hkd).lt) (Nat.not_lt.mpr z)
    · exact (E.2.2.2.2.2.2.2.2.2.2.1 _ hr).2 z
  · rcases rl_rM (hs q hq) with z | z
    · exact hW.2.2.2.2.2 q z
    · refine ⟨Nat.le_trans hS.1 z, fun h => ?_, fun h => ?_⟩
      · exact absurd (show o < H.size from hW.2.2.2.1.lt) (by omega)
      · obtain ⟨k, hkd, rfl⟩ := h
        exact absurd (show ad2 k < H.size from (hW.2.2.1 k hkd).lt) (Nat.not_lt.mpr z)
theorem rl_AA (E : rl_E D cI cZ cO cJ ad2 mi de o b L xs p l s m c) (hW : rl_W D cI cZ cO cJ ad2 de o a0 s.heap.size ad gh MC MR w H) (hS : va_S (fun q => s.heap.size ≤ q) s.heap H locs) : ∀ q, rL_A ad gh H.size o q → s.heap.size ≤ q := fun q h => by
  rcases h with h | h
  · rcases rl_rM h with h | h
    · exact (hW.2.2.2.2.2 q h).1
    · exact Nat.le_trans hS.1 h
  · rw [h]; exact E.2.2.2.2.2.2.2.2.2.1
/-- a method of the law that answers 0 -/
theorem rl_ok (E : rl_E D cI cZ cO cJ ad2 mi de o b L xs p l s m c) (hW : rl_W D cI cZ cO cJ ad2 de o a0 s.heap.size ad gh MC MR w H) (hS : va_S (fun q => s.heap.size ≤ q) s.heap H locs) {gh' : rC_gh} {M1 : rv_Mem} {w' : Int64} (hM : ∀ sz, Met l y (Cond.codeWith y by_ maxL (some .int) hh :: rv_AL) rm (va_Pc (.ref (ad 0) :: As) (rL_P D cI cZ cO cJ ad gh mi de o sz MC w)) (rL_qo D cI cZ cO cJ ad gh de o sz gh' M1 w') mc ms (rL_A ad gh sz o)) (cg : GoodIn rv_AL (va_wsS RL idx y (Cond.codeWith y by_ maxL (some .int) hh :: rv_AL))) (hd : y.cls ≠ "java/lang/invoke/MethodHandle" ∧ y.cls ≠ "java/lang/invoke/VarHandle" ∧ (parseMethodDescriptor y.desc).map (fun d => d.parameters.length) = some n) (hrm : rm.cells = mc ∧ rm.slots = ms) (hR : rm.frames + 1 ≤ room_1.frames ∧ 8 + (maxL + 11) + rm.locals ≤ room_1.locals) (hcs : cells + mc ≤ room_1.cells ∧ slots + ms ≤ room_1.slots) (hn : (.ref (ad 0) :: As : List Value).length = n) (hl : rv_has ls lv) (hlv : lv.length = 7) (hst : st = (.ref a0 :: As : List Value).reverse ++ rest) (hrs : (rest.map fun v => v.category).sum ≤ 8) (d : decode code pc = .ok (.invokestatic idx, 3))
    (kk : ∀ (u : Nat → Nat) (H1 : Heap) (locs1 : List Loc), rl_W D cI cZ cO cJ ad2 de o a0 s.heap.size u gh' M1 MR w' H1 → va_S (fun q => s.heap.size ≤ q) s.heap H1 locs1 → W p l e room_1 s m #[.ref b] below meth c H1 locs1 (cells + mc) (slots + ms) Q (F0 m (pc + 3) ls (.int 0 :: rest))) : W p l e room_1 s m #[.ref b] below meth c H locs cells slots Q (F0 m pc ls st) := by
  subst hst
  have h0 := hW.2.2.2.2.1
  subst h0
  refine va_calli (vx_runSW (As := .ref (ad 0) :: As) (rest := rest) E.1 (hM H.size) (vx_cwSW n E.1.2.2.2.2 cg rfl hrm.1 hrm.2 hd hR) ⟨rL_P.bl, fun U hU hWm => ⟨rfl, rl_pre E hW hS U hU hWm⟩⟩ rfl hn (hl.1.trans hlv) rfl (by simpa using hrs) d hcs) hS (fun q _ h => rl_AA E hW hS q h) (rl_AA E hW hS) (fun r u t H1 locs1 ht hvm hw hB hz1 hk1 hS1 => ?_)
  obtain ⟨rfl, h1, h2, h3⟩ := hw
  obtain ⟨hB1, hB2⟩ := hB
  rw [ht] at hB1 hB2
  exact kk u H1 locs1 (rl_next E hW hS h1 h2 h3 hB1 hB2 hk1) hS1
/-- a method of the law that tells an exception -/
theorem rl_ex (E : rl_E D cI cZ cO cJ ad2 mi de o b L xs p l s m c) (hW : rl_W D cI cZ cO cJ ad2 de o a0 s.heap.size ad gh MC MR w H) (hS : va_S (fun q => s.heap.size ≤ q) s.heap H locs) {k : Int32} {M1 : rv_Mem} (hM : ∀ sz, Met l y (Cond.codeWith y by_ maxL (some .int) hh :: rv_AL) rm (va_Pc (.ref (ad 0) :: As) (rL_P D cI cZ cO cJ ad gh mi de o sz MC w)) (rL_qx D cI cZ cO cJ ad gh de o sz k M1 w) mc ms (rL_A ad gh sz o)) (cg : GoodIn rv_AL (va_wsS RL idx y (Cond.codeWith y by_ maxL (some .int) hh :: rv_AL))) (hd : y.cls ≠ "java/lang/invoke/MethodHandle" ∧ y.cls ≠ "java/lang/invoke/VarHandle" ∧ (parseMethodDescriptor y.desc).map (fun d => d.parameters.length) = some n) (hrm : rm.cells = mc ∧ rm.slots = ms) (hR : rm.frames + 1 ≤ room_1.frames ∧ 8 + (maxL + 11) + rm.locals ≤ room_1.locals) (hcs : cells + mc ≤ room_1.cells ∧ slots + ms ≤ room_1.slots) (hn : (.ref (ad 0) :: As : List Value).length = n) (hl : rv_has ls lv) (hlv : lv.length = 7) (hst : st = (.ref a0 :: As : List Value).reverse ++ rest) (hrs : (rest.map fun v => v.category).sum ≤ 8) (d : decode code pc = .ok (.invokestatic idx, 3))
    (kk : ∀ (H1 : Heap) (locs1 : List Loc), rl_W D cI cZ cO cJ ad2 de o a0 s.heap.size ad gh M1 MR w H1 → va_S (fun q => s.heap.size ≤ q) s.heap H1 locs1 → W p l e room_1 s m #[.ref b] below meth c H1 locs1 (cells + mc) (slots + ms) Q (F0 m (pc + 3) ls (.int k :: rest))) : W p l e room_1 s m #[.ref b] below meth c H locs cells slots Q (F0 m pc ls st) := by
  subst hst
  have h0 := hW.2.2.2.2.1
  subst h0
  refine va_calli (vx_runSW (As := .ref (ad 0) :: As) (rest := rest) E.1 (hM H.size) (vx_cwSW n E.1.2.2.2.2 cg rfl hrm.1 hrm.2 hd hR) ⟨rL_P.bl, fun U hU hWm => ⟨rfl, rl_pre E hW hS U hU hWm⟩⟩ rfl hn (hl.1.trans hlv) rfl (by simpa using hrs) d hcs) hS (fun q _ h => rl_AA E hW hS q h) (rl_AA E hW hS) (fun r u t H1 locs1 ht hvm hw hB hz1 hk1 hS1 => ?_)
  subst hw
  obtain ⟨hB1, hB2⟩ := hB
  rw [ht] at hB1 hB2
  exact kk H1 locs1 (rl_next E hW hS rfl hW.2.1 rM_sub_rf hB1 hB2 hk1) hS1
/-- a method of the class that asks alone -/
theorem rl_callN (E : rl_E D cI cZ cO cJ ad2 mi de o b L xs p l s m c) (hW : rl_W D cI cZ cO cJ ad2 de o a0 s.heap.size ad gh MC MR w H) (hS : va_S (fun q => s.heap.size ≤ q) s.heap H locs) {v : Int32} (hM : Met l y (rv_ws y by_ maxL rt) rm (rC_Pc D cI cZ cO ad gh de (.ref (ad 0) :: As) MC) (rC_QI D cI cZ cO ad gh de v MC) 0 0 (rC_K ad gh)) (cg : GoodIn rv_AL (wsV RL idx RX11 y (rv_ws y by_ maxL rt))) (hd : y.cls = RX11 ∧ y.cls ≠ "java/lang/invoke/MethodHandle" ∧ y.cls ≠ "java/lang/invoke/VarHandle" ∧ (parseMethodDescriptor y.desc).map (fun d => d.parameters.length) = some n) (hrm : rm.cells = 0 ∧ rm.slots = 0) (hR : rm.frames + 1 ≤ room_1.frames ∧ 8 + (maxL + 11) + rm.locals ≤ room_1.locals) (hcs : cells ≤ room_1.cells ∧ slots ≤ room_1.slots) (hn : As.length = n) (hl : rv_has ls lv) (hlv : lv.length = 7) (hst : st = As.reverse ++ .ref a0 :: rest) (hrs : (rest.map fun v => v.category).sum ≤ 8) (d : decode code pc = .ok (.invokevirtual idx, 3))
    (kk : ∀ (H1 : Heap) (locs1 : List Loc), rl_W D cI cZ cO cJ ad2 de o a0 s.heap.size ad gh MC MR w H1 → va_S (fun q => s.heap.size ≤ q) s.heap H1 locs1 → W p l e room_1 s m #[.ref b] below meth c H1 locs1 cells slots Q (F0 m (pc + 3) ls (.int v :: rest))) : W p l e room_1 s m #[.ref b] below meth c H locs cells slots Q (F0 m pc ls st) := by
  subst hst
  have h0 := hW.2.2.2.2.1
  subst h0
  have hK3 : va_K D vwCl [(cI, .int), (cZ, .boolean), (cO, .object "java/lang/Object")] s := E.2.1.sub (tys' := [(cI, .int), (cZ, .boolean), (cO, .object "java/lang/Object")]) [0, 1, 2] rfl
  have hAA : ∀ q, rC_K ad gh q → s.heap.size ≤ q := fun q h => (hW.2.2.2.2.2 q (Or.inl h)).1
  refine va_calli (va_runV (C := RX11) (b := ad 0) (As := As) (rest := rest) E.1 hM (cwV n E.1.2.2.2.2 cg rfl hrm.1 hrm.2 hd hR) ⟨rC_blind, va_recv E.2.1 (rC_atP (C := RX11) (T := TX11) (N := 12) (ci := 12) (k := 0) hW.1 ⟨rfl, rfl⟩) (ci := 12) (q0 := 0) rfl rfl, fun U hU hWm => ⟨rfl, by rw [hU]; exact hW.1, va_K.moved hWm.alike hK3, E.2.2.1.warm hWm⟩⟩ rfl hn (hl.1.trans hlv) rfl (by simpa using hrs) d hcs) hS (fun q _ h => hAA q h) hAA (fun r u t H1 locs1 ht hvm hw hB hz1 hk1 hS1 => ?_)
  obtain ⟨rfl, rfl⟩ := hw
  rw [ht] at hB
  have hko : ∀ q : Nat, q < H.size → ¬ rL_A ad gh H.size o q → H1[q]? = H[q]? := fun q h1 h2 => hk1 q h1 (fun z => h2 (Or.inl (Or.inl (Or.inl z))))
  have ho : va_at D vwCl (rL_o cJ o w) H1 := hW.2.2.2.1.kept (hk1 _ hW.2.2.2.1.lt (fun z => (hW.2.2.2.2.2 o (Or.inl z)).2.1 rfl))
  exact kk H1 locs1 (rl_next E hW hS rfl hW.2.1 rM_sub_rf hB ho hko) hS1
/-- a method of the reference -/
theorem rl_callR (E : rl_E D cI cZ cO cJ ad2 mi de o b L xs p l s m c) (hW : rl_W D cI cZ cO cJ ad2 de o a0 s.heap.size ad gh MC MR w H) (hS : va_S (fun q => s.heap.size ≤ q) s.heap H locs) {v : Int32} {M1 : rv_Mem} (hM : Met l y (rv_ws y by_ maxL rt) rm (rR_Pc D cI cZ ad2 (.ref (ad2 67) :: As) MR) (rR_QI D cI cZ ad2 v M1) 0 0 (rR_A ad2)) (cg : GoodIn rv_AL (wsV RL idx RX12 y (rv_ws y by_ maxL rt))) (hd : y.cls = RX12 ∧ y.cls ≠ "java/lang/invoke/MethodHandle" ∧ y.cls ≠ "java/lang/invoke/VarHandle" ∧ (parseMethodDescriptor y.desc).map (fun d => d.parameters.length) = some n) (hrm : rm.cells = 0 ∧ rm.slots = 0) (hR : rm.frames + 1 ≤ room_1.frames ∧ 8 + (maxL + 11) + rm.locals ≤ room_1.locals) (hcs : cells ≤ room_1.cells ∧ slots ≤ room_1.slots) (hn : As.length = n) (hl : rv_has ls lv) (hlv : lv.length = 7) (hst : st = As.reverse ++ .ref (ad2 67) :: rest) (hrs : (rest.map fun v => v.category).sum ≤ 8) (d : decode code pc = .ok (.invokevirtual idx, 3))
    (kk : ∀ (H1 : Heap) (locs1 : List Loc), rl_W D cI cZ cO cJ ad2 de o a0 s.heap.size ad gh MC M1 w H1 → va_S (fun q => s.heap.size ≤ q) s.heap H1 locs1 → W p l e room_1 s m #[.ref b] below meth c H1 locs1 cells slots Q (F0 m (pc + 3) ls (.int v :: rest))) : W p l e room_1 s m #[.ref b] below meth c H locs cells slots Q (F0 m pc ls st) := by
  subst hst
  have hK2 : va_K D vwCl [(cI, .int), (cZ, .boolean)] s := E.2.1.sub (tys' := [(cI, .int), (cZ, .boolean)]) [0, 1] rfl
  have hP : va_P D vwCl [(ad2 67, .inr (13, rR_fl ad2 MR))] H := rJ_1 (hW.2.2.1 67 rfl)
  have hAA : ∀ q, rR_A ad2 q → s.heap.size ≤ q := fun q h => (E.2.2.2.2.2.2.2.2.2.2.1 q h).1
  refine va_calli (va_runV (C := RX12) (b := ad2 67) (As := As) (rest := rest) E.1 hM (cwV n E.1.2.2.2.2 cg rfl hrm.1 hrm.2 hd hR) ⟨rR_blind, va_recv E.2.1 hP (ci := 13) (q0 := 0) rfl rfl, fun U hU hWm => ⟨rfl, by rw [hU]; exact hW.2.2.1, va_K.moved hWm.alike hK2⟩⟩ rfl hn (hl.1.trans hlv) rfl (by simpa using hrs) d hcs) hS (fun q _ h => hAA q h) hAA (fun r u t H1 locs1 ht hvm hw hB hz1 hk1 hS1 => ?_)
  obtain ⟨rfl, rfl⟩ := hw
  rw [ht] at hB
  have ho : va_at D vwCl (rL_o cJ o w) H1 := hW.2.2.2.1.kept (hk1 _ hW.2.2.2.1.lt (fun z => (E.2.2.2.2.2.2.2.2.2.2.1 _ z).2 rfl))
  have hC : rC_G D cI cZ cO ad gh de MC H1 := by
    refine ⟨fun k hk => (hW.1.1 k hk).kept (hk1 _ (hW.1.1 k hk).lt (fun z => (hW.2.2.2.2.2 _ (Or.inl ⟨k, hk, rfl⟩)).2.2 z)), fun i hi => ?_⟩
    obtain ⟨cap, mc9, f, h1, h2, h3⟩ := hW.1.2 i hi
    refine ⟨cap, mc9, f, h1.kept (hk1 _ h1.lt (fun z => (hW.2.2.2.2.2 _ (Or.inr ⟨i, hi, Or.inl rfl⟩)).2.2 z)), h2.kept (hk1 _ h2.lt (fun z => ?_)), h3⟩
    have z : rR_A ad2 (ad (9 + i + 44)) := z
    rcases Nat.eq_zero_or_pos (gh.1 i) with h0 | h0
    · have h9 := (E.2.2.2.2.2.2.2.2.2.2.1 _ z).1
      rw [(h3.2.2.1 h0).1] at h9
      exact absurd E.2.2.2.2.2.2.2.2.2.2.2 (Nat.not_lt.mpr h9)
    · exact (hW.2.2.2.2.2 _ (Or.inr ⟨i, hi, Or.inr ⟨h0, rfl⟩⟩)).2.2 z
  exact kk H1 locs1 ⟨hC, hW.2.1, hB, ho, hW.2.2.2.2.1, hW.2.2.2.2.2⟩ hS1
/-- an int of the script -/
theorem rl_arg (E : rl_E D cI cZ cO cJ ad2 mi de o b L xs p l s m c) (hS : va_S (fun q => s.heap.size ≤ q) s.heap H locs) {j : Int} {t jj : Nat} (hl0 : ls[0]? = some (.val (.ref b))) (hl4 : ls[4]? = some (.val (.int (nI t)))) (ht : t + jj < L) (hL : L ≤ 4096) (hj : Int32.ofInt j = nI jj) (d0 : decode code pc = .ok (.aload_n 0, 1)) (d1 : decode code (pc + 1) = .ok (.iload 4, 2)) (d3 : decode code (pc + 3) = .ok (.iconst j, 1)) (d4 : decode code (pc + 4) = .ok (.iadd, 1)) (d5 : decode code (pc + 5) = .ok (.iaload, 1)) (kk : W p l e room_1 s m #[.ref b] below meth c H locs cells slots Q (F0 m (pc + 6) ls (.int (xs (t + jj)) :: st))) : W p l e room_1 s m #[.ref b] below meth c H locs cells slots Q (F0 m pc ls st) := by
  refine lv_aload_n E.1.1 E.1.2.1 d0 rfl hl0 ?_
  refine lv_iload E.1.1 E.1.2.1 d1 hl4 ?_
  refine lv_iconst (v := nI jj) E.1.1 E.1.2.1 d3 hj ?_
  refine lv_iadd E.1.1 E.1.2.1 d4 ?_
  rw [nI_add]
  refine va_sld E.1.1 E.1.2.1 E.2.2.2.2.2.2.2.2.1.1 E.2.2.2.2.2.2.2.2.1.2 (fun z => absurd E.2.2.2.2.2.2.2.2.1.2 (Nat.not_lt.mpr z)) hS (nI_in ht (by omega)) d5 ?_
  rw [nI_clamp (by omega)]
  exact kk
theorem rl_argb (E : rl_E D cI cZ cO cJ ad2 mi de o b L xs p l s m c) (hS : va_S (fun q => s.heap.size ≤ q) s.heap H locs) {j : Int} {t jj : Nat} (hl0 : ls[0]? = some (.val (.ref b))) (hl4 : ls[4]? = some (.val (.int (nI t)))) (ht : t + jj < L) (hL : L ≤ 4096) (hj : (Int8.ofInt j).toInt32 = nI jj) (d0 : decode code pc = .ok (.aload_n 0, 1)) (d1 : decode code (pc + 1) = .ok (.iload 4, 2)) (d3 : decode code (pc + 3) = .ok (.bipush j, 2)) (d4 : decode code (pc + 5) = .ok (.iadd, 1)) (d5 : decode code (pc + 6) = .ok (.iaload, 1)) (kk : W p l e room_1 s m #[.ref b] below meth c H locs cells slots Q (F0 m (pc + 7) ls (.int (xs (t + jj)) :: st))) : W p l e room_1 s m #[.ref b] below meth c H locs cells slots Q (F0 m pc ls st) := by
  refine lv_aload_n E.1.1 E.1.2.1 d0 rfl hl0 ?_
  refine lv_iload E.1.1 E.1.2.1 d1 hl4 ?_
  refine lv_bipush (v := nI jj) E.1.1 E.1.2.1 d3 hj ?_
  refine lv_iadd E.1.1 E.1.2.1 d4 ?_
  rw [nI_add]
  refine va_sld E.1.1 E.1.2.1 E.2.2.2.2.2.2.2.2.1.1 E.2.2.2.2.2.2.2.2.1.2 (fun z => absurd E.2.2.2.2.2.2.2.2.1.2 (Nat.not_lt.mpr z)) hS (nI_in ht (by omega)) d5 ?_
  rw [nI_clamp (by omega)]
  exact kk
/-- an int of the script, as a truth -/
theorem rl_bool (E : rl_E D cI cZ cO cJ ad2 mi de o b L xs p l s m c) {x : Int32} {f1 f2 : Int} {t1 t2 : Nat} (d0 : decode code pc = .ok (.ifCond .eq f1, 3)) (h1 : (pc : Int) + f1 = (t1 : Int)) (d1 : decode code (pc + 3) = .ok (.iconst 1, 1)) (d2 : decode code (pc + 4) = .ok (.goto f2, 3)) (h2 : ((pc + 4 : Nat) : Int) + f2 = (t2 : Int)) (d3 : decode code t1 = .ok (.iconst 0, 1)) (h3 : t1 + 1 = t2) (kk : W p l e room_1 s m #[.ref b] below meth c H locs cells slots Q (F0 m t2 ls (.int (rv_i (decide (x ≠ 0))) :: st))) : W p l e room_1 s m #[.ref b] below meth c H locs cells slots Q (F0 m pc ls (.int x :: st)) := by
  subst h3
  refine lv_if_eq (tgt := t1) E.1.1 E.1.2.1 d0 h1 (fun hz => ?_) (fun hz => ?_)
  · refine lv_iconst (v := 0) E.1.1 E.1.2.1 d3 (by decide) ?_
    rw [decide_eq_false (fun z => z hz)] at kk
    exact kk
  · refine lv_iconst (v := 1) E.1.1 E.1.2.1 d1 (by decide) ?_
    refine lv_goto (tgt := t1 + 1) E.1.1 E.1.2.1 d2 h2 ?_
    rw [decide_eq_true (show x ≠ 0 from hz)] at kk
    exact kk
/-- the two are compared: they told the same, .. -/
theorem rl_told (E : rl_E D cI cZ cO cJ ad2 mi de o b L xs p l s m c) (hW : rl_W D cI cZ cO cJ ad2 de o a0 s.heap.size ad gh MC MR w H) (hS : va_S (fun q => s.heap.size ≤ q) s.heap H locs) (hcs : cells ≤ room_1.cells ∧ slots ≤ room_1.slots) {k : Int32} (hl : rv_has ls lv) (hlv : lv.length = 7) (hl2 : ls[2]? = some (.val (.ref (ad2 67)))) (hl5 : ls[5]? = some (.val (.int k))) (hk : MR 66 0 = k) (d0 : decode code pc = .ok (.aload_n 2, 1)) (d1 : decode code (pc + 1) = .ok (.invokevirtual 189, 3)) (d4 : decode code (pc + 4) = .ok (.iload 5, 2)) (d6 : decode code (pc + 6) = .ok (.if_icmp .eq 5, 3)) (kk : ∀ (H1 : Heap) (locs1 : List Loc), rl_W D cI cZ cO cJ ad2 de o a0 s.heap.size ad gh MC MR w H1 → va_S (fun q => s.heap.size ≤ q) s.heap H1 locs1 → W p l e room_1 s m #[.ref b] below meth c H1 locs1 cells slots Q (F0 m (pc + 11) ls [])) : W p l e room_1 s m #[.ref b] below meth c H locs cells slots Q (F0 m pc ls []) := by
  refine lv_aload_n E.1.1 E.1.2.1 d0 rfl hl2 ?_
  refine rl_callR (As := []) (rest := []) (lv := lv) E hW hS (c12_thrown E.2.2.2.2.2.2.2.1 rfl) gl_thrown (n := 0) (by decide +kernel) ⟨rfl, rfl⟩ ⟨Nat.le_of_ble_eq_true rfl, Nat.le_of_ble_eq_true rfl⟩ hcs rfl hl hlv rfl (Nat.zero_le _) d1 (fun H1 locs1 hW1 hS1 => ?_)
  refine lv_iload E.1.1 E.1.2.1 d4 hl5 ?_
  refine lv_icmp_eq (tgt := pc + 11) E.1.1 E.1.2.1 d6 (by omega) (fun _ => kk H1 locs1 hW1 hS1) (fun z => absurd hk z)
theorem rl_cmp (x : Int64) : lg_cmp x x = 0 := by
  unfold lg_cmp
  simp
/-- .. and, where it is 0, answered the same -/
theorem rl_same (E : rl_E D cI cZ cO cJ ad2 mi de o b L xs p l s m c) (hW : rl_W D cI cZ cO cJ ad2 de o a0 s.heap.size ad gh MC MR w H) {k v : Int32} {f1 : Int} {tg : Nat} (hl3 : ls[3]? = some (.val (.ref o))) (hl5 : ls[5]? = some (.val (.int k))) (hl6 : ls[6]? = some (.val (.int v))) (hkv : k = 0 → w = v.toInt64) (d0 : decode code pc = .ok (.iload 5, 2)) (d2 : decode code (pc + 2) = .ok (.ifCond .ne 15, 3)) (d5 : decode code (pc + 5) = .ok (.aload_n 3, 1)) (d6 : decode code (pc + 6) = .ok (.iconst 0, 1)) (d7 : decode code (pc + 7) = .ok (.laload, 1)) (d8 : decode code (pc + 8) = .ok (.iload 6, 2)) (d10 : decode code (pc + 10) = .ok (.i2l, 1)) (d11 : decode code (pc + 11) = .ok (.lcmp, 1)) (d12 : decode code (pc + 12) = .ok (.ifCond .eq 5, 3)) (d17 : decode code (pc + 17) = .ok (.goto f1, 3)) (h1 : ((pc + 17 : Nat) : Int) + f1 = (tg : Int)) (kk : W p l e room_1 s m #[.ref b] below meth c H locs cells slots Q (F0 m tg ls [])) : W p l e room_1 s m #[.ref b] below meth c H locs cells slots Q (F0 m pc ls []) := by
  have hgo : W p l e room_1 s m #[.ref b] below meth c H locs cells slots Q (F0 m (pc + 17) ls []) := lv_goto (tgt := tg) E.1.1 E.1.2.1 d17 h1 kk
  refine lv_iload E.1.1 E.1.2.1 d0 hl5 ?_
  refine lv_if_ne (tgt := pc + 17) E.1.1 E.1.2.1 d2 (by omega) (fun _ => hgo) (fun hz => ?_)
  refine lv_aload_n E.1.1 E.1.2.1 d5 rfl hl3 ?_
  refine lv_iconst (v := 0) E.1.1 E.1.2.1 d6 (by decide) ?_
  refine va_lald E.1.1 E.1.2.1 E.2.1 (rJ_1 hW.2.2.2.1) 0 3 rfl rfl (by show ¬ ((0 : Int32) < 0 ∨ 1 ≤ (0 : Int32).toNatClampNeg); decide) d7 ?_
  refine lv_iload E.1.1 E.1.2.1 d8 hl6 ?_
  refine lv_i2l E.1.1 E.1.2.1 d10 rfl ?_
  refine W.lcmp E.1.1 E.1.2.1 d11 ?_
  rw [hkv hz, rl_cmp]
  exact lv_if_eq (tgt := pc + 17) E.1.1 E.1.2.1 d12 (by omega) (fun _ => hgo) (fun z => absurd rfl z)
theorem rl_sameb (E : rl_E D cI cZ cO cJ ad2 mi de o b L xs p l s m c) (hW : rl_W D cI cZ cO cJ ad2 de o a0 s.heap.size ad gh MC MR w H) {k : Int32} {v : Bool} {f1 : Int} {tg : Nat} (hl3 : ls[3]? = some (.val (.ref o))) (hl5 : ls[5]? = some (.val (.int k))) (hl6 : ls[6]? = some (.val (.int (rv_i v)))) (hkv : k = 0 → w = if v = true then 1 else 0) (d0 : decode code pc = .ok (.iload 5, 2)) (d2 : decode code (pc + 2) = .ok (.ifCond .ne 22, 3)) (d5 : decode code (pc + 5) = .ok (.aload_n 3, 1)) (d6 : decode code (pc + 6) = .ok (.iconst 0, 1)) (d7 : decode code (pc + 7) = .ok (.laload, 1)) (d8 : decode code (pc + 8) = .ok (.iload 6, 2)) (d10 : decode code (pc + 10) = .ok (.ifCond .eq 7, 3)) (d13 : decode code (pc + 13) = .ok (.lconst 1, 1)) (d14 : decode code (pc + 14) = .ok (.goto 4, 3)) (d17 : decode code (pc + 17) = .ok (.lconst 0, 1)) (d18 : decode code (pc + 18) = .ok (.lcmp, 1)) (d19 : decode code (pc + 19) = .ok (.ifCond .eq 5, 3)) (d24 : decode code (pc + 24) = .ok (.goto f1, 3)) (h1 : ((pc + 24 : Nat) : Int) + f1 = (tg : Int)) (kk : W p l e room_1 s m #[.ref b] below meth c H locs cells slots Q (F0 m tg ls [])) : W p l e room_1 s m #[.ref b] below meth c H locs cells slots Q (F0 m pc ls []) := by
  have hgo : W p l e room_1 s m #[.ref b] below meth c H locs cells slots Q (F0 m (pc + 24) ls []) := lv_goto (tgt := tg) E.1.1 E.1.2.1 d24 h1 kk
  refine lv_iload E.1.1 E.1.2.1 d0 hl5 ?_
  refine lv_if_ne (tgt := pc + 24) E.1.1 E.1.2.1 d2 (by omega) (fun _ => hgo) (fun hz => ?_)
  refine lv_aload_n E.1.1 E.1.2.1 d5 rfl hl3 ?_
  refine lv_iconst (v := 0) E.1.1 E.1.2.1 d6 (by decide) ?_
  refine va_lald E.1.1 E.1.2.1 E.2.1 (rJ_1 hW.2.2.2.1) 0 3 rfl rfl (by show ¬ ((0 : Int32) < 0 ∨ 1 ≤ (0 : Int32).toNatClampNeg); decide) d7 ?_
  refine lv_iload E.1.1 E.1.2.1 d8 hl6 ?_
  rw [hkv hz]
  cases v with
  | true =>
    refine lv_if_eq (tgt := pc + 17) E.1.1 E.1.2.1 d10 (by omega) (fun z => absurd z (by decide)) (fun _ => ?_)
    refine lv_lconst (v := 1) E.1.1 E.1.2.1 d13 (by decide) ?_
    refine lv_goto (tgt := pc + 18) E.1.1 E.1.2.1 d14 (by omega) ?_
    refine W.lcmp E.1.1 E.1.2.1 d18 ?_
    rw [if_pos rfl, rl_cmp]
    exact lv_if_eq (tgt := pc + 24) E.1.1 E.1.2.1 d19 (by omega) (fun _ => hgo) (fun z => absurd rfl z)
  | false =>
    refine lv_if_eq (tgt := pc + 17) E.1.1 E.1.2.1 d10 (by omega) (fun _ => ?_) (fun z => absurd rfl z)
    refine lv_lconst (v := 0) E.1.1 E.1.2.1 d17 (by decide) ?_
    refine W.lcmp E.1.1 E.1.2.1 d18 ?_
    rw [if_neg (by decide), rl_cmp]
    exact lv_if_eq (tgt := pc + 24) E.1.1 E.1.2.1 d19 (by omega) (fun _ => hgo) (fun z => absurd rfl z)
end RLAW
