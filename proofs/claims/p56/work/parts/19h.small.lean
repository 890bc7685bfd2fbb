/-! SMALL THINGS MADE IN ANY HEAP -/
theorem rJ_metN {l : Launch} {own : String} {y : MethodName} {cc : ByteArray} {maxL : Nat} {ret : Option FieldType} {rm : Room} {P : State → Prop} {vs : List Value} {Qc : Array Value → State → Outcome → State → Prop} {mc ms : Nat} {free : Addr → Prop} (hy : y.cls = own) (hp : plainName own = true) (hnm : y.name = "<init>") (hvn : (rv_lv vs).length ≤ maxL)
    (body : ∀ (p : Program) (e : Env) (s : State) (m : MethodId) (args : Array Value) (below : List Frame) (meth : Method) (c : Code) (ls : Array Slot), CallFix p m c cc maxL s args rv_AL own → meth.name = "<init>" → meth.sig.returnType = ret → meth.locks = false → P s → rv_has ls (rv_lv vs ++ List.replicate (maxL - (rv_lv vs).length) none) → W p l e rm s m args below meth c s.heap [] 0 0 (MQ below Qc args s mc ms free) (F0 m 0 ls [])) : Met l y (rv_ws y cc maxL ret) rm (va_Pc vs P) Qc mc ms free := by
  refine Met.ofW (cc := cc) (maxL := maxL) (ret := ret) (by rw [hy]; exact hp) rfl ?_
  intro p e s m args below meth c s₁ B hml hv
  obtain ⟨rfl, hP⟩ := hv
  have hts := atoms_spec (ws := rv_ws y cc maxL ret) B.pre
  have hown : s.vm.findClass own = some m.cls := by rw [← hy]; exact findClass_of_methodNamed B.named
  rw [lg_entry_eq]
  exact body p e s m vs.toArray below meth c _ ⟨B.exec, B.bytes, hml, hown, fun w hw => hts w (List.mem_cons_of_mem _ hw)⟩ ((name_of_methodNamed B.named B.method).1.trans hnm) B.returns B.notSynchronized hP (rv_entryL vs hvn (lv_entry vs (n := maxL) (by rw [← rv_lv_len]; exact hvn)))
abbrev rm9 : Room := { frames := 1, cells := 0, slots := 0, locals := 24 }
abbrev rm9c : Room := { frames := 1, cells := 1, slots := 80, locals := 24 }
def k9f_X7 (a1 : Int32) (a2 : Int32) (a3 : Int32) (a4 : Int32) (a5 : Int32) : List Value := [.int a1, .int a2, .int a3, .int a4, .int a5]
theorem k9X7 {l : Launch} {D : va_G} {cI cZ cO : ClassId} {q : Nat} {a1 : Int32} {a2 : Int32} {a3 : Int32} {a4 : Int32} {a5 : Int32} : Met l yX7_init (rv_ws yX7_init cX7_init 6 none) rm9 (va_Pc [.ref q, .int a1, .int a2, .int a3, .int a4, .int a5] (fun U => va_K D vwCl [(cI, .int), (cZ, .boolean), (cO, .object "java/lang/Object")] U ∧ va_at D vwCl (q, .inr (8, [.int 0, .int 0, .int 0, .int 0, .int 0])) U.heap)) (va_Qv (fun _ : Unit => True) (fun _ t => va_at D vwCl (q, .inr (8, k9f_X7 a1 a2 a3 a4 a5)) t.heap) (fun a => a = q)) 0 0 (fun a => a = q) := by
  refine rJ_metN (own := RX7) rfl (by decide) rfl (Nat.le_of_ble_eq_true rfl) (fun p e s m args below meth c ls E hnm hret hlk hP hl => ?_)
  obtain ⟨hK, hat⟩ := hP
  change rv_has ls [some (.ref q), some (.int a1), some (.int a2), some (.int a3), some (.int a4), some (.int a5)] at hl
  have hts := E.2.2.2.2
  have hS : va_S (fun a => a = q) s.heap s.heap [] := va_S.rf
  have hP := rJ_1 hat
  have hD := rJ_D1 (A := (fun a => a = q)) (x := (q, .inr (8, [.int 0, .int 0, .int 0, .int 0, .int 0]))) rfl
  refine lv_aload_n E.1 E.2.1 dX7_init_0 rfl (hl.2.2 0 _ rfl) ?_
  refine W.objInit E.1 E.2.1 E.2.2.2.1 (hts _ (rv_al (rv_t6 (List.mem_of_getElem? (i := 28) rfl)) rfl)) (hts _ wK_oi) (hts _ wK_oc) rfl (by show ls.size = c.maxLocals; rw [hl.1, E.2.2.1]; rfl) rfl dX7_init_1 (Nat.le_of_ble_eq_true rfl) (Nat.le_of_ble_eq_true rfl) ?_
  refine lv_aload_n E.1 E.2.1 dX7_init_4 rfl (hl.2.2 0 _ rfl) ?_
  refine lv_iload_n E.1 E.2.1 dX7_init_5 rfl (hl.2.2 1 _ rfl) ?_
  refine va_putF (D := D) (ci := 8) (v := .int a1) (ty := .int) (C := RX7) (T := TX7) (N := 5) E.1 E.2.1 hts wlX7 tyX7 tyX7_ok nmX7 E.2.2.2.1 hK hP hD hS 0 rfl rfl 0 (Nat.le_of_ble_eq_true rfl) (hts _ (rv_al (rv_t6 (List.mem_of_getElem? (i := 29) rfl)) rfl)) (fun _ h9 => h9) rfl hnm rfl rfl rfl rfl (Nat.le_of_ble_eq_true rfl) dX7_init_6 (fun H locs hP hD hS => ?_)
  refine lv_aload_n E.1 E.2.1 dX7_init_9 rfl (hl.2.2 0 _ rfl) ?_
  refine lv_iload_n E.1 E.2.1 dX7_init_10 rfl (hl.2.2 2 _ rfl) ?_
  refine va_putF (D := D) (ci := 8) (v := .int a2) (ty := .int) (C := RX7) (T := TX7) (N := 5) E.1 E.2.1 hts wlX7 tyX7 tyX7_ok nmX7 E.2.2.2.1 hK hP hD hS 0 rfl rfl 1 (Nat.le_of_ble_eq_true rfl) (hts _ (rv_al (rv_t6 (List.mem_of_getElem? (i := 31) rfl)) rfl)) (fun _ h9 => h9) rfl hnm rfl rfl rfl rfl (Nat.le_of_ble_eq_true rfl) dX7_init_11 (fun H locs hP hD hS => ?_)
  refine lv_aload_n E.1 E.2.1 dX7_init_14 rfl (hl.2.2 0 _ rfl) ?_
  refine lv_iload_n E.1 E.2.1 dX7_init_15 rfl (hl.2.2 3 _ rfl) ?_
  refine va_putF (D := D) (ci := 8) (v := .int a3) (ty := .int) (C := RX7) (T := TX7) (N := 5) E.1 E.2.1 hts wlX7 tyX7 tyX7_ok nmX7 E.2.2.2.1 hK hP hD hS 0 rfl rfl 2 (Nat.le_of_ble_eq_true rfl) (hts _ (rv_al (rv_t6 (List.mem_of_getElem? (i := 33) rfl)) rfl)) (fun _ h9 => h9) rfl hnm rfl rfl rfl rfl (Nat.le_of_ble_eq_true rfl) dX7_init_16 (fun H locs hP hD hS => ?_)
  refine lv_aload_n E.1 E.2.1 dX7_init_19 rfl (hl.2.2 0 _ rfl) ?_
  refine lv_iload E.1 E.2.1 dX7_init_20 (hl.2.2 4 _ rfl) ?_
  refine va_putF (D := D) (ci := 8) (v := .int a4) (ty := .int) (C := RX7) (T := TX7) (N := 5) E.1 E.2.1 hts wlX7 tyX7 tyX7_ok nmX7 E.2.2.2.1 hK hP hD hS 0 rfl rfl 3 (Nat.le_of_ble_eq_true rfl) (hts _ (rv_al (rv_t6 (List.mem_of_getElem? (i := 36) rfl)) rfl)) (fun _ h9 => h9) rfl hnm rfl rfl rfl rfl (Nat.le_of_ble_eq_true rfl) dX7_init_22 (fun H locs hP hD hS => ?_)
  refine lv_aload_n E.1 E.2.1 dX7_init_25 rfl (hl.2.2 0 _ rfl) ?_
  refine lv_iload E.1 E.2.1 dX7_init_26 (hl.2.2 5 _ rfl) ?_
  refine va_putF (D := D) (ci := 8) (v := .int a5) (ty := .int) (C := RX7) (T := TX7) (N := 5) E.1 E.2.1 hts wlX7 tyX7 tyX7_ok nmX7 E.2.2.2.1 hK hP hD hS 0 rfl rfl 4 (Nat.le_of_ble_eq_true rfl) (hts _ (rv_al (rv_t6 (List.mem_of_getElem? (i := 39) rfl)) rfl)) (fun _ h9 => h9) rfl hnm rfl rfl rfl rfl (Nat.le_of_ble_eq_true rfl) dX7_init_28 (fun H locs hP hD hS => ?_)
  exact W.vret E.1 E.2.1 hret (fun t ht hW => ⟨⟨(), rfl, trivial, by show va_at D vwCl _ t.heap; rw [ht]; exact hP 0 _ rfl⟩, hS.F ht⟩) hS.2.2 dX7_init_31 (hlocks := hlk)
def k9f_X1 (a1 : Int32) (a2 : Int32) (a3 : Bool) (a4 : Nat) : List Value := [.int a1, .int a2, .int (rv_i a3), .ref a4, .int 0]
theorem k9X1 {l : Launch} {D : va_G} {cI cZ cO : ClassId} {q : Nat} {a1 : Int32} {a2 : Int32} {a3 : Bool} {a4 : Nat} : Met l yX1_init (rv_ws yX1_init cX1_init 5 none) rm9 (va_Pc [.ref q, .int a1, .int a2, .int (rv_i a3), .ref a4] (fun U => va_K D vwCl [(cI, .int), (cZ, .boolean), (cO, .object "java/lang/Object")] U ∧ va_at D vwCl (q, .inr (2, [.int 0, .int 0, .int 0, .null, .int 0])) U.heap)) (va_Qv (fun _ : Unit => True) (fun _ t => va_at D vwCl (q, .inr (2, k9f_X1 a1 a2 a3 a4)) t.heap) (fun a => a = q)) 0 0 (fun a => a = q) := by
  refine rJ_metN (own := RX1) rfl (by decide) rfl (Nat.le_of_ble_eq_true rfl) (fun p e s m args below meth c ls E hnm hret hlk hP hl => ?_)
  obtain ⟨hK, hat⟩ := hP
  change rv_has ls [some (.ref q), some (.int a1), some (.int a2), some (.int (rv_i a3)), some (.ref a4)] at hl
  have hts := E.2.2.2.2
  have hS : va_S (fun a => a = q) s.heap s.heap [] := va_S.rf
  have hP := rJ_1 hat
  have hD := rJ_D1 (A := (fun a => a = q)) (x := (q, .inr (2, [.int 0, .int 0, .int 0, .null, .int 0]))) rfl
  refine lv_aload_n E.1 E.2.1 dX1_init_0 rfl (hl.2.2 0 _ rfl) ?_
  refine W.objInit E.1 E.2.1 E.2.2.2.1 (hts _ (rv_al (rv_t4 (List.mem_of_getElem? (i := 216) rfl)) rfl)) (hts _ wK_oi) (hts _ wK_oc) rfl (by show ls.size = c.maxLocals; rw [hl.1, E.2.2.1]; rfl) rfl dX1_init_1 (Nat.le_of_ble_eq_true rfl) (Nat.le_of_ble_eq_true rfl) ?_
  refine lv_aload_n E.1 E.2.1 dX1_init_4 rfl (hl.2.2 0 _ rfl) ?_
  refine lv_iload_n E.1 E.2.1 dX1_init_5 rfl (hl.2.2 1 _ rfl) ?_
  refine va_putF (D := D) (ci := 2) (v := .int a1) (ty := .int) (C := RX1) (T := TX1) (N := 5) E.1 E.2.1 hts wlX1 tyX1 tyX1_ok nmX1 E.2.2.2.1 hK hP hD hS 0 rfl rfl 0 (Nat.le_of_ble_eq_true rfl) (hts _ (rv_al (rv_t4 (List.mem_of_getElem? (i := 217) rfl)) rfl)) (fun _ h9 => h9) rfl hnm rfl rfl rfl rfl (Nat.le_of_ble_eq_true rfl) dX1_init_6 (fun H locs hP hD hS => ?_)
  refine lv_aload_n E.1 E.2.1 dX1_init_9 rfl (hl.2.2 0 _ rfl) ?_
  refine lv_iload_n E.1 E.2.1 dX1_init_10 rfl (hl.2.2 2 _ rfl) ?_
  refine va_putF (D := D) (ci := 2) (v := .int a2) (ty := .int) (C := RX1) (T := TX1) (N := 5) E.1 E.2.1 hts wlX1 tyX1 tyX1_ok nmX1 E.2.2.2.1 hK hP hD hS 0 rfl rfl 1 (Nat.le_of_ble_eq_true rfl) (hts _ (rv_al (rv_t4 (List.mem_of_getElem? (i := 219) rfl)) rfl)) (fun _ h9 => h9) rfl hnm rfl rfl rfl rfl (Nat.le_of_ble_eq_true rfl) dX1_init_11 (fun H locs hP hD hS => ?_)
  refine lv_aload_n E.1 E.2.1 dX1_init_14 rfl (hl.2.2 0 _ rfl) ?_
  refine lv_iload_n E.1 E.2.1 dX1_init_15 rfl (hl.2.2 3 _ rfl) ?_
  refine va_putF (D := D) (ci := 2) (v := .int (rv_i a3)) (ty := .boolean) (C := RX1) (T := TX1) (N := 5) E.1 E.2.1 hts wlX1 tyX1 tyX1_ok nmX1 E.2.2.2.1 hK hP hD hS 0 rfl rfl 2 (Nat.le_of_ble_eq_true rfl) (hts _ (rv_al (rv_t4 (List.mem_of_getElem? (i := 221) rfl)) rfl)) (fun _ h9 => h9) rfl hnm rfl rfl rv_i_nar (by cases a3 <;> rfl) (Nat.le_of_ble_eq_true rfl) dX1_init_16 (fun H locs hP hD hS => ?_)
  refine lv_aload_n E.1 E.2.1 dX1_init_19 rfl (hl.2.2 0 _ rfl) ?_
  refine lv_aload E.1 E.2.1 dX1_init_20 (hl.2.2 4 _ rfl) ?_
  refine va_putF (D := D) (ci := 2) (v := .ref a4) (ty := .object "ReviewForge$Place") (C := RX1) (T := TX1) (N := 5) E.1 E.2.1 hts wlX1 tyX1 tyX1_ok nmX1 E.2.2.2.1 hK hP hD hS 0 rfl rfl 3 (Nat.le_of_ble_eq_true rfl) (hts _ (rv_al (rv_t4 (List.mem_of_getElem? (i := 223) rfl)) rfl)) (fun _ h9 => h9) rfl hnm rfl rfl rfl rfl (Nat.le_of_ble_eq_true rfl) dX1_init_22 (fun H locs hP hD hS => ?_)
  exact W.vret E.1 E.2.1 hret (fun t ht hW => ⟨⟨(), rfl, trivial, by show va_at D vwCl _ t.heap; rw [ht]; exact hP 0 _ rfl⟩, hS.F ht⟩) hS.2.2 dX1_init_25 (hlocks := hlk)
def k9f_X4 (a1 : Int32) (a2 : Int32) (a3 : Nat) : List Value := [.int a1, .int a2, .ref a3]
theorem k9X4 {l : Launch} {D : va_G} {cI cZ cO : ClassId} {q : Nat} {a1 : Int32} {a2 : Int32} {a3 : Nat} : Met l yX4_init (rv_ws yX4_init cX4_init 4 none) rm9 (va_Pc [.ref q, .int a1, .int a2, .ref a3] (fun U => va_K D vwCl [(cI, .int), (cZ, .boolean), (cO, .object "java/lang/Object")] U ∧ va_at D vwCl (q, .inr (5, [.int 0, .int 0, .null])) U.heap)) (va_Qv (fun _ : Unit => True) (fun _ t => va_at D vwCl (q, .inr (5, k9f_X4 a1 a2 a3)) t.heap) (fun a => a = q)) 0 0 (fun a => a = q) := by
  refine rJ_metN (own := RX4) rfl (by decide) rfl (Nat.le_of_ble_eq_true rfl) (fun p e s m args below meth c ls E hnm hret hlk hP hl => ?_)
  obtain ⟨hK, hat⟩ := hP
  change rv_has ls [some (.ref q), some (.int a1), some (.int a2), some (.ref a3)] at hl
  have hts := E.2.2.2.2
  have hS : va_S (fun a => a = q) s.heap s.heap [] := va_S.rf
  have hP := rJ_1 hat
  have hD := rJ_D1 (A := (fun a => a = q)) (x := (q, .inr (5, [.int 0, .int 0, .null]))) rfl
  refine lv_aload_n E.1 E.2.1 dX4_init_0 rfl (hl.2.2 0 _ rfl) ?_
  refine W.objInit E.1 E.2.1 E.2.2.2.1 (hts _ (rv_al (rv_t6 (List.mem_of_getElem? (i := 213) rfl)) rfl)) (hts _ wK_oi) (hts _ wK_oc) rfl (by show ls.size = c.maxLocals; rw [hl.1, E.2.2.1]; rfl) rfl dX4_init_1 (Nat.le_of_ble_eq_true rfl) (Nat.le_of_ble_eq_true rfl) ?_
  refine lv_aload_n E.1 E.2.1 dX4_init_4 rfl (hl.2.2 0 _ rfl) ?_
  refine lv_iload_n E.1 E.2.1 dX4_init_5 rfl (hl.2.2 1 _ rfl) ?_
  refine va_putF (D := D) (ci := 5) (v := .int a1) (ty := .int) (C := RX4) (T := TX4) (N := 3) E.1 E.2.1 hts wlX4 tyX4 tyX4_ok nmX4 E.2.2.2.1 hK hP hD hS 0 rfl rfl 0 (Nat.le_of_ble_eq_true rfl) (hts _ (rv_al (rv_t6 (List.mem_of_getElem? (i := 214) rfl)) rfl)) (fun _ h9 => h9) rfl hnm rfl rfl rfl rfl (Nat.le_of_ble_eq_true rfl) dX4_init_6 (fun H locs hP hD hS => ?_)
  refine lv_aload_n E.1 E.2.1 dX4_init_9 rfl (hl.2.2 0 _ rfl) ?_
  refine lv_iload_n E.1 E.2.1 dX4_init_10 rfl (hl.2.2 2 _ rfl) ?_
  refine va_putF (D := D) (ci := 5) (v := .int a2) (ty := .int) (C := RX4) (T := TX4) (N := 3) E.1 E.2.1 hts wlX4 tyX4 tyX4_ok nmX4 E.2.2.2.1 hK hP hD hS 0 rfl rfl 1 (Nat.le_of_ble_eq_true rfl) (hts _ (rv_al (rv_t6 (List.mem_of_getElem? (i := 216) rfl)) rfl)) (fun _ h9 => h9) rfl hnm rfl rfl rfl rfl (Nat.le_of_ble_eq_true rfl) dX4_init_11 (fun H locs hP hD hS => ?_)
  refine lv_aload_n E.1 E.2.1 dX4_init_14 rfl (hl.2.2 0 _ rfl) ?_
  refine lv_aload_n E.1 E.2.1 dX4_init_15 rfl (hl.2.2 3 _ rfl) ?_
  refine va_putF (D := D) (ci := 5) (v := .ref a3) (ty := .object "ReviewForge$Place") (C := RX4) (T := TX4) (N := 3) E.1 E.2.1 hts wlX4 tyX4 tyX4_ok nmX4 E.2.2.2.1 hK hP hD hS 0 rfl rfl 2 (Nat.le_of_ble_eq_true rfl) (hts _ (rv_al (rv_t6 (List.mem_of_getElem? (i := 218) rfl)) rfl)) (fun _ h9 => h9) rfl hnm rfl rfl rfl rfl (Nat.le_of_ble_eq_true rfl) dX4_init_16 (fun H locs hP hD hS => ?_)
  exact W.vret E.1 E.2.1 hret (fun t ht hW => ⟨⟨(), rfl, trivial, by show va_at D vwCl _ t.heap; rw [ht]; exact hP 0 _ rfl⟩, hS.F ht⟩) hS.2.2 dX4_init_19 (hlocks := hlk)
def k9f_X0 (a1 a2 a3 : Int32) (qa : Nat) : List Value := [.int a1, .int a2, .int a3, .ref qa, .int 0, .int 0, .int 0, .int 0, .int (-1), .int 0, .int 0, .int 0, .int (-1)]
theorem k9X0 {l : Launch} {D : va_G} {cI cZ cO : ClassId} {q sz : Nat} {a1 : Int32} {a2 : Int32} {a3 : Int32} : Met l yX0_init (rv_ws yX0_init cX0_init 4 none) rm9c (va_Pc [.ref q, .int a1, .int a2, .int a3] (fun U => va_K D vwCl [(cI, .int), (cZ, .boolean), (cO, .object "java/lang/Object")] U ∧ U.heap.size = sz ∧ q < sz ∧ va_at D vwCl (q, .inr (1, [.int 0, .int 0, .int 0, .null, .int 0, .int 0, .int 0, .int 0, .int 0, .int 0, .int 0, .int 0, .int 0])) U.heap)) (va_Qv (fun qa : Nat => sz ≤ qa) (fun qa t => va_at D vwCl (q, .inr (1, k9f_X0 a1 a2 a3 qa)) t.heap ∧ va_at D vwCl (qa, .inl (cI, 80, .inl (fun _ => 0))) t.heap) (fun a => a = q ∨ sz ≤ a)) 1 80 (fun a => a = q ∨ sz ≤ a) := by
  refine rJ_metN (own := RX0) rfl (by decide) rfl (Nat.le_of_ble_eq_true rfl) (fun p e s m args below meth c ls E hnm hret hlk hP hl => ?_)
  obtain ⟨hK, hsz, hlt, hat⟩ := hP
  change rv_has ls [some (.ref q), some (.int a1), some (.int a2), some (.int a3)] at hl
  have hts := E.2.2.2.2
  have hS : va_S (fun a => a = q ∨ sz ≤ a) s.heap s.heap [] := va_S.rf
  refine lv_aload_n E.1 E.2.1 dX0_init_0 rfl (hl.2.2 0 _ rfl) ?_
  refine W.objInit E.1 E.2.1 E.2.2.2.1 (hts _ (rv_al (rv_t3 (List.mem_of_getElem? (i := 143) rfl)) rfl)) (hts _ wK_oi) (hts _ wK_oc) rfl (by show ls.size = c.maxLocals; rw [hl.1, E.2.2.1]; rfl) rfl dX0_init_1 (Nat.le_of_ble_eq_true rfl) (Nat.le_of_ble_eq_true rfl) ?_
  refine lv_aload_n E.1 E.2.1 dX0_init_4 rfl (hl.2.2 0 _ rfl) ?_
  refine lv_bipush (v := 80) E.1 E.2.1 dX0_init_5 (by decide) ?_
  refine va_newaK (atype := .int) (N := 80) E.1 E.2.1 (hts _ wK_arrI) rfl dX0_init_7 rfl (by decide) (by decide) (by decide) (Nat.le_of_ble_eq_true rfl) (Nat.le_of_ble_eq_true rfl) rfl (fun H1 cA e1 z1 o1 hAr hNm => ?_)
  have hcA : cA = cI := Option.some.inj (hNm.symm.trans (hK.2 0 _ rfl).2)
  subst hcA
  have hqn : q < s.heap.size := by rw [hsz]; exact hlt
  have hP := rJ_2 (hat.kept (o1 q hqn)) (show va_at D vwCl (s.heap.size, .inl (cA, 80, .inl (fun _ => 0))) H1 by show H1[s.heap.size]? = some (vp_cell cA (80, .inl (fun _ => 0))); rw [vp_cell_i]; exact e1)
  have hD := rJ_D2 (A := (fun a => a = q ∨ sz ≤ a)) (x := (q, .inr (1, [.int 0, .int 0, .int 0, .null, .int 0, .int 0, .int 0, .int 0, .int 0, .int 0, .int 0, .int 0, .int 0]))) (y := (s.heap.size, .inl (cA, 80, .inl (fun _ => 0)))) (Or.inl rfl) (Or.inr (by rw [hsz]; exact Nat.le_refl _)) (by show q ≠ s.heap.size; omega)
  have hS : va_S (fun a => a = q ∨ sz ≤ a) s.heap H1 [] := ⟨by omega, fun q h1 h2 => o1 q h1, hS.2.2⟩
  refine va_putF (D := D) (ci := 1) (v := .ref s.heap.size) (ty := .array .int) (C := RX0) (T := TX0) (N := 13) E.1 E.2.1 hts wlX0 tyX0 tyX0_ok nmX0 E.2.2.2.1 hK hP hD hS 0 rfl rfl 3 (Nat.le_of_ble_eq_true rfl) (hts _ (rv_al (rv_t3 (List.mem_of_getElem? (i := 152) rfl)) rfl)) (fun _ h9 => h9) rfl hnm rfl rfl rfl rfl (Nat.le_of_ble_eq_true rfl) dX0_init_9 (fun H locs hP hD hS => ?_)
  refine lv_aload_n E.1 E.2.1 dX0_init_12 rfl (hl.2.2 0 _ rfl) ?_
  refine lv_iconst (v := 0) E.1 E.2.1 dX0_init_13 (by decide) ?_
  refine va_put (D := D) (ci := 1) (v := .int 0) (ty := .int) (C := RX0) (T := TX0) (N := 13) E.1 E.2.1 hts wlX0 tyX0 tyX0_ok nmX0 E.2.2.2.1 hK hP hD hS 0 rfl rfl 5 (Nat.le_of_ble_eq_true rfl) (hts _ (rv_al (rv_t3 (List.mem_of_getElem? (i := 156) rfl)) rfl)) (fun _ h9 => h9) rfl rfl rfl rfl (Nat.le_of_ble_eq_true rfl) dX0_init_14 (fun H locs hP hD hS => ?_)
  refine lv_aload_n E.1 E.2.1 dX0_init_17 rfl (hl.2.2 0 _ rfl) ?_
  refine lv_iconst (v := (-1)) E.1 E.2.1 dX0_init_18 (by decide) ?_
  refine va_put (D := D) (ci := 1) (v := .int (-1)) (ty := .int) (C := RX0) (T := TX0) (N := 13) E.1 E.2.1 hts wlX0 tyX0 tyX0_ok nmX0 E.2.2.2.1 hK hP hD hS 0 rfl rfl 8 (Nat.le_of_ble_eq_true rfl) (hts _ (rv_al (rv_t3 (List.mem_of_getElem? (i := 162) rfl)) rfl)) (fun _ h9 => h9) rfl rfl rfl rfl (Nat.le_of_ble_eq_true rfl) dX0_init_19 (fun H locs hP hD hS => ?_)
  refine lv_aload_n E.1 E.2.1 dX0_init_22 rfl (hl.2.2 0 _ rfl) ?_
  refine lv_iconst (v := (-1)) E.1 E.2.1 dX0_init_23 (by decide) ?_
  refine va_put (D := D) (ci := 1) (v := .int (-1)) (ty := .int) (C := RX0) (T := TX0) (N := 13) E.1 E.2.1 hts wlX0 tyX0 tyX0_ok nmX0 E.2.2.2.1 hK hP hD hS 0 rfl rfl 12 (Nat.le_of_ble_eq_true rfl) (hts _ (rv_al (rv_t3 (List.mem_of_getElem? (i := 170) rfl)) rfl)) (fun _ h9 => h9) rfl rfl rfl rfl (Nat.le_of_ble_eq_true rfl) dX0_init_24 (fun H locs hP hD hS => ?_)
  refine lv_aload_n E.1 E.2.1 dX0_init_27 rfl (hl.2.2 0 _ rfl) ?_
  refine lv_iload_n E.1 E.2.1 dX0_init_28 rfl (hl.2.2 1 _ rfl) ?_
  refine va_putF (D := D) (ci := 1) (v := .int a1) (ty := .int) (C := RX0) (T := TX0) (N := 13) E.1 E.2.1 hts wlX0 tyX0 tyX0_ok nmX0 E.2.2.2.1 hK hP hD hS 0 rfl rfl 0 (Nat.le_of_ble_eq_true rfl) (hts _ (rv_al (rv_t3 (List.mem_of_getElem? (i := 144) rfl)) rfl)) (fun _ h9 => h9) rfl hnm rfl rfl rfl rfl (Nat.le_of_ble_eq_true rfl) dX0_init_29 (fun H locs hP hD hS => ?_)
  refine lv_aload_n E.1 E.2.1 dX0_init_32 rfl (hl.2.2 0 _ rfl) ?_
  refine lv_iload_n E.1 E.2.1 dX0_init_33 rfl (hl.2.2 2 _ rfl) ?_
  refine va_putF (D := D) (ci := 1) (v := .int a2) (ty := .int) (C := RX0) (T := TX0) (N := 13) E.1 E.2.1 hts wlX0 tyX0 tyX0_ok nmX0 E.2.2.2.1 hK hP hD hS 0 rfl rfl 1 (Nat.le_of_ble_eq_true rfl) (hts _ (rv_al (rv_t3 (List.mem_of_getElem? (i := 147) rfl)) rfl)) (fun _ h9 => h9) rfl hnm rfl rfl rfl rfl (Nat.le_of_ble_eq_true rfl) dX0_init_34 (fun H locs hP hD hS => ?_)
  refine lv_aload_n E.1 E.2.1 dX0_init_37 rfl (hl.2.2 0 _ rfl) ?_
  refine lv_iload_n E.1 E.2.1 dX0_init_38 rfl (hl.2.2 3 _ rfl) ?_
  refine va_putF (D := D) (ci := 1) (v := .int a3) (ty := .int) (C := RX0) (T := TX0) (N := 13) E.1 E.2.1 hts wlX0 tyX0 tyX0_ok nmX0 E.2.2.2.1 hK hP hD hS 0 rfl rfl 2 (Nat.le_of_ble_eq_true rfl) (hts _ (rv_al (rv_t3 (List.mem_of_getElem? (i := 149) rfl)) rfl)) (fun _ h9 => h9) rfl hnm rfl rfl rfl rfl (Nat.le_of_ble_eq_true rfl) dX0_init_39 (fun H locs hP hD hS => ?_)
  exact W.vret E.1 E.2.1 hret (fun t ht hW => ⟨⟨s.heap.size, rfl, by rw [hsz]; exact Nat.le_refl _, by rw [ht]; exact hP 0 _ rfl, by rw [ht]; exact hP 1 _ rfl⟩, hS.F ht⟩) hS.2.2 dX0_init_42 (hlocks := hlk)
