abbrev rm11_countUnresolved : Room := { frames := 5, cells := 0, slots := 0, locals := 125 }
set_option maxRecDepth 100000 in
theorem b11_countUnresolved_47 {p : Program} {l : Launch} {e : Env} {s : State} {m : MethodId} {args : Array Value} {below : List Frame} {meth : Method} {c : Code} {D : va_G} {cI cZ cO : ClassId} {ad : Nat → Nat} {gh : rC_gh} {de : Nat} (E : rC_E D cI cZ cO ad gh (rC_K ad gh) RX11 cX11_countUnresolved 4 (some .int) p s m args meth c) (M : rv_Mem) (k4 : Int32 → Int32 → Int32 → Option (Int32)) (h4 : ∀ (x1 : Int32) (x2 : Int32) (x3 : Int32), rv_M (rC_G D cI cZ cO ad gh de) (rC_K ad gh) p l e rm11_countUnresolved s m args below meth c 0 0 (rC_qI D cI cZ cO ad gh de below args s M) (k4 x1 x2 x3) 4 [some (.ref (ad 0)), some (.int x1), some (.int x2), some (.int x3)] [] M) : ∀ (x1 : Int32) (x2 : Int32) (x3 : Int32), rv_M (rC_G D cI cZ cO ad gh de) (rC_K ad gh) p l e rm11_countUnresolved s m args below meth c 0 0 (rC_qI D cI cZ cO ad gh de below args s M) (f11_countUnresolved_47 gh M k4 x1 x2 x3) 47 [some (.ref (ad 0)), some (.int x1), some (.int x2), some (.int x3)] [] M := by
  intro x1 x2 x3
  unfold f11_countUnresolved_47
  refine rv_iinc (q := 50) (lv' := [_, _, _, _]) E.x dX11_countUnresolved_47 rv_ki1 rfl rfl rfl rfl ?_
  refine rv_goto (q := 4) E.x dX11_countUnresolved_50 (by decide) ?_
  refine rv_wk [true, true, true, true] ?_
  exact h4 x1 x2 (x3 + 1)
set_option maxRecDepth 100000 in
theorem b11_countUnresolved_4_s {p : Program} {l : Launch} {e : Env} {s : State} {m : MethodId} {args : Array Value} {below : List Frame} {meth : Method} {c : Code} {D : va_G} {cI cZ cO : ClassId} {ad : Nat → Nat} {gh : rC_gh} {de : Nat} (E : rC_E D cI cZ cO ad gh (rC_K ad gh) RX11 cX11_countUnresolved 4 (some .int) p s m args meth c) (M : rv_Mem)   (k4 : Int32 → Int32 → Int32 → Option (Int32)) (h4 : ∀ (x1 : Int32) (x2 : Int32) (x3 : Int32), rv_M (rC_G D cI cZ cO ad gh de) (rC_K ad gh) p l e rm11_countUnresolved s m args below meth c 0 0 (rC_qI D cI cZ cO ad gh de below args s M) (k4 x1 x2 x3) 4 [some (.ref (ad 0)), some (.int x1), some (.int x2), some (.int x3)] [] M) : ∀ (x1 : Int32) (x2 : Int32) (x3 : Int32), rv_M (rC_G D cI cZ cO ad gh de) (rC_K ad gh) p l e rm11_countUnresolved s m args below meth c 0 0 (rC_qI D cI cZ cO ad gh de below args s M) (f11_countUnresolved_4_s gh M k4 x1 x2 x3) 4 [some (.ref (ad 0)), some (.int x1), some (.int x2), some (.int x3)] [] M := by
  intro x1 x2 x3
  unfold f11_countUnresolved_4_s
  refine rv_iload_n (q := 5) E.x dX11_countUnresolved_4 rfl rfl ?_
  refine rv_aload_n (q := 6) E.x dX11_countUnresolved_5 rfl rfl ?_
  refine rC_getX11 (q := 9) E 0 6 wfX11_53 rfl (Nat.le_of_ble_eq_true rfl) ⟨rfl, rfl⟩ rfl dX11_countUnresolved_6 rfl ?_
  refine rC_lsz (q := 12) E 1 (by decide) (cJ_size E.2.2.1 1) gX11_155 ⟨Nat.le_of_ble_eq_true rfl, Nat.le_of_ble_eq_true rfl⟩ ⟨Nat.le_of_ble_eq_true rfl, Nat.le_of_ble_eq_true rfl⟩ rfl (Nat.le_of_ble_eq_true rfl) dX11_countUnresolved_9 rfl ?_
  refine rv_icmp_ge (q := 15) (tgt := 53) E.x dX11_countUnresolved_12 (by decide) rfl ?_ ?_
  · refine rv_aload_n (q := 16) E.x dX11_countUnresolved_15 rfl rfl ?_
    refine rC_getX11 (q := 19) E 0 6 wfX11_53 rfl (Nat.le_of_ble_eq_true rfl) ⟨rfl, rfl⟩ rfl dX11_countUnresolved_16 rfl ?_
    refine rv_iload_n (q := 20) E.x dX11_countUnresolved_19 rfl rfl ?_
    refine rC_lgt (q := 23) E 1 (by decide) (cJ_get E.2.2.1 1) ⟨rfl, rfl⟩ gX11_223 ⟨Nat.le_of_ble_eq_true rfl, Nat.le_of_ble_eq_true rfl⟩ ⟨Nat.le_of_ble_eq_true rfl, Nat.le_of_ble_eq_true rfl⟩ rfl (Nat.le_of_ble_eq_true rfl) dX11_countUnresolved_20 rfl ?_
    refine rv_g (fun g1 => ?_)
    refine rC_cstX1 (q := 26) E (rC_at_of g1) wxX11_289 dX11_countUnresolved_23 rfl ?_
    refine rC_getX1 (q := 29) E (200 + (x3).toNatClampNeg) 3 wfX11_311 rfl (Nat.le_of_ble_eq_true rfl) (rC_at_of g1) rfl dX11_countUnresolved_26 rfl ?_
    refine rv_g (fun g2 => ?_)
    refine rC_getX7 (q := 32) E (gh.2 (200 + (x3).toNatClampNeg)) 0 wfX11_315 rfl (Nat.le_of_ble_eq_true rfl) (rC_at_of g2) rfl dX11_countUnresolved_29 rfl ?_
    refine rv_iload_n (q := 33) E.x dX11_countUnresolved_32 rfl rfl ?_
    refine rv_icmp_ne (q := 36) (tgt := 47) E.x dX11_countUnresolved_33 (by decide) rfl ?_ ?_
    · refine rv_aload_n (q := 37) E.x dX11_countUnresolved_36 rfl rfl ?_
      refine rv_iload_n (q := 38) E.x dX11_countUnresolved_37 rfl rfl ?_
      refine rv_b1 (fun r4 e3 => ?_)
      refine rC_calliX11 (q := 41) E ⟨rfl, rfl⟩ (c11_isThreadUnresolved E.2.2.1 e3) gX11_536 hX11_isThreadUnresolved ⟨rfl, rfl⟩ ⟨Nat.le_of_ble_eq_true rfl, Nat.le_of_ble_eq_true rfl⟩ ⟨Nat.le_of_ble_eq_true rfl, Nat.le_of_ble_eq_true rfl⟩ rfl rfl rfl (Nat.le_of_ble_eq_true rfl) dX11_countUnresolved_38 rfl ?_
      refine rv_ifz_eq (q := 44) (tgt := 47) E.x dX11_countUnresolved_41 (by decide) rfl ?_ ?_
      · refine rv_iinc (q := 47) (lv' := [_, _, _, _]) E.x dX11_countUnresolved_44 rv_ki1 rfl rfl rfl rfl ?_
        refine rv_wk [true, true, true, true] ?_
        exact b11_countUnresolved_47 E M k4 h4 x1 (x2 + 1) x3
      · refine rv_wk [true, true, true, true] ?_
        exact b11_countUnresolved_47 E M k4 h4 x1 x2 x3
    · refine rv_wk [true, true, true, true] ?_
      exact b11_countUnresolved_47 E M k4 h4 x1 x2 x3
  · refine rv_iload_n (q := 54) E.x dX11_countUnresolved_53 rfl rfl ?_
    exact rC_iret E rfl dX11_countUnresolved_54
theorem b11_countUnresolved_4 {p : Program} {l : Launch} {e : Env} {s : State} {m : MethodId} {args : Array Value} {below : List Frame} {meth : Method} {c : Code} {D : va_G} {cI cZ cO : ClassId} {ad : Nat → Nat} {gh : rC_gh} {de : Nat} (E : rC_E D cI cZ cO ad gh (rC_K ad gh) RX11 cX11_countUnresolved 4 (some .int) p s m args meth c) (M : rv_Mem)   : ∀ (n : Nat), ∀ (x1 : Int32) (x2 : Int32) (x3 : Int32), rv_M (rC_G D cI cZ cO ad gh de) (rC_K ad gh) p l e rm11_countUnresolved s m args below meth c 0 0 (rC_qI D cI cZ cO ad gh de below args s M) (f11_countUnresolved_4 gh M n x1 x2 x3) 4 [some (.ref (ad 0)), some (.int x1), some (.int x2), some (.int x3)] [] M := by
  intro n
  induction n with
  | zero => exact fun _ _ _ => rv_stuck
  | succ n ih => exact b11_countUnresolved_4_s E M (f11_countUnresolved_4 gh M n) ih
set_option maxRecDepth 100000 in
theorem b11_countUnresolved {p : Program} {l : Launch} {e : Env} {s : State} {m : MethodId} {args : Array Value} {below : List Frame} {meth : Method} {c : Code} {D : va_G} {cI cZ cO : ClassId} {ad : Nat → Nat} {gh : rC_gh} {de : Nat} (E : rC_E D cI cZ cO ad gh (rC_K ad gh) RX11 cX11_countUnresolved 4 (some .int) p s m args meth c) (M : rv_Mem) (a1 : Int32) : rv_M (rC_G D cI cZ cO ad gh de) (rC_K ad gh) p l e rm11_countUnresolved s m args below meth c 0 0 (rC_qI D cI cZ cO ad gh de below args s M) (f11_countUnresolved gh M a1) 0 [some (.ref (ad 0)), some (.int a1), none, none] [] M := by
  unfold f11_countUnresolved
  refine rv_iconst (q := 1) E.x dX11_countUnresolved_0 rv_ki0 rfl ?_
  refine rv_istore_n (q := 2) (lv' := [_, _, _, _]) E.x dX11_countUnresolved_1 (Nat.le_of_ble_eq_true rfl) rfl rfl rfl ?_
  refine rv_iconst (q := 3) E.x dX11_countUnresolved_2 rv_ki0 rfl ?_
  refine rv_istore_n (q := 4) (lv' := [_, _, _, _]) E.x dX11_countUnresolved_3 (Nat.le_of_ble_eq_true rfl) rfl rfl rfl ?_
  refine rv_wk [true, true, true, true] ?_
  exact b11_countUnresolved_4 E M rv_FU a1 0 0
theorem c11_countUnresolved {l : Launch} {D : va_G} {cI cZ cO : ClassId} {ad : Nat → Nat} {gh : rC_gh} {de : Nat} (hI : rC_I ad gh) {M : rv_Mem} {a1 : Int32} {r : Int32} (h : f11_countUnresolved gh M a1 = some r) : Met l yX11_countUnresolved (rv_ws yX11_countUnresolved cX11_countUnresolved 4 (some .int)) rm11_countUnresolved (rC_Pc D cI cZ cO ad gh de [.ref (ad 0), .int a1] M) (rC_QI D cI cZ cO ad gh de r M) 0 0 (rC_K ad gh) := rC_met hI rfl (by decide) (Nat.le_of_ble_eq_true rfl) (fun p e s m args below meth c E => ⟨(rC_qI D cI cZ cO ad gh de below args s M), rfl, b11_countUnresolved E M a1⟩) h
abbrev rm11_unresolved : Room := { frames := 7, cells := 0, slots := 0, locals := 148 }
def qx11_unresolved (D : va_G) (cI cZ cO : ClassId) (ad : Nat → Nat) (gh : rC_gh) (de : Nat) (below : List Frame) (args : Array Value) (s : State) (M : rv_Mem) : Int32 ⊕ Nat → State → Prop := fun r => match r with
  | .inl r => vx_MQ below (rC_qi D cI cZ cO ad gh de (rC_A ad gh s.heap.size) r M) (rC_fx (rC_A ad gh s.heap.size)) args s 0 0 (rC_A ad gh s.heap.size)
  | .inr _ => fun _ => True
set_option maxRecDepth 100000 in
theorem b11_unresolved {p : Program} {l : Launch} {e : Env} {s : State} {m : MethodId} {args : Array Value} {below : List Frame} {meth : Method} {c : Code} {D : va_G} {cI cZ cO : ClassId} {ad : Nat → Nat} {gh : rC_gh} {de : Nat} (E : rC_X D cI cZ cO ad gh RX11 cX11_unresolved 2 (some .int) p l s m args meth c) (M : rv_Mem) (a1 : Int32) : rv_M (rC_G D cI cZ cO ad gh de) (rC_A ad gh s.heap.size) p l e rm11_unresolved s m args below meth c 0 0 (qx11_unresolved D cI cZ cO ad gh de below args s M) (f11_unresolved gh M a1) 0 [some (.ref (ad 0)), some (.int a1)] [] M := by
  unfold f11_unresolved
  refine rv_aload_n (q := 1) E.1.x dX11_unresolved_0 rfl rfl ?_
  refine rv_iload_n (q := 2) E.1.x dX11_unresolved_1 rfl rfl ?_
  refine rv_x1r (fun r2 e1 => ?_) (fun w3 e4 => rv_tr (fun _ => trivial))
  refine rC_xVrX11 (q := 5) E ⟨rfl, rfl⟩ (fun _ => c11_needChange E.2.1 E.1.2.2.1 e1) gX11_91 hX11_needChange ⟨rfl, rfl⟩ ⟨Nat.le_of_ble_eq_true rfl, Nat.le_of_ble_eq_true rfl⟩ ⟨Nat.le_of_ble_eq_true rfl, Nat.le_of_ble_eq_true rfl⟩ rfl rfl rfl (Nat.le_of_ble_eq_true rfl) dX11_unresolved_2 rfl ?_
  refine rv_pop (q := 6) E.1.x dX11_unresolved_5 rfl rfl ?_
  refine rv_aload_n (q := 7) E.1.x dX11_unresolved_6 rfl rfl ?_
  refine rv_iload_n (q := 8) E.1.x dX11_unresolved_7 rfl rfl ?_
  refine rv_b1 (fun r6 e5 => ?_)
  refine rC_calliX11 (q := 11) E.1 ⟨rfl, rfl⟩ (c11_countUnresolved E.1.2.2.1 e5) gX11_356 hX11_countUnresolved ⟨rfl, rfl⟩ ⟨Nat.le_of_ble_eq_true rfl, Nat.le_of_ble_eq_true rfl⟩ ⟨Nat.le_of_ble_eq_true rfl, Nat.le_of_ble_eq_true rfl⟩ rfl rfl rfl (Nat.le_of_ble_eq_true rfl) dX11_unresolved_8 rfl ?_
  exact rC_xiret E rfl ⟨Nat.le_of_ble_eq_true rfl, Nat.le_of_ble_eq_true rfl⟩ dX11_unresolved_11
theorem c11_unresolved {l : Launch} {D : va_G} {cI cZ cO : ClassId} {ad : Nat → Nat} {gh : rC_gh} {de : Nat} (hfl : l.stackTraces = false) (hI : rC_I ad gh) {sz : Nat} {M : rv_Mem} {a1 : Int32} {r : Int32} (h : f11_unresolved gh M a1 = some (.inl r)) : vx_Met l yX11_unresolved (rv_ws yX11_unresolved cX11_unresolved 2 (some .int)) rm11_unresolved (rC_Px D cI cZ cO ad gh de sz [.ref (ad 0), .int a1] M) (rC_qi D cI cZ cO ad gh de (rC_A ad gh sz) r M) (rC_fx (rC_A ad gh sz)) 0 0 (rC_A ad gh sz) := rC_xmet (Qc := fun A => rC_qi D cI cZ cO ad gh de A r M) (XC := fun A => rC_fx A) hfl hI rfl (by decide) (Nat.le_of_ble_eq_true rfl) (fun p e s m args below meth c E => ⟨(qx11_unresolved D cI cZ cO ad gh de below args s M), rfl, b11_unresolved E M a1⟩) h
abbrev rmx11_unresolved : Room := { frames := 7, cells := 1, slots := 6, locals := 148 }
def qy11_unresolved (D : va_G) (cI cZ cO : ClassId) (ad : Nat → Nat) (gh : rC_gh) (de : Nat) (below : List Frame) (args : Array Value) (s : State) (M : rv_Mem) : Int32 ⊕ Nat → State → Prop := fun r => match r with
  | .inl _ => fun _ => True
  | .inr r => vx_MQ below (rC_fi (rC_A ad gh s.heap.size)) (rC_xc D cI cZ cO ad gh de (rC_A ad gh s.heap.size) r M) args s 1 6 (rC_A ad gh s.heap.size)
set_option maxRecDepth 100000 in
theorem bx11_unresolved {p : Program} {l : Launch} {e : Env} {s : State} {m : MethodId} {args : Array Value} {below : List Frame} {meth : Method} {c : Code} {D : va_G} {cI cZ cO : ClassId} {ad : Nat → Nat} {gh : rC_gh} {de : Nat} (E : rC_X D cI cZ cO ad gh RX11 cX11_unresolved 2 (some .int) p l s m args meth c) (M : rv_Mem) (a1 : Int32) : rv_M (rC_G D cI cZ cO ad gh de) (rC_A ad gh s.heap.size) p l e rmx11_unresolved s m args below meth c 0 0 (qy11_unresolved D cI cZ cO ad gh de below args s M) (f11_unresolved gh M a1) 0 [some (.ref (ad 0)), some (.int a1)] [] M := by
  unfold f11_unresolved
  refine rv_aload_n (q := 1) E.1.x dX11_unresolved_0 rfl rfl ?_
  refine rv_iload_n (q := 2) E.1.x dX11_unresolved_1 rfl rfl ?_
  refine rv_x1r (fun r2 e1 => ?_) (fun w3 e4 => rC_yVrX11 E ⟨rfl, rfl⟩ (fun _ => c11_needChange_x E.2.1 E.1.2.2.1 e4) rfl gX11_91 hX11_needChange ⟨rfl, rfl⟩ ⟨Nat.le_of_ble_eq_true rfl, Nat.le_of_ble_eq_true rfl⟩ ⟨Nat.le_of_ble_eq_true rfl, Nat.le_of_ble_eq_true rfl⟩ rfl rfl rfl (Nat.le_of_ble_eq_true rfl) dX11_unresolved_2 ⟨Nat.le_of_ble_eq_true rfl, Nat.le_of_ble_eq_true rfl⟩)
  refine rC_xVrX11 (q := 5) E ⟨rfl, rfl⟩ (fun _ => c11_needChange E.2.1 E.1.2.2.1 e1) gX11_91 hX11_needChange ⟨rfl, rfl⟩ ⟨Nat.le_of_ble_eq_true rfl, Nat.le_of_ble_eq_true rfl⟩ ⟨Nat.le_of_ble_eq_true rfl, Nat.le_of_ble_eq_true rfl⟩ rfl rfl rfl (Nat.le_of_ble_eq_true rfl) dX11_unresolved_2 rfl ?_
  refine rv_pop (q := 6) E.1.x dX11_unresolved_5 rfl rfl ?_
  refine rv_aload_n (q := 7) E.1.x dX11_unresolved_6 rfl rfl ?_
  refine rv_iload_n (q := 8) E.1.x dX11_unresolved_7 rfl rfl ?_
  refine rv_b1 (fun r6 e5 => ?_)
  refine rC_calliX11 (q := 11) E.1 ⟨rfl, rfl⟩ (c11_countUnresolved E.1.2.2.1 e5) gX11_356 hX11_countUnresolved ⟨rfl, rfl⟩ ⟨Nat.le_of_ble_eq_true rfl, Nat.le_of_ble_eq_true rfl⟩ ⟨Nat.le_of_ble_eq_true rfl, Nat.le_of_ble_eq_true rfl⟩ rfl rfl rfl (Nat.le_of_ble_eq_true rfl) dX11_unresolved_8 rfl ?_
  exact rv_tr (fun _ => trivial)
theorem c11_unresolved_x {l : Launch} {D : va_G} {cI cZ cO : ClassId} {ad : Nat → Nat} {gh : rC_gh} {de : Nat} (hfl : l.stackTraces = false) (hI : rC_I ad gh) {sz : Nat} {M : rv_Mem} {a1 : Int32} {x : Nat} (h : f11_unresolved gh M a1 = some (.inr x)) : vx_Met l yX11_unresolved (rv_ws yX11_unresolved cX11_unresolved 2 (some .int)) rmx11_unresolved (rC_Px D cI cZ cO ad gh de sz [.ref (ad 0), .int a1] M) (rC_fi (rC_A ad gh sz)) (rC_xc D cI cZ cO ad gh de (rC_A ad gh sz) x M) 1 6 (rC_A ad gh sz) := rC_xmet (Qc := fun A => rC_fi A) (XC := fun A => rC_xc D cI cZ cO ad gh de A x M) hfl hI rfl (by decide) (Nat.le_of_ble_eq_true rfl) (fun p e s m args below meth c E => ⟨(qy11_unresolved D cI cZ cO ad gh de below args s M), rfl, bx11_unresolved E M a1⟩) h
abbrev rm11_chooseFixes : Room := { frames := 6, cells := 0, slots := 0, locals := 101 }
def qx11_chooseFixes (D : va_G) (cI cZ cO : ClassId) (ad : Nat → Nat) (gh : rC_gh) (de : Nat) (below : List Frame) (args : Array Value) (s : State) (M : rv_Mem) : Int64 ⊕ Nat → State → Prop := fun r => match r with
  | .inl r => vx_MQ below (rC_ql D cI cZ cO ad gh de (rC_A ad gh s.heap.size) r M) (rC_fx (rC_A ad gh s.heap.size)) args s 0 0 (rC_A ad gh s.heap.size)
  | .inr _ => fun _ => True
set_option maxRecDepth 100000 in
theorem b11_chooseFixes_80 {p : Program} {l : Launch} {e : Env} {s : State} {m : MethodId} {args : Array Value} {below : List Frame} {meth : Method} {c : Code} {D : va_G} {cI cZ cO : ClassId} {ad : Nat → Nat} {gh : rC_gh} {de : Nat} (E : rC_X D cI cZ cO ad gh RX11 cX11_chooseFixes 7 (some .long) p l s m args meth c) (M : rv_Mem) (k23 : Int32 → Int32 → Int64 → Int32 → Int32 → Option (Int64 ⊕ Nat)) (h23 : ∀ (x1 : Int32) (x2 : Int32) (x3 : Int64) (x5 : Int32) (x6 : Int32), rv_M (rC_G D cI cZ cO ad gh de) (rC_A ad gh s.heap.size) p l e rm11_chooseFixes s m args below meth c 0 0 (qx11_chooseFixes D cI cZ cO ad gh de below args s M) (k23 x1 x2 x3 x5 x6) 23 [some (.ref (ad 0)), some (.int x1), some (.int x2), some (.long x3), none, some (.int x5), some (.int x6)] [] M) : ∀ (x1 : Int32) (x2 : Int32) (x3 : Int64) (x5 : Int32) (x6 : Int32), rv_M (rC_G D cI cZ cO ad gh de) (rC_A ad gh s.heap.size) p l e rm11_chooseFixes s m args below meth c 0 0 (qx11_chooseFixes D cI cZ cO ad gh de below args s M) (f11_chooseFixes_80 gh M k23 x1 x2 x3 x5 x6) 80 [some (.ref (ad 0)), some (.int x1), some (.int x2), some (.long x3), none, some (.int x5), some (.int x6)] [] M := by
  intro x1 x2 x3 x5 x6
  unfold f11_chooseFixes_80
  refine rv_iinc (q := 83) (lv' := [_, _, _, _, _, _, _]) E.1.x dX11_chooseFixes_80 rv_ki1 rfl rfl rfl rfl ?_
  refine rv_goto (q := 23) E.1.x dX11_chooseFixes_83 (by decide) ?_
  refine rv_wk [true, true, true, true, false, true, true] ?_
  exact h23 x1 x2 x3 x5 (x6 + 1)
set_option maxRecDepth 100000 in
theorem b11_chooseFixes_77 {p : Program} {l : Launch} {e : Env} {s : State} {m : MethodId} {args : Array Value} {below : List Frame} {meth : Method} {c : Code} {D : va_G} {cI cZ cO : ClassId} {ad : Nat → Nat} {gh : rC_gh} {de : Nat} (E : rC_X D cI cZ cO ad gh RX11 cX11_chooseFixes 7 (some .long) p l s m args meth c) (M : rv_Mem) (k23 : Int32 → Int32 → Int64 → Int32 → Int32 → Option (Int64 ⊕ Nat)) (h23 : ∀ (x1 : Int32) (x2 : Int32) (x3 : Int64) (x5 : Int32) (x6 : Int32), rv_M (rC_G D cI cZ cO ad gh de) (rC_A ad gh s.heap.size) p l e rm11_chooseFixes s m args below meth c 0 0 (qx11_chooseFixes D cI cZ cO ad gh de below args s M) (k23 x1 x2 x3 x5 x6) 23 [some (.ref (ad 0)), some (.int x1), some (.int x2), some (.long x3), none, some (.int x5), some (.int x6)] [] M) : ∀ (x1 : Int32) (x2 : Int32) (x3 : Int64) (x5 : Int32) (x6 : Int32), rv_M (rC_G D cI cZ cO ad gh de) (rC_A ad gh s.heap.size) p l e rm11_chooseFixes s m args below meth c 0 0 (qx11_chooseFixes D cI cZ cO ad gh de below args s M) (f11_chooseFixes_77 gh M k23 x1 x2 x3 x5 x6) 77 [some (.ref (ad 0)), some (.int x1), some (.int x2), some (.long x3), none, some (.int x5), some (.int x6)] [] M := by
  intro x1 x2 x3 x5 x6
  unfold f11_chooseFixes_77
  refine rv_iinc (q := 80) (lv' := [_, _, _, _, _, _, _]) E.1.x dX11_chooseFixes_77 rv_ki1 rfl rfl rfl rfl ?_
  refine rv_wk [true, true, true, true, false, true, true] ?_
  exact b11_chooseFixes_80 E M k23 h23 x1 x2 x3 (x5 + 1) x6
set_option maxRecDepth 100000 in
theorem b11_chooseFixes_111 {p : Program} {l : Launch} {e : Env} {s : State} {m : MethodId} {args : Array Value} {below : List Frame} {meth : Method} {c : Code} {D : va_G} {cI cZ cO : ClassId} {ad : Nat → Nat} {gh : rC_gh} {de : Nat} (E : rC_X D cI cZ cO ad gh RX11 cX11_chooseFixes 7 (some .long) p l s m args meth c) (M : rv_Mem)   : ∀ (x3 : Int64), rv_M (rC_G D cI cZ cO ad gh de) (rC_A ad gh s.heap.size) p l e rm11_chooseFixes s m args below meth c 0 0 (qx11_chooseFixes D cI cZ cO ad gh de below args s M) (f11_chooseFixes_111 gh M x3) 111 [none, none, none, some (.long x3), none, none, none] [] M := by
  intro x3
  unfold f11_chooseFixes_111
  refine rv_lload_n (q := 112) E.1.x dX11_chooseFixes_111 rfl rfl ?_
  exact rC_xlret E rfl ⟨Nat.le_of_ble_eq_true rfl, Nat.le_of_ble_eq_true rfl⟩ dX11_chooseFixes_112
set_option maxRecDepth 100000 in
theorem b11_chooseFixes_23_s {p : Program} {l : Launch} {e : Env} {s : State} {m : MethodId} {args : Array Value} {below : List Frame} {meth : Method} {c : Code} {D : va_G} {cI cZ cO : ClassId} {ad : Nat → Nat} {gh : rC_gh} {de : Nat} (E : rC_X D cI cZ cO ad gh RX11 cX11_chooseFixes 7 (some .long) p l s m args meth c) (M : rv_Mem)   (k23 : Int32 → Int32 → Int64 → Int32 → Int32 → Option (Int64 ⊕ Nat)) (h23 : ∀ (x1 : Int32) (x2 : Int32) (x3 : Int64) (x5 : Int32) (x6 : Int32), rv_M (rC_G D cI cZ cO ad gh de) (rC_A ad gh s.heap.size) p l e rm11_chooseFixes s m args below meth c 0 0 (qx11_chooseFixes D cI cZ cO ad gh de below args s M) (k23 x1 x2 x3 x5 x6) 23 [some (.ref (ad 0)), some (.int x1), some (.int x2), some (.long x3), none, some (.int x5), some (.int x6)] [] M) : ∀ (x1 : Int32) (x2 : Int32) (x3 : Int64) (x5 : Int32) (x6 : Int32), rv_M (rC_G D cI cZ cO ad gh de) (rC_A ad gh s.heap.size) p l e rm11_chooseFixes s m args below meth c 0 0 (qx11_chooseFixes D cI cZ cO ad gh de below args s M) (f11_chooseFixes_23_s gh M k23 x1 x2 x3 x5 x6) 23 [some (.ref (ad 0)), some (.int x1), some (.int x2), some (.long x3), none, some (.int x5), some (.int x6)] [] M := by
  intro x1 x2 x3 x5 x6
  unfold f11_chooseFixes_23_s
  refine rv_iload (q := 25) E.1.x dX11_chooseFixes_23 rfl rfl ?_
  refine rv_aload_n (q := 26) E.1.x dX11_chooseFixes_25 rfl rfl ?_
  refine rC_getX11 (q := 29) E.1 0 7 wfX11_56 rfl (Nat.le_of_ble_eq_true rfl) ⟨rfl, rfl⟩ rfl dX11_chooseFixes_26 rfl ?_
  refine rC_lsz (q := 32) E.1 2 (by decide) (cJ_size E.1.2.2.1 2) gX11_155 ⟨Nat.le_of_ble_eq_true rfl, Nat.le_of_ble_eq_true rfl⟩ ⟨Nat.le_of_ble_eq_true rfl, Nat.le_of_ble_eq_true rfl⟩ rfl (Nat.le_of_ble_eq_true rfl) dX11_chooseFixes_29 rfl ?_
  refine rv_icmp_ge (q := 35) (tgt := 86) E.1.x dX11_chooseFixes_32 (by decide) rfl ?_ ?_
  · refine rv_aload_n (q := 36) E.1.x dX11_chooseFixes_35 rfl rfl ?_
    refine rC_getX11 (q := 39) E.1 0 7 wfX11_56 rfl (Nat.le_of_ble_eq_true rfl) ⟨rfl, rfl⟩ rfl dX11_chooseFixes_36 rfl ?_
    refine rv_iload (q := 41) E.1.x dX11_chooseFixes_39 rfl rfl ?_
    refine rC_lgt (q := 44) E.1 2 (by decide) (cJ_get E.1.2.2.1 2) ⟨rfl, rfl⟩ gX11_223 ⟨Nat.le_of_ble_eq_true rfl, Nat.le_of_ble_eq_true rfl⟩ ⟨Nat.le_of_ble_eq_true rfl, Nat.le_of_ble_eq_true rfl⟩ rfl (Nat.le_of_ble_eq_true rfl) dX11_chooseFixes_41 rfl ?_
    refine rv_g (fun g1 => ?_)
    refine rC_cstX4 (q := 47) E.1 (rC_at_of g1) wxX11_363 dX11_chooseFixes_44 rfl ?_
    refine rC_getX4 (q := 50) E.1 (400 + (x6).toNatClampNeg) 0 wfX11_544 rfl (Nat.le_of_ble_eq_true rfl) (rC_at_of g1) rfl dX11_chooseFixes_47 rfl ?_
    refine rv_iload_n (q := 51) E.1.x dX11_chooseFixes_50 rfl rfl ?_
    refine rv_icmp_ne (q := 54) (tgt := 80) E.1.x dX11_chooseFixes_51 (by decide) rfl ?_ ?_
    · refine rv_iload (q := 56) E.1.x dX11_chooseFixes_54 rfl rfl ?_
      refine rv_bipush (q := 58) E.1.x dX11_chooseFixes_56 rv_kb31 rfl ?_
      refine rv_icmp_ge (q := 61) (tgt := 77) E.1.x dX11_chooseFixes_58 (by decide) rfl ?_ ?_
      · refine rv_iload_n (q := 62) E.1.x dX11_chooseFixes_61 rfl rfl ?_
        refine rv_iload (q := 64) E.1.x dX11_chooseFixes_62 rfl rfl ?_
        refine rv_b1 (fun r3 e2 => ?_)
        refine rC_calls (q := 67) E.1 (c11_isIn e2) gX11_463 hX11_isIn ⟨rfl, rfl⟩ ⟨Nat.le_of_ble_eq_true rfl, Nat.le_of_ble_eq_true rfl⟩ ⟨Nat.le_of_ble_eq_true rfl, Nat.le_of_ble_eq_true rfl⟩ rfl rfl rfl (Nat.le_of_ble_eq_true rfl) dX11_chooseFixes_64 rfl ?_
        refine rv_ifz_eq (q := 70) (tgt := 77) E.1.x dX11_chooseFixes_67 (by decide) rfl ?_ ?_
        · refine rv_lload_n (q := 71) E.1.x dX11_chooseFixes_70 rfl rfl ?_
          refine rv_lconst (q := 72) (v := 1) E.1.x dX11_chooseFixes_71 rfl rfl ?_
          refine rv_iload (q := 74) E.1.x dX11_chooseFixes_72 rfl rfl ?_
          refine rv_lshl (q := 75) E.1.x dX11_chooseFixes_74 rfl ?_
          refine rv_lor (q := 76) E.1.x dX11_chooseFixes_75 rfl ?_
          refine rv_lstore_n (q := 77) (lv' := [_, _, _, _, _, _, _]) E.1.x dX11_chooseFixes_76 (Nat.le_of_ble_eq_true rfl) rfl rfl rfl ?_
          refine rv_wk [true, true, true, true, false, true, true] ?_
          exact b11_chooseFixes_77 E M k23 h23 x1 x2 (x3 ||| ((1 : Int64) <<< ((x6).toInt64 &&& 63))) x5 x6
        · refine rv_wk [true, true, true, true, false, true, true] ?_
          exact b11_chooseFixes_77 E M k23 h23 x1 x2 x3 x5 x6
      · refine rv_wk [true, true, true, true, false, true, true] ?_
        exact b11_chooseFixes_77 E M k23 h23 x1 x2 x3 x5 x6
    · refine rv_wk [true, true, true, true, false, true, true] ?_
      exact b11_chooseFixes_80 E M k23 h23 x1 x2 x3 x5 x6
  · refine rv_iload (q := 88) E.1.x dX11_chooseFixes_86 rfl rfl ?_
    refine rv_bipush (q := 90) E.1.x dX11_chooseFixes_88 rv_kb31 rfl ?_
    refine rv_icmp_ge (q := 93) (tgt := 111) E.1.x dX11_chooseFixes_90 (by decide) rfl ?_ ?_
    · refine rv_iload_n (q := 94) E.1.x dX11_chooseFixes_93 rfl rfl ?_
      refine rv_iload (q := 96) E.1.x dX11_chooseFixes_94 rfl rfl ?_
      refine rv_ishr (q := 97) E.1.x dX11_chooseFixes_96 rfl ?_
      refine rv_if_eq (q := 100) (tgt := 111) E.1.x dX11_chooseFixes_97 (by decide) rfl ?_ ?_
      · exact rv_tr (fun _ => trivial)
      · refine rv_wk [false, false, false, true, false, false, false] ?_
        exact b11_chooseFixes_111 E M x3
    · refine rv_wk [false, false, false, true, false, false, false] ?_
      exact b11_chooseFixes_111 E M x3
theorem b11_chooseFixes_23 {p : Program} {l : Launch} {e : Env} {s : State} {m : MethodId} {args : Array Value} {below : List Frame} {meth : Method} {c : Code} {D : va_G} {cI cZ cO : ClassId} {ad : Nat → Nat} {gh : rC_gh} {de : Nat} (E : rC_X D cI cZ cO ad gh RX11 cX11_chooseFixes 7 (some .long) p l s m args meth c) (M : rv_Mem)   : ∀ (n : Nat), ∀ (x1 : Int32) (x2 : Int32) (x3 : Int64) (x5 : Int32) (x6 : Int32), rv_M (rC_G D cI cZ cO ad gh de) (rC_A ad gh s.heap.size) p l e rm11_chooseFixes s m args below meth c 0 0 (qx11_chooseFixes D cI cZ cO ad gh de below args s M) (f11_chooseFixes_23 gh M n x1 x2 x3 x5 x6) 23 [some (.ref (ad 0)), some (.int x1), some (.int x2), some (.long x3), none, some (.int x5), some (.int x6)] [] M := by
  intro n
  induction n with
  | zero => exact fun _ _ _ _ _ => rv_stuck
  | succ n ih => exact b11_chooseFixes_23_s E M (f11_chooseFixes_23 gh M n) ih
set_option maxRecDepth 100000 in
theorem b11_chooseFixes {p : Program} {l : Launch} {e : Env} {s : State} {m : MethodId} {args : Array Value} {below : List Frame} {meth : Method} {c : Code} {D : va_G} {cI cZ cO : ClassId} {ad : Nat → Nat} {gh : rC_gh} {de : Nat} (E : rC_X D cI cZ cO ad gh RX11 cX11_chooseFixes 7 (some .long) p l s m args meth c) (M : rv_Mem) (a1 : Int32) (a2 : Int32) : rv_M (rC_G D cI cZ cO ad gh de) (rC_A ad gh s.heap.size) p l e rm11_chooseFixes s m args below meth c 0 0 (qx11_chooseFixes D cI cZ cO ad gh de below args s M) (f11_chooseFixes gh M a1 a2) 0 [some (.ref (ad 0)), some (.int a1), some (.int a2), none, none, none, none] [] M := by
  unfold f11_chooseFixes
  refine rv_iload_n (q := 1) E.1.x dX11_chooseFixes_0 rfl rfl ?_
  refine rv_if_ge (q := 4) (tgt := 15) E.1.x dX11_chooseFixes_1 (by decide) rfl ?_ ?_
  · exact rv_tr (fun _ => trivial)
  · refine rv_lconst (q := 16) (v := 0) E.1.x dX11_chooseFixes_15 rfl rfl ?_
    refine rv_lstore_n (q := 17) (lv' := [_, _, _, _, _, _, _]) E.1.x dX11_chooseFixes_16 (Nat.le_of_ble_eq_true rfl) rfl rfl rfl ?_
    refine rv_iconst (q := 18) E.1.x dX11_chooseFixes_17 rv_ki0 rfl ?_
    refine rv_istore (q := 20) (lv' := [_, _, _, _, _, _, _]) E.1.x dX11_chooseFixes_18 (Nat.le_of_ble_eq_true rfl) rfl rfl rfl ?_
    refine rv_iconst (q := 21) E.1.x dX11_chooseFixes_20 rv_ki0 rfl ?_
    refine rv_istore (q := 23) (lv' := [_, _, _, _, _, _, _]) E.1.x dX11_chooseFixes_21 (Nat.le_of_ble_eq_true rfl) rfl rfl rfl ?_
    refine rv_wk [true, true, true, true, false, true, true] ?_
    exact b11_chooseFixes_23 E M rv_FU a1 a2 0 0 0
theorem c11_chooseFixes {l : Launch} {D : va_G} {cI cZ cO : ClassId} {ad : Nat → Nat} {gh : rC_gh} {de : Nat} (hfl : l.stackTraces = false) (hI : rC_I ad gh) {sz : Nat} {M : rv_Mem} {a1 : Int32} {a2 : Int32} {r : Int64} (h : f11_chooseFixes gh M a1 a2 = some (.inl r)) : vx_Met l yX11_chooseFixes (rv_ws yX11_chooseFixes cX11_chooseFixes 7 (some .long)) rm11_chooseFixes (rC_Px D cI cZ cO ad gh de sz [.ref (ad 0), .int a1, .int a2] M) (rC_ql D cI cZ cO ad gh de (rC_A ad gh sz) r M) (rC_fx (rC_A ad gh sz)) 0 0 (rC_A ad gh sz) := rC_xmet (Qc := fun A => rC_ql D cI cZ cO ad gh de A r M) (XC := fun A => rC_fx A) hfl hI rfl (by decide) (Nat.le_of_ble_eq_true rfl) (fun p e s m args below meth c E => ⟨(qx11_chooseFixes D cI cZ cO ad gh de below args s M), rfl, b11_chooseFixes E M a1 a2⟩) h
abbrev rmx11_chooseFixes : Room := { frames := 6, cells := 1, slots := 6, locals := 101 }
def qy11_chooseFixes (D : va_G) (cI cZ cO : ClassId) (ad : Nat → Nat) (gh : rC_gh) (de : Nat) (below : List Frame) (args : Array Value) (s : State) (M : rv_Mem) : Int64 ⊕ Nat → State → Prop := fun r => match r with
  | .inl _ => fun _ => True
  | .inr r => vx_MQ below (rC_fl_ (rC_A ad gh s.heap.size)) (rC_xc D cI cZ cO ad gh de (rC_A ad gh s.heap.size) r M) args s 1 6 (rC_A ad gh s.heap.size)
set_option maxRecDepth 100000 in
theorem bx11_chooseFixes_80 {p : Program} {l : Launch} {e : Env} {s : State} {m : MethodId} {args : Array Value} {below : List Frame} {meth : Method} {c : Code} {D : va_G} {cI cZ cO : ClassId} {ad : Nat → Nat} {gh : rC_gh} {de : Nat} (E : rC_X D cI cZ cO ad gh RX11 cX11_chooseFixes 7 (some .long) p l s m args meth c) (M : rv_Mem) (k23 : Int32 → Int32 → Int64 → Int32 → Int32 → Option (Int64 ⊕ Nat)) (h23 : ∀ (x1 : Int32) (x2 : Int32) (x3 : Int64) (x5 : Int32) (x6 : Int32), rv_M (rC_G D cI cZ cO ad gh de) (rC_A ad gh s.heap.size) p l e rmx11_chooseFixes s m args below meth c 0 0 (qy11_chooseFixes D cI cZ cO ad gh de below args s M) (k23 x1 x2 x3 x5 x6) 23 [some (.ref (ad 0)), some (.int x1), some (.int x2), some (.long x3), none, some (.int x5), some (.int x6)] [] M) : ∀ (x1 : Int32) (x2 : Int32) (x3 : Int64) (x5 : Int32) (x6 : Int32), rv_M (rC_G D cI cZ cO ad gh de) (rC_A ad gh s.heap.size) p l e rmx11_chooseFixes s m args below meth c 0 0 (qy11_chooseFixes D cI cZ cO ad gh de below args s M) (f11_chooseFixes_80 gh M k23 x1 x2 x3 x5 x6) 80 [some (.ref (ad 0)), some (.int x1), some (.int x2), some (.long x3), none, some (.int x5), some (.int x6)] [] M := by
  intro x1 x2 x3 x5 x6
  unfold f11_chooseFixes_80
  refine rv_iinc (q := 83) (lv' := [_, _, _, _, _, _, _]) E.1.x dX11_chooseFixes_80 rv_ki1 rfl rfl rfl rfl ?_
  refine rv_goto (q := 23) E.1.x dX11_chooseFixes_83 (by decide) ?_
  refine rv_wk [true, true, true, true, false, true, true] ?_
  exact h23 x1 x2 x3 x5 (x6 + 1)
set_option maxRecDepth 100000 in
theorem bx11_chooseFixes_77 {p : Program} {l : Launch} {e : Env} {s : State} {m : MethodId} {args : Array Value} {below : List Frame} {meth : Method} {c : Code} {D : va_G} {cI cZ cO : ClassId} {ad : Nat → Nat} {gh : rC_gh} {de : Nat} (E : rC_X D cI cZ cO ad gh RX11 cX11_chooseFixes 7 (some .long) p l s m args meth c) (M : rv_Mem) (k23 : Int32 → Int32 → Int64 → Int32 → Int32 → Option (Int64 ⊕ Nat)) (h23 : ∀ (x1 : Int32) (x2 : Int32) (x3 : Int64) (x5 : Int32) (x6 : Int32), rv_M (rC_G D cI cZ cO ad gh de) (rC_A ad gh s.heap.size) p l e rmx11_chooseFixes s m args below meth c 0 0 (qy11_chooseFixes D cI cZ cO ad gh de below args s M) (k23 x1 x2 x3 x5 x6) 23 [some (.ref (ad 0)), some (.int x1), some (.int x2), some (.long x3), none, some (.int x5), some (.int x6)] [] M) : ∀ (x1 : Int32) (x2 : Int32) (x3 : Int64) (x5 : Int32) (x6 : Int32), rv_M (rC_G D cI cZ cO ad gh de) (rC_A ad gh s.heap.size) p l e rmx11_chooseFixes s m args below meth c 0 0 (qy11_chooseFixes D cI cZ cO ad gh de below args s M) (f11_chooseFixes_77 gh M k23 x1 x2 x3 x5 x6) 77 [some (.ref (ad 0)), some (.int x1), some (.int x2), some (.long x3), none, some (.int x5), some (.int x6)] [] M := by
  intro x1 x2 x3 x5 x6
  unfold f11_chooseFixes_77
  refine rv_iinc (q := 80) (lv' := [_, _, _, _, _, _, _]) E.1.x dX11_chooseFixes_77 rv_ki1 rfl rfl rfl rfl ?_
  refine rv_wk [true, true, true, true, false, true, true] ?_
  exact bx11_chooseFixes_80 E M k23 h23 x1 x2 x3 (x5 + 1) x6
set_option maxRecDepth 100000 in
theorem bx11_chooseFixes_111 {p : Program} {l : Launch} {e : Env} {s : State} {m : MethodId} {args : Array Value} {below : List Frame} {meth : Method} {c : Code} {D : va_G} {cI cZ cO : ClassId} {ad : Nat → Nat} {gh : rC_gh} {de : Nat} (E : rC_X D cI cZ cO ad gh RX11 cX11_chooseFixes 7 (some .long) p l s m args meth c) (M : rv_Mem)   : ∀ (x3 : Int64), rv_M (rC_G D cI cZ cO ad gh de) (rC_A ad gh s.heap.size) p l e rmx11_chooseFixes s m args below meth c 0 0 (qy11_chooseFixes D cI cZ cO ad gh de below args s M) (f11_chooseFixes_111 gh M x3) 111 [none, none, none, some (.long x3), none, none, none] [] M := by
  intro x3
  unfold f11_chooseFixes_111
  refine rv_lload_n (q := 112) E.1.x dX11_chooseFixes_111 rfl rfl ?_
  exact rv_tr (fun _ => trivial)
set_option maxRecDepth 100000 in
theorem bx11_chooseFixes_23_s {p : Program} {l : Launch} {e : Env} {s : State} {m : MethodId} {args : Array Value} {below : List Frame} {meth : Method} {c : Code} {D : va_G} {cI cZ cO : ClassId} {ad : Nat → Nat} {gh : rC_gh} {de : Nat} (E : rC_X D cI cZ cO ad gh RX11 cX11_chooseFixes 7 (some .long) p l s m args meth c) (M : rv_Mem)   (k23 : Int32 → Int32 → Int64 → Int32 → Int32 → Option (Int64 ⊕ Nat)) (h23 : ∀ (x1 : Int32) (x2 : Int32) (x3 : Int64) (x5 : Int32) (x6 : Int32), rv_M (rC_G D cI cZ cO ad gh de) (rC_A ad gh s.heap.size) p l e rmx11_chooseFixes s m args below meth c 0 0 (qy11_chooseFixes D cI cZ cO ad gh de below args s M) (k23 x1 x2 x3 x5 x6) 23 [some (.ref (ad 0)), some (.int x1), some (.int x2), some (.long x3), none, some (.int x5), some (.int x6)] [] M) : ∀ (x1 : Int32) (x2 : Int32) (x3 : Int64) (x5 : Int32) (x6 : Int32), rv_M (rC_G D cI cZ cO ad gh de) (rC_A ad gh s.heap.size) p l e rmx11_chooseFixes s m args below meth c 0 0 (qy11_chooseFixes D cI cZ cO ad gh de below args s M) (f11_chooseFixes_23_s gh M k23 x1 x2 x3 x5 x6) 23 [some (.ref (ad 0)), some (.int x1), some (.int x2), some (.long x3), none, some (.int x5), some (.int x6)] [] M := by
  intro x1 x2 x3 x5 x6
  unfold f11_chooseFixes_23_s
  refine rv_iload (q := 25) E.1.x dX11_chooseFixes_23 rfl rfl ?_
  refine rv_aload_n (q := 26) E.1.x dX11_chooseFixes_25 rfl rfl ?_
  refine rC_getX11 (q := 29) E.1 0 7 wfX11_56 rfl (Nat.le_of_ble_eq_true rfl) ⟨rfl, rfl⟩ rfl dX11_chooseFixes_26 rfl ?_
  refine rC_lsz (q := 32) E.1 2 (by decide) (cJ_size E.1.2.2.1 2) gX11_155 ⟨Nat.le_of_ble_eq_true rfl, Nat.le_of_ble_eq_true rfl⟩ ⟨Nat.le_of_ble_eq_true rfl, Nat.le_of_ble_eq_true rfl⟩ rfl (Nat.le_of_ble_eq_true rfl) dX11_chooseFixes_29 rfl ?_
  refine rv_icmp_ge (q := 35) (tgt := 86) E.1.x dX11_chooseFixes_32 (by decide) rfl ?_ ?_
  · refine rv_aload_n (q := 36) E.1.x dX11_chooseFixes_35 rfl rfl ?_
    refine rC_getX11 (q := 39) E.1 0 7 wfX11_56 rfl (Nat.le_of_ble_eq_true rfl) ⟨rfl, rfl⟩ rfl dX11_chooseFixes_36 rfl ?_
    refine rv_iload (q := 41) E.1.x dX11_chooseFixes_39 rfl rfl ?_
    refine rC_lgt (q := 44) E.1 2 (by decide) (cJ_get E.1.2.2.1 2) ⟨rfl, rfl⟩ gX11_223 ⟨Nat.le_of_ble_eq_true rfl, Nat.le_of_ble_eq_true rfl⟩ ⟨Nat.le_of_ble_eq_true rfl, Nat.le_of_ble_eq_true rfl⟩ rfl (Nat.le_of_ble_eq_true rfl) dX11_chooseFixes_41 rfl ?_
    refine rv_g (fun g1 => ?_)
    refine rC_cstX4 (q := 47) E.1 (rC_at_of g1) wxX11_363 dX11_chooseFixes_44 rfl ?_
    refine rC_getX4 (q := 50) E.1 (400 + (x6).toNatClampNeg) 0 wfX11_544 rfl (Nat.le_of_ble_eq_true rfl) (rC_at_of g1) rfl dX11_chooseFixes_47 rfl ?_
    refine rv_iload_n (q := 51) E.1.x dX11_chooseFixes_50 rfl rfl ?_
    refine rv_icmp_ne (q := 54) (tgt := 80) E.1.x dX11_chooseFixes_51 (by decide) rfl ?_ ?_
    · refine rv_iload (q := 56) E.1.x dX11_chooseFixes_54 rfl rfl ?_
      refine rv_bipush (q := 58) E.1.x dX11_chooseFixes_56 rv_kb31 rfl ?_
      refine rv_icmp_ge (q := 61) (tgt := 77) E.1.x dX11_chooseFixes_58 (by decide) rfl ?_ ?_
      · refine rv_iload_n (q := 62) E.1.x dX11_chooseFixes_61 rfl rfl ?_
        refine rv_iload (q := 64) E.1.x dX11_chooseFixes_62 rfl rfl ?_
        refine rv_b1 (fun r3 e2 => ?_)
        refine rC_calls (q := 67) E.1 (c11_isIn e2) gX11_463 hX11_isIn ⟨rfl, rfl⟩ ⟨Nat.le_of_ble_eq_true rfl, Nat.le_of_ble_eq_true rfl⟩ ⟨Nat.le_of_ble_eq_true rfl, Nat.le_of_ble_eq_true rfl⟩ rfl rfl rfl (Nat.le_of_ble_eq_true rfl) dX11_chooseFixes_64 rfl ?_
        refine rv_ifz_eq (q := 70) (tgt := 77) E.1.x dX11_chooseFixes_67 (by decide) rfl ?_ ?_
        · refine rv_lload_n (q := 71) E.1.x dX11_chooseFixes_70 rfl rfl ?_
          refine rv_lconst (q := 72) (v := 1) E.1.x dX11_chooseFixes_71 rfl rfl ?_
          refine rv_iload (q := 74) E.1.x dX11_chooseFixes_72 rfl rfl ?_
          refine rv_lshl (q := 75) E.1.x dX11_chooseFixes_74 rfl ?_
          refine rv_lor (q := 76) E.1.x dX11_chooseFixes_75 rfl ?_
          refine rv_lstore_n (q := 77) (lv' := [_, _, _, _, _, _, _]) E.1.x dX11_chooseFixes_76 (Nat.le_of_ble_eq_true rfl) rfl rfl rfl ?_
          refine rv_wk [true, true, true, true, false, true, true] ?_
          exact bx11_chooseFixes_77 E M k23 h23 x1 x2 (x3 ||| ((1 : Int64) <<< ((x6).toInt64 &&& 63))) x5 x6
        · refine rv_wk [true, true, true, true, false, true, true] ?_
          exact bx11_chooseFixes_77 E M k23 h23 x1 x2 x3 x5 x6
      · refine rv_wk [true, true, true, true, false, true, true] ?_
        exact bx11_chooseFixes_77 E M k23 h23 x1 x2 x3 x5 x6
    · refine rv_wk [true, true, true, true, false, true, true] ?_
      exact bx11_chooseFixes_80 E M k23 h23 x1 x2 x3 x5 x6
  · refine rv_iload (q := 88) E.1.x dX11_chooseFixes_86 rfl rfl ?_
    refine rv_bipush (q := 90) E.1.x dX11_chooseFixes_88 rv_kb31 rfl ?_
    refine rv_icmp_ge (q := 93) (tgt := 111) E.1.x dX11_chooseFixes_90 (by decide) rfl ?_ ?_
    · refine rv_iload_n (q := 94) E.1.x dX11_chooseFixes_93 rfl rfl ?_
      refine rv_iload (q := 96) E.1.x dX11_chooseFixes_94 rfl rfl ?_
      refine rv_ishr (q := 97) E.1.x dX11_chooseFixes_96 rfl ?_
      refine rv_if_eq (q := 100) (tgt := 111) E.1.x dX11_chooseFixes_97 (by decide) rfl ?_ ?_
      · exact rC_throwW (x := 2) E rfl (by decide +kernel) rC_xk2 rC_xi2 rC_xg2 rC_xn2 rC_xo2 E.2.2.2.2.2.2.2.1 (is := 542) (text := "no such fixes") (by decide +kernel) rfl rfl dX11_chooseFixes_100 dX11_chooseFixes_103 dX11_chooseFixes_104 dX11_chooseFixes_107 dX11_chooseFixes_110 (Nat.le_of_ble_eq_true rfl) (Nat.le_of_ble_eq_true rfl) ⟨Nat.le_of_ble_eq_true rfl, Nat.le_of_ble_eq_true rfl⟩ ⟨Nat.le_of_ble_eq_true rfl, Nat.le_of_ble_eq_true rfl⟩
      · refine rv_wk [false, false, false, true, false, false, false] ?_
        exact bx11_chooseFixes_111 E M x3
    · refine rv_wk [false, false, false, true, false, false, false] ?_
      exact bx11_chooseFixes_111 E M x3
theorem bx11_chooseFixes_23 {p : Program} {l : Launch} {e : Env} {s : State} {m : MethodId} {args : Array Value} {below : List Frame} {meth : Method} {c : Code} {D : va_G} {cI cZ cO : ClassId} {ad : Nat → Nat} {gh : rC_gh} {de : Nat} (E : rC_X D cI cZ cO ad gh RX11 cX11_chooseFixes 7 (some .long) p l s m args meth c) (M : rv_Mem)   : ∀ (n : Nat), ∀ (x1 : Int32) (x2 : Int32) (x3 : Int64) (x5 : Int32) (x6 : Int32), rv_M (rC_G D cI cZ cO ad gh de) (rC_A ad gh s.heap.size) p l e rmx11_chooseFixes s m args below meth c 0 0 (qy11_chooseFixes D cI cZ cO ad gh de below args s M) (f11_chooseFixes_23 gh M n x1 x2 x3 x5 x6) 23 [some (.ref (ad 0)), some (.int x1), some (.int x2), some (.long x3), none, some (.int x5), some (.int x6)] [] M := by
  intro n
  induction n with
  | zero => exact fun _ _ _ _ _ => rv_stuck
  | succ n ih => exact bx11_chooseFixes_23_s E M (f11_chooseFixes_23 gh M n) ih
set_option maxRecDepth 100000 in
theorem bx11_chooseFixes {p : Program} {l : Launch} {e : Env} {s : State} {m : MethodId} {args : Array Value} {below : List Frame} {meth : Method} {c : Code} {D : va_G} {cI cZ cO : ClassId} {ad : Nat → Nat} {gh : rC_gh} {de : Nat} (E : rC_X D cI cZ cO ad gh RX11 cX11_chooseFixes 7 (some .long) p l s m args meth c) (M : rv_Mem) (a1 : Int32) (a2 : Int32) : rv_M (rC_G D cI cZ cO ad gh de) (rC_A ad gh s.heap.size) p l e rmx11_chooseFixes s m args below meth c 0 0 (qy11_chooseFixes D cI cZ cO ad gh de below args s M) (f11_chooseFixes gh M a1 a2) 0 [some (.ref (ad 0)), some (.int a1), some (.int a2), none, none, none, none] [] M := by
  unfold f11_chooseFixes
  refine rv_iload_n (q := 1) E.1.x dX11_chooseFixes_0 rfl rfl ?_
  refine rv_if_ge (q := 4) (tgt := 15) E.1.x dX11_chooseFixes_1 (by decide) rfl ?_ ?_
  · exact rC_throwW (x := 2) E rfl (by decide +kernel) rC_xk2 rC_xi2 rC_xg2 rC_xn2 rC_xo2 E.2.2.2.2.2.2.2.1 (is := 542) (text := "no such fixes") (by decide +kernel) rfl rfl dX11_chooseFixes_4 dX11_chooseFixes_7 dX11_chooseFixes_8 dX11_chooseFixes_11 dX11_chooseFixes_14 (Nat.le_of_ble_eq_true rfl) (Nat.le_of_ble_eq_true rfl) ⟨Nat.le_of_ble_eq_true rfl, Nat.le_of_ble_eq_true rfl⟩ ⟨Nat.le_of_ble_eq_true rfl, Nat.le_of_ble_eq_true rfl⟩
  · refine rv_lconst (q := 16) (v := 0) E.1.x dX11_chooseFixes_15 rfl rfl ?_
    refine rv_lstore_n (q := 17) (lv' := [_, _, _, _, _, _, _]) E.1.x dX11_chooseFixes_16 (Nat.le_of_ble_eq_true rfl) rfl rfl rfl ?_
    refine rv_iconst (q := 18) E.1.x dX11_chooseFixes_17 rv_ki0 rfl ?_
    refine rv_istore (q := 20) (lv' := [_, _, _, _, _, _, _]) E.1.x dX11_chooseFixes_18 (Nat.le_of_ble_eq_true rfl) rfl rfl rfl ?_
    refine rv_iconst (q := 21) E.1.x dX11_chooseFixes_20 rv_ki0 rfl ?_
    refine rv_istore (q := 23) (lv' := [_, _, _, _, _, _, _]) E.1.x dX11_chooseFixes_21 (Nat.le_of_ble_eq_true rfl) rfl rfl rfl ?_
    refine rv_wk [true, true, true, true, false, true, true] ?_
    exact bx11_chooseFixes_23 E M rv_FU a1 a2 0 0 0
theorem c11_chooseFixes_x {l : Launch} {D : va_G} {cI cZ cO : ClassId} {ad : Nat → Nat} {gh : rC_gh} {de : Nat} (hfl : l.stackTraces = false) (hI : rC_I ad gh) {sz : Nat} {M : rv_Mem} {a1 : Int32} {a2 : Int32} {x : Nat} (h : f11_chooseFixes gh M a1 a2 = some (.inr x)) : vx_Met l yX11_chooseFixes (rv_ws yX11_chooseFixes cX11_chooseFixes 7 (some .long)) rmx11_chooseFixes (rC_Px D cI cZ cO ad gh de sz [.ref (ad 0), .int a1, .int a2] M) (rC_fl_ (rC_A ad gh sz)) (rC_xc D cI cZ cO ad gh de (rC_A ad gh sz) x M) 1 6 (rC_A ad gh sz) := rC_xmet (Qc := fun A => rC_fl_ A) (XC := fun A => rC_xc D cI cZ cO ad gh de A x M) hfl hI rfl (by decide) (Nat.le_of_ble_eq_true rfl) (fun p e s m args below meth c E => ⟨(qy11_chooseFixes D cI cZ cO ad gh de below args s M), rfl, bx11_chooseFixes E M a1 a2⟩) h
abbrev rm11_isSomeTouching : Room := { frames := 4, cells := 0, slots := 0, locals := 101 }
set_option maxRecDepth 100000 in
theorem b11_isSomeTouching_86 {p : Program} {l : Launch} {e : Env} {s : State} {m : MethodId} {args : Array Value} {below : List Frame} {meth : Method} {c : Code} {D : va_G} {cI cZ cO : ClassId} {ad : Nat → Nat} {gh : rC_gh} {de : Nat} (E : rC_E D cI cZ cO ad gh (rC_K ad gh) RX11 cX11_isSomeTouching 6 (some .boolean) p s m args meth c) (M : rv_Mem) (k2 : Int64 → Int32 → Option (Bool)) (k16 : Int64 → Int32 → Int32 → Option (Bool)) (h2 : ∀ (x1 : Int64) (x3 : Int32), rv_M (rC_G D cI cZ cO ad gh de) (rC_K ad gh) p l e rm11_isSomeTouching s m args below meth c 0 0 (rC_qZ D cI cZ cO ad gh de below args s M) (k2 x1 x3) 2 [some (.ref (ad 0)), some (.long x1), none, some (.int x3), none, none] [] M) (h16 : ∀ (x1 : Int64) (x3 : Int32) (x4 : Int32), rv_M (rC_G D cI cZ cO ad gh de) (rC_K ad gh) p l e rm11_isSomeTouching s m args below meth c 0 0 (rC_qZ D cI cZ cO ad gh de below args s M) (k16 x1 x3 x4) 16 [some (.ref (ad 0)), some (.long x1), none, some (.int x3), some (.int x4), none] [] M) : ∀ (x1 : Int64) (x3 : Int32) (x4 : Int32), rv_M (rC_G D cI cZ cO ad gh de) (rC_K ad gh) p l e rm11_isSomeTouching s m args below meth c 0 0 (rC_qZ D cI cZ cO ad gh de below args s M) (f11_isSomeTouching_86 gh M k2 k16 x1 x3 x4) 86 [some (.ref (ad 0)), some (.long x1), none, some (.int x3), some (.int x4), none] [] M := by
  intro x1 x3 x4
  unfold f11_isSomeTouching_86
  refine rv_iinc (q := 89) (lv' := [_, _, _, _, _, _]) E.x dX11_isSomeTouching_86 rv_ki1 rfl rfl rfl rfl ?_
  refine rv_goto (q := 16) E.x dX11_isSomeTouching_89 (by decide) ?_
  refine rv_wk [true, true, false, true, true, false] ?_
  exact h16 x1 x3 (x4 + 1)
set_option maxRecDepth 100000 in
theorem b11_isSomeTouching_42 {p : Program} {l : Launch} {e : Env} {s : State} {m : MethodId} {args : Array Value} {below : List Frame} {meth : Method} {c : Code} {D : va_G} {cI cZ cO : ClassId} {ad : Nat → Nat} {gh : rC_gh} {de : Nat} (E : rC_E D cI cZ cO ad gh (rC_K ad gh) RX11 cX11_isSomeTouching 6 (some .boolean) p s m args meth c) (M : rv_Mem) (k2 : Int64 → Int32 → Option (Bool)) (k16 : Int64 → Int32 → Int32 → Option (Bool)) (h2 : ∀ (x1 : Int64) (x3 : Int32), rv_M (rC_G D cI cZ cO ad gh de) (rC_K ad gh) p l e rm11_isSomeTouching s m args below meth c 0 0 (rC_qZ D cI cZ cO ad gh de below args s M) (k2 x1 x3) 2 [some (.ref (ad 0)), some (.long x1), none, some (.int x3), none, none] [] M) (h16 : ∀ (x1 : Int64) (x3 : Int32) (x4 : Int32), rv_M (rC_G D cI cZ cO ad gh de) (rC_K ad gh) p l e rm11_isSomeTouching s m args below meth c 0 0 (rC_qZ D cI cZ cO ad gh de below args s M) (k16 x1 x3 x4) 16 [some (.ref (ad 0)), some (.long x1), none, some (.int x3), some (.int x4), none] [] M) : ∀ (x1 : Int64) (x3 : Int32) (x4 : Int32) (s0 : Bool), rv_M (rC_G D cI cZ cO ad gh de) (rC_K ad gh) p l e rm11_isSomeTouching s m args below meth c 0 0 (rC_qZ D cI cZ cO ad gh de below args s M) (f11_isSomeTouching_42 gh M k2 k16 x1 x3 x4 s0) 42 [some (.ref (ad 0)), some (.long x1), none, some (.int x3), some (.int x4), none] [.int (rv_i s0)] M := by
  intro x1 x3 x4 s0
  unfold f11_isSomeTouching_42
  refine rv_istore (q := 44) (lv' := [_, _, _, _, _, _]) E.x dX11_isSomeTouching_42 (Nat.le_of_ble_eq_true rfl) rfl rfl rfl ?_
  refine rv_iload (q := 46) E.x dX11_isSomeTouching_44 rfl rfl ?_
  refine rv_ifz_eq (q := 49) (tgt := 86) E.x dX11_isSomeTouching_46 (by decide) rfl ?_ ?_
  · refine rv_aload_n (q := 50) E.x dX11_isSomeTouching_49 rfl rfl ?_
    refine rC_getX11 (q := 53) E 0 7 wfX11_56 rfl (Nat.le_of_ble_eq_true rfl) ⟨rfl, rfl⟩ rfl dX11_isSomeTouching_50 rfl ?_
    refine rv_iload_n (q := 54) E.x dX11_isSomeTouching_53 rfl rfl ?_
    refine rC_lgt (q := 57) E 2 (by decide) (cJ_get E.2.2.1 2) ⟨rfl, rfl⟩ gX11_223 ⟨Nat.le_of_ble_eq_true rfl, Nat.le_of_ble_eq_true rfl⟩ ⟨Nat.le_of_ble_eq_true rfl, Nat.le_of_ble_eq_true rfl⟩ rfl (Nat.le_of_ble_eq_true rfl) dX11_isSomeTouching_54 rfl ?_
    refine rv_g (fun g1 => ?_)
    refine rC_cstX4 (q := 60) E (rC_at_of g1) wxX11_363 dX11_isSomeTouching_57 rfl ?_
    refine rC_getX4 (q := 63) E (400 + (x3).toNatClampNeg) 2 wfX11_547 rfl (Nat.le_of_ble_eq_true rfl) (rC_at_of g1) rfl dX11_isSomeTouching_60 rfl ?_
    refine rv_aload_n (q := 64) E.x dX11_isSomeTouching_63 rfl rfl ?_
    refine rC_getX11 (q := 67) E 0 7 wfX11_56 rfl (Nat.le_of_ble_eq_true rfl) ⟨rfl, rfl⟩ rfl dX11_isSomeTouching_64 rfl ?_
    refine rv_iload (q := 69) E.x dX11_isSomeTouching_67 rfl rfl ?_
    refine rC_lgt (q := 72) E 2 (by decide) (cJ_get E.2.2.1 2) ⟨rfl, rfl⟩ gX11_223 ⟨Nat.le_of_ble_eq_true rfl, Nat.le_of_ble_eq_true rfl⟩ ⟨Nat.le_of_ble_eq_true rfl, Nat.le_of_ble_eq_true rfl⟩ rfl (Nat.le_of_ble_eq_true rfl) dX11_isSomeTouching_69 rfl ?_
    refine rv_g (fun g2 => ?_)
    refine rC_cstX4 (q := 75) E (rC_at_of g2) wxX11_363 dX11_isSomeTouching_72 rfl ?_
    refine rC_getX4 (q := 78) E (400 + (x4).toNatClampNeg) 2 wfX11_547 rfl (Nat.le_of_ble_eq_true rfl) (rC_at_of g2) rfl dX11_isSomeTouching_75 rfl ?_
    refine rv_g (fun g3 => ?_)
    refine rv_b1 (fun r5 e4 => ?_)
    refine rC_calliX7 (q := 81) E (rC_at_of g3) (c7_touches E.2.2.1 e4) gX11_548 hX7_touches ⟨rfl, rfl⟩ ⟨Nat.le_of_ble_eq_true rfl, Nat.le_of_ble_eq_true rfl⟩ ⟨Nat.le_of_ble_eq_true rfl, Nat.le_of_ble_eq_true rfl⟩ rfl rfl rfl (Nat.le_of_ble_eq_true rfl) dX11_isSomeTouching_78 rfl ?_
    refine rv_ifz_eq (q := 84) (tgt := 86) E.x dX11_isSomeTouching_81 (by decide) rfl ?_ ?_
    · refine rv_iconst (q := 85) E.x dX11_isSomeTouching_84 rv_ki1 rfl ?_
      exact rC_zret E true rfl dX11_isSomeTouching_85
    · refine rv_wk [true, true, false, true, true, false] ?_
      exact b11_isSomeTouching_86 E M k2 k16 h2 h16 x1 x3 x4
  · refine rv_wk [true, true, false, true, true, false] ?_
    exact b11_isSomeTouching_86 E M k2 k16 h2 h16 x1 x3 x4
set_option maxRecDepth 100000 in
theorem b11_isSomeTouching_16_s {p : Program} {l : Launch} {e : Env} {s : State} {m : MethodId} {args : Array Value} {below : List Frame} {meth : Method} {c : Code} {D : va_G} {cI cZ cO : ClassId} {ad : Nat → Nat} {gh : rC_gh} {de : Nat} (E : rC_E D cI cZ cO ad gh (rC_K ad gh) RX11 cX11_isSomeTouching 6 (some .boolean) p s m args meth c) (M : rv_Mem) (k2 : Int64 → Int32 → Option (Bool)) (h2 : ∀ (x1 : Int64) (x3 : Int32), rv_M (rC_G D cI cZ cO ad gh de) (rC_K ad gh) p l e rm11_isSomeTouching s m args below meth c 0 0 (rC_qZ D cI cZ cO ad gh de below args s M) (k2 x1 x3) 2 [some (.ref (ad 0)), some (.long x1), none, some (.int x3), none, none] [] M) (k16 : Int64 → Int32 → Int32 → Option (Bool)) (h16 : ∀ (x1 : Int64) (x3 : Int32) (x4 : Int32), rv_M (rC_G D cI cZ cO ad gh de) (rC_K ad gh) p l e rm11_isSomeTouching s m args below meth c 0 0 (rC_qZ D cI cZ cO ad gh de below args s M) (k16 x1 x3 x4) 16 [some (.ref (ad 0)), some (.long x1), none, some (.int x3), some (.int x4), none] [] M) : ∀ (x1 : Int64) (x3 : Int32) (x4 : Int32), rv_M (rC_G D cI cZ cO ad gh de) (rC_K ad gh) p l e rm11_isSomeTouching s m args below meth c 0 0 (rC_qZ D cI cZ cO ad gh de below args s M) (f11_isSomeTouching_16_s gh M k2 k16 x1 x3 x4) 16 [some (.ref (ad 0)), some (.long x1), none, some (.int x3), some (.int x4), none] [] M := by
  intro x1 x3 x4
  unfold f11_isSomeTouching_16_s
  refine rv_iload (q := 18) E.x dX11_isSomeTouching_16 rfl rfl ?_
  refine rv_iload_n (q := 19) E.x dX11_isSomeTouching_18 rfl rfl ?_
  refine rv_icmp_ge (q := 22) (tgt := 92) E.x dX11_isSomeTouching_19 (by decide) rfl ?_ ?_
  · refine rv_lload_n (q := 23) E.x dX11_isSomeTouching_22 rfl rfl ?_
    refine rv_iload_n (q := 24) E.x dX11_isSomeTouching_23 rfl rfl ?_
    refine rv_lshr (q := 25) E.x dX11_isSomeTouching_24 rfl ?_
    refine rv_lload_n (q := 26) E.x dX11_isSomeTouching_25 rfl rfl ?_
    refine rv_iload (q := 28) E.x dX11_isSomeTouching_26 rfl rfl ?_
    refine rv_lshr (q := 29) E.x dX11_isSomeTouching_28 rfl ?_
    refine rv_land (q := 30) E.x dX11_isSomeTouching_29 rfl ?_
    refine rv_lconst (q := 31) (v := 1) E.x dX11_isSomeTouching_30 rfl rfl ?_
    refine rv_land (q := 32) E.x dX11_isSomeTouching_31 rfl ?_
    refine rv_lconst (q := 33) (v := 1) E.x dX11_isSomeTouching_32 rfl rfl ?_
    refine rv_lcmp (q := 34) E.x dX11_isSomeTouching_33 rfl ?_
    refine rv_if_ne (q := 37) (tgt := 41) E.x dX11_isSomeTouching_34 (by decide) rfl ?_ ?_
    · refine rv_iconst (q := 38) E.x dX11_isSomeTouching_37 rv_ki1 rfl ?_
      refine rv_goto (q := 42) E.x dX11_isSomeTouching_38 (by decide) ?_
      refine rv_wk [true, true, false, true, true, false] ?_
      exact b11_isSomeTouching_42 E M k2 k16 h2 h16 x1 x3 x4 true
    · refine rv_iconst (q := 42) E.x dX11_isSomeTouching_41 rv_ki0 rfl ?_
      refine rv_wk [true, true, false, true, true, false] ?_
      exact b11_isSomeTouching_42 E M k2 k16 h2 h16 x1 x3 x4 false
  · refine rv_iinc (q := 95) (lv' := [_, _, _, _, _, _]) E.x dX11_isSomeTouching_92 rv_ki1 rfl rfl rfl rfl ?_
    refine rv_goto (q := 2) E.x dX11_isSomeTouching_95 (by decide) ?_
    refine rv_wk [true, true, false, true, false, false] ?_
    exact h2 x1 (x3 + 1)
theorem b11_isSomeTouching_16 {p : Program} {l : Launch} {e : Env} {s : State} {m : MethodId} {args : Array Value} {below : List Frame} {meth : Method} {c : Code} {D : va_G} {cI cZ cO : ClassId} {ad : Nat → Nat} {gh : rC_gh} {de : Nat} (E : rC_E D cI cZ cO ad gh (rC_K ad gh) RX11 cX11_isSomeTouching 6 (some .boolean) p s m args meth c) (M : rv_Mem) (k2 : Int64 → Int32 → Option (Bool)) (h2 : ∀ (x1 : Int64) (x3 : Int32), rv_M (rC_G D cI cZ cO ad gh de) (rC_K ad gh) p l e rm11_isSomeTouching s m args below meth c 0 0 (rC_qZ D cI cZ cO ad gh de below args s M) (k2 x1 x3) 2 [some (.ref (ad 0)), some (.long x1), none, some (.int x3), none, none] [] M) : ∀ (n : Nat), ∀ (x1 : Int64) (x3 : Int32) (x4 : Int32), rv_M (rC_G D cI cZ cO ad gh de) (rC_K ad gh) p l e rm11_isSomeTouching s m args below meth c 0 0 (rC_qZ D cI cZ cO ad gh de below args s M) (f11_isSomeTouching_16 gh M k2 n x1 x3 x4) 16 [some (.ref (ad 0)), some (.long x1), none, some (.int x3), some (.int x4), none] [] M := by
  intro n
  induction n with
  | zero => exact fun _ _ _ => rv_stuck
  | succ n ih => exact b11_isSomeTouching_16_s E M k2 h2 (f11_isSomeTouching_16 gh M k2 n) ih
set_option maxRecDepth 100000 in
theorem b11_isSomeTouching_2_s {p : Program} {l : Launch} {e : Env} {s : State} {m : MethodId} {args : Array Value} {below : List Frame} {meth : Method} {c : Code} {D : va_G} {cI cZ cO : ClassId} {ad : Nat → Nat} {gh : rC_gh} {de : Nat} (E : rC_E D cI cZ cO ad gh (rC_K ad gh) RX11 cX11_isSomeTouching 6 (some .boolean) p s m args meth c) (M : rv_Mem)   (k2 : Int64 → Int32 → Option (Bool)) (h2 : ∀ (x1 : Int64) (x3 : Int32), rv_M (rC_G D cI cZ cO ad gh de) (rC_K ad gh) p l e rm11_isSomeTouching s m args below meth c 0 0 (rC_qZ D cI cZ cO ad gh de below args s M) (k2 x1 x3) 2 [some (.ref (ad 0)), some (.long x1), none, some (.int x3), none, none] [] M) : ∀ (x1 : Int64) (x3 : Int32), rv_M (rC_G D cI cZ cO ad gh de) (rC_K ad gh) p l e rm11_isSomeTouching s m args below meth c 0 0 (rC_qZ D cI cZ cO ad gh de below args s M) (f11_isSomeTouching_2_s gh M k2 x1 x3) 2 [some (.ref (ad 0)), some (.long x1), none, some (.int x3), none, none] [] M := by
  intro x1 x3
  unfold f11_isSomeTouching_2_s
  refine rv_iload_n (q := 3) E.x dX11_isSomeTouching_2 rfl rfl ?_
  refine rv_aload_n (q := 4) E.x dX11_isSomeTouching_3 rfl rfl ?_
  refine rC_getX11 (q := 7) E 0 7 wfX11_56 rfl (Nat.le_of_ble_eq_true rfl) ⟨rfl, rfl⟩ rfl dX11_isSomeTouching_4 rfl ?_
  refine rC_lsz (q := 10) E 2 (by decide) (cJ_size E.2.2.1 2) gX11_155 ⟨Nat.le_of_ble_eq_true rfl, Nat.le_of_ble_eq_true rfl⟩ ⟨Nat.le_of_ble_eq_true rfl, Nat.le_of_ble_eq_true rfl⟩ rfl (Nat.le_of_ble_eq_true rfl) dX11_isSomeTouching_7 rfl ?_
  refine rv_icmp_ge (q := 13) (tgt := 98) E.x dX11_isSomeTouching_10 (by decide) rfl ?_ ?_
  · refine rv_iconst (q := 14) E.x dX11_isSomeTouching_13 rv_ki0 rfl ?_
    refine rv_istore (q := 16) (lv' := [_, _, _, _, _, _]) E.x dX11_isSomeTouching_14 (Nat.le_of_ble_eq_true rfl) rfl rfl rfl ?_
    refine rv_wk [true, true, false, true, true, false] ?_
    exact b11_isSomeTouching_16 E M k2 h2 rv_FU x1 x3 0
  · refine rv_iconst (q := 99) E.x dX11_isSomeTouching_98 rv_ki0 rfl ?_
    exact rC_zret E false rfl dX11_isSomeTouching_99
theorem b11_isSomeTouching_2 {p : Program} {l : Launch} {e : Env} {s : State} {m : MethodId} {args : Array Value} {below : List Frame} {meth : Method} {c : Code} {D : va_G} {cI cZ cO : ClassId} {ad : Nat → Nat} {gh : rC_gh} {de : Nat} (E : rC_E D cI cZ cO ad gh (rC_K ad gh) RX11 cX11_isSomeTouching 6 (some .boolean) p s m args meth c) (M : rv_Mem)   : ∀ (n : Nat), ∀ (x1 : Int64) (x3 : Int32), rv_M (rC_G D cI cZ cO ad gh de) (rC_K ad gh) p l e rm11_isSomeTouching s m args below meth c 0 0 (rC_qZ D cI cZ cO ad gh de below args s M) (f11_isSomeTouching_2 gh M n x1 x3) 2 [some (.ref (ad 0)), some (.long x1), none, some (.int x3), none, none] [] M := by
  intro n
  induction n with
  | zero => exact fun _ _ => rv_stuck
  | succ n ih => exact b11_isSomeTouching_2_s E M (f11_isSomeTouching_2 gh M n) ih
set_option maxRecDepth 100000 in
theorem b11_isSomeTouching {p : Program} {l : Launch} {e : Env} {s : State} {m : MethodId} {args : Array Value} {below : List Frame} {meth : Method} {c : Code} {D : va_G} {cI cZ cO : ClassId} {ad : Nat → Nat} {gh : rC_gh} {de : Nat} (E : rC_E D cI cZ cO ad gh (rC_K ad gh) RX11 cX11_isSomeTouching 6 (some .boolean) p s m args meth c) (M : rv_Mem) (a1 : Int64) : rv_M (rC_G D cI cZ cO ad gh de) (rC_K ad gh) p l e rm11_isSomeTouching s m args below meth c 0 0 (rC_qZ D cI cZ cO ad gh de below args s M) (f11_isSomeTouching gh M a1) 0 [some (.ref (ad 0)), some (.long a1), none, none, none, none] [] M := by
  unfold f11_isSomeTouching
  refine rv_iconst (q := 1) E.x dX11_isSomeTouching_0 rv_ki0 rfl ?_
  refine rv_istore_n (q := 2) (lv' := [_, _, _, _, _, _]) E.x dX11_isSomeTouching_1 (Nat.le_of_ble_eq_true rfl) rfl rfl rfl ?_
  refine rv_wk [true, true, false, true, false, false] ?_
  exact b11_isSomeTouching_2 E M rv_FU a1 0
theorem c11_isSomeTouching {l : Launch} {D : va_G} {cI cZ cO : ClassId} {ad : Nat → Nat} {gh : rC_gh} {de : Nat} (hI : rC_I ad gh) {M : rv_Mem} {a1 : Int64} {r : Bool} (h : f11_isSomeTouching gh M a1 = some r) : Met l yX11_isSomeTouching (rv_ws yX11_isSomeTouching cX11_isSomeTouching 6 (some .boolean)) rm11_isSomeTouching (rC_Pc D cI cZ cO ad gh de [.ref (ad 0), .long a1] M) (rC_QI D cI cZ cO ad gh de (rv_i r) M) 0 0 (rC_K ad gh) := rC_met hI rfl (by decide) (Nat.le_of_ble_eq_true rfl) (fun p e s m args below meth c E => ⟨(rC_qZ D cI cZ cO ad gh de below args s M), rfl, b11_isSomeTouching E M a1⟩) h
abbrev rm11_fixAt : Room := { frames := 4, cells := 0, slots := 0, locals := 101 }
set_option maxRecDepth 100000 in
theorem b11_fixAt_64 {p : Program} {l : Launch} {e : Env} {s : State} {m : MethodId} {args : Array Value} {below : List Frame} {meth : Method} {c : Code} {D : va_G} {cI cZ cO : ClassId} {ad : Nat → Nat} {gh : rC_gh} {de : Nat} (E : rC_E D cI cZ cO ad gh (rC_K ad gh) RX11 cX11_fixAt 7 (some .int) p s m args meth c) (M : rv_Mem) (k3 : Int32 → Int32 → Int64 → Int32 → Option (Int32)) (h3 : ∀ (x1 : Int32) (x2 : Int32) (x3 : Int64) (x5 : Int32), rv_M (rC_G D cI cZ cO ad gh de) (rC_K ad gh) p l e rm11_fixAt s m args below meth c 0 0 (rC_qI D cI cZ cO ad gh de below args s M) (k3 x1 x2 x3 x5) 3 [some (.ref (ad 0)), some (.int x1), some (.int x2), some (.long x3), none, some (.int x5), none] [] M) : ∀ (x1 : Int32) (x2 : Int32) (x3 : Int64) (x5 : Int32), rv_M (rC_G D cI cZ cO ad gh de) (rC_K ad gh) p l e rm11_fixAt s m args below meth c 0 0 (rC_qI D cI cZ cO ad gh de below args s M) (f11_fixAt_64 gh M k3 x1 x2 x3 x5) 64 [some (.ref (ad 0)), some (.int x1), some (.int x2), some (.long x3), none, some (.int x5), none] [] M := by
  intro x1 x2 x3 x5
  unfold f11_fixAt_64
  refine rv_iinc (q := 67) (lv' := [_, _, _, _, _, _, _]) E.x dX11_fixAt_64 rv_ki1 rfl rfl rfl rfl ?_
  refine rv_goto (q := 3) E.x dX11_fixAt_67 (by decide) ?_
  refine rv_wk [true, true, true, true, false, true, false] ?_
  exact h3 x1 x2 x3 (x5 + 1)
set_option maxRecDepth 100000 in
theorem b11_fixAt_3_s {p : Program} {l : Launch} {e : Env} {s : State} {m : MethodId} {args : Array Value} {below : List Frame} {meth : Method} {c : Code} {D : va_G} {cI cZ cO : ClassId} {ad : Nat → Nat} {gh : rC_gh} {de : Nat} (E : rC_E D cI cZ cO ad gh (rC_K ad gh) RX11 cX11_fixAt 7 (some .int) p s m args meth c) (M : rv_Mem)   (k3 : Int32 → Int32 → Int64 → Int32 → Option (Int32)) (h3 : ∀ (x1 : Int32) (x2 : Int32) (x3 : Int64) (x5 : Int32), rv_M (rC_G D cI cZ cO ad gh de) (rC_K ad gh) p l e rm11_fixAt s m args below meth c 0 0 (rC_qI D cI cZ cO ad gh de below args s M) (k3 x1 x2 x3 x5) 3 [some (.ref (ad 0)), some (.int x1), some (.int x2), some (.long x3), none, some (.int x5), none] [] M) : ∀ (x1 : Int32) (x2 : Int32) (x3 : Int64) (x5 : Int32), rv_M (rC_G D cI cZ cO ad gh de) (rC_K ad gh) p l e rm11_fixAt s m args below meth c 0 0 (rC_qI D cI cZ cO ad gh de below args s M) (f11_fixAt_3_s gh M k3 x1 x2 x3 x5) 3 [some (.ref (ad 0)), some (.int x1), some (.int x2), some (.long x3), none, some (.int x5), none] [] M := by
  intro x1 x2 x3 x5
  unfold f11_fixAt_3_s
  refine rv_iload (q := 5) E.x dX11_fixAt_3 rfl rfl ?_
  refine rv_aload_n (q := 6) E.x dX11_fixAt_5 rfl rfl ?_
  refine rC_getX11 (q := 9) E 0 7 wfX11_56 rfl (Nat.le_of_ble_eq_true rfl) ⟨rfl, rfl⟩ rfl dX11_fixAt_6 rfl ?_
  refine rC_lsz (q := 12) E 2 (by decide) (cJ_size E.2.2.1 2) gX11_155 ⟨Nat.le_of_ble_eq_true rfl, Nat.le_of_ble_eq_true rfl⟩ ⟨Nat.le_of_ble_eq_true rfl, Nat.le_of_ble_eq_true rfl⟩ rfl (Nat.le_of_ble_eq_true rfl) dX11_fixAt_9 rfl ?_
  refine rv_icmp_ge (q := 15) (tgt := 70) E.x dX11_fixAt_12 (by decide) rfl ?_ ?_
  · refine rv_aload_n (q := 16) E.x dX11_fixAt_15 rfl rfl ?_
    refine rC_getX11 (q := 19) E 0 7 wfX11_56 rfl (Nat.le_of_ble_eq_true rfl) ⟨rfl, rfl⟩ rfl dX11_fixAt_16 rfl ?_
    refine rv_iload (q := 21) E.x dX11_fixAt_19 rfl rfl ?_
    refine rC_lgt (q := 24) E 2 (by decide) (cJ_get E.2.2.1 2) ⟨rfl, rfl⟩ gX11_223 ⟨Nat.le_of_ble_eq_true rfl, Nat.le_of_ble_eq_true rfl⟩ ⟨Nat.le_of_ble_eq_true rfl, Nat.le_of_ble_eq_true rfl⟩ rfl (Nat.le_of_ble_eq_true rfl) dX11_fixAt_21 rfl ?_
    refine rv_g (fun g1 => ?_)
    refine rC_cstX4 (q := 27) E (rC_at_of g1) wxX11_363 dX11_fixAt_24 rfl ?_
    refine rC_getX4 (q := 30) E (400 + (x5).toNatClampNeg) 2 wfX11_547 rfl (Nat.le_of_ble_eq_true rfl) (rC_at_of g1) rfl dX11_fixAt_27 rfl ?_
    refine rv_astore (q := 32) (lv' := [_, _, _, _, _, _, _]) E.x dX11_fixAt_30 (Nat.le_of_ble_eq_true rfl) rfl rfl rfl ?_
    refine rv_lload_n (q := 33) E.x dX11_fixAt_32 rfl rfl ?_
    refine rv_iload (q := 35) E.x dX11_fixAt_33 rfl rfl ?_
    refine rv_lshr (q := 36) E.x dX11_fixAt_35 rfl ?_
    refine rv_lconst (q := 37) (v := 1) E.x dX11_fixAt_36 rfl rfl ?_
    refine rv_land (q := 38) E.x dX11_fixAt_37 rfl ?_
    refine rv_lconst (q := 39) (v := 1) E.x dX11_fixAt_38 rfl rfl ?_
    refine rv_lcmp (q := 40) E.x dX11_fixAt_39 rfl ?_
    refine rv_if_ne (q := 43) (tgt := 64) E.x dX11_fixAt_40 (by decide) rfl ?_ ?_
    · refine rv_aload (q := 45) E.x dX11_fixAt_43 rfl rfl ?_
      refine rv_g (fun g2 => ?_)
      refine rC_getX7 (q := 48) E ((400 + (x5).toNatClampNeg) + 100) 2 wfX11_345 rfl (Nat.le_of_ble_eq_true rfl) (rC_at_of g2) rfl dX11_fixAt_45 rfl ?_
      refine rv_iload_n (q := 49) E.x dX11_fixAt_48 rfl rfl ?_
      refine rv_icmp_ne (q := 52) (tgt := 64) E.x dX11_fixAt_49 (by decide) rfl ?_ ?_
      · refine rv_aload (q := 54) E.x dX11_fixAt_52 rfl rfl ?_
        refine rC_getX7 (q := 57) E ((400 + (x5).toNatClampNeg) + 100) 3 wfX11_342 rfl (Nat.le_of_ble_eq_true rfl) (rC_at_of g2) rfl dX11_fixAt_54 rfl ?_
        refine rv_iload_n (q := 58) E.x dX11_fixAt_57 rfl rfl ?_
        refine rv_icmp_ne (q := 61) (tgt := 64) E.x dX11_fixAt_58 (by decide) rfl ?_ ?_
        · refine rv_iload (q := 63) E.x dX11_fixAt_61 rfl rfl ?_
          exact rC_iret E rfl dX11_fixAt_63
        · refine rv_wk [true, true, true, true, false, true, false] ?_
          exact b11_fixAt_64 E M k3 h3 x1 x2 x3 x5
      · refine rv_wk [true, true, true, true, false, true, false] ?_
        exact b11_fixAt_64 E M k3 h3 x1 x2 x3 x5
    · refine rv_wk [true, true, true, true, false, true, false] ?_
      exact b11_fixAt_64 E M k3 h3 x1 x2 x3 x5
  · refine rv_iconst (q := 71) E.x dX11_fixAt_70 rv_kim1 rfl ?_
    exact rC_iret E rfl dX11_fixAt_71
theorem b11_fixAt_3 {p : Program} {l : Launch} {e : Env} {s : State} {m : MethodId} {args : Array Value} {below : List Frame} {meth : Method} {c : Code} {D : va_G} {cI cZ cO : ClassId} {ad : Nat → Nat} {gh : rC_gh} {de : Nat} (E : rC_E D cI cZ cO ad gh (rC_K ad gh) RX11 cX11_fixAt 7 (some .int) p s m args meth c) (M : rv_Mem)   : ∀ (n : Nat), ∀ (x1 : Int32) (x2 : Int32) (x3 : Int64) (x5 : Int32), rv_M (rC_G D cI cZ cO ad gh de) (rC_K ad gh) p l e rm11_fixAt s m args below meth c 0 0 (rC_qI D cI cZ cO ad gh de below args s M) (f11_fixAt_3 gh M n x1 x2 x3 x5) 3 [some (.ref (ad 0)), some (.int x1), some (.int x2), some (.long x3), none, some (.int x5), none] [] M := by
  intro n
  induction n with
  | zero => exact fun _ _ _ _ => rv_stuck
  | succ n ih => exact b11_fixAt_3_s E M (f11_fixAt_3 gh M n) ih
set_option maxRecDepth 100000 in
theorem b11_fixAt {p : Program} {l : Launch} {e : Env} {s : State} {m : MethodId} {args : Array Value} {below : List Frame} {meth : Method} {c : Code} {D : va_G} {cI cZ cO : ClassId} {ad : Nat → Nat} {gh : rC_gh} {de : Nat} (E : rC_E D cI cZ cO ad gh (rC_K ad gh) RX11 cX11_fixAt 7 (some .int) p s m args meth c) (M : rv_Mem) (a1 : Int32) (a2 : Int32) (a3 : Int64) : rv_M (rC_G D cI cZ cO ad gh de) (rC_K ad gh) p l e rm11_fixAt s m args below meth c 0 0 (rC_qI D cI cZ cO ad gh de below args s M) (f11_fixAt gh M a1 a2 a3) 0 [some (.ref (ad 0)), some (.int a1), some (.int a2), some (.long a3), none, none, none] [] M := by
  unfold f11_fixAt
  refine rv_iconst (q := 1) E.x dX11_fixAt_0 rv_ki0 rfl ?_
  refine rv_istore (q := 3) (lv' := [_, _, _, _, _, _, _]) E.x dX11_fixAt_1 (Nat.le_of_ble_eq_true rfl) rfl rfl rfl ?_
  refine rv_wk [true, true, true, true, false, true, false] ?_
  exact b11_fixAt_3 E M rv_FU a1 a2 a3 0
theorem c11_fixAt {l : Launch} {D : va_G} {cI cZ cO : ClassId} {ad : Nat → Nat} {gh : rC_gh} {de : Nat} (hI : rC_I ad gh) {M : rv_Mem} {a1 : Int32} {a2 : Int32} {a3 : Int64} {r : Int32} (h : f11_fixAt gh M a1 a2 a3 = some r) : Met l yX11_fixAt (rv_ws yX11_fixAt cX11_fixAt 7 (some .int)) rm11_fixAt (rC_Pc D cI cZ cO ad gh de [.ref (ad 0), .int a1, .int a2, .long a3] M) (rC_QI D cI cZ cO ad gh de r M) 0 0 (rC_K ad gh) := rC_met hI rfl (by decide) (Nat.le_of_ble_eq_true rfl) (fun p e s m args below meth c E => ⟨(rC_qI D cI cZ cO ad gh de below args s M), rfl, b11_fixAt E M a1 a2 a3⟩) h
abbrev rm11_makeFixedFile : Room := { frames := 5, cells := 0, slots := 0, locals := 127 }
set_option maxRecDepth 100000 in
theorem b11_makeFixedFile_140 {p : Program} {l : Launch} {e : Env} {s : State} {m : MethodId} {args : Array Value} {below : List Frame} {meth : Method} {c : Code} {D : va_G} {cI cZ cO : ClassId} {ad : Nat → Nat} {gh : rC_gh} {de : Nat} (E : rC_E D cI cZ cO ad gh (rC_K ad gh) RX11 cX11_makeFixedFile 10 (some .boolean) p s m args meth c) (k25 : rv_Mem → Int32 → Int32 → Int64 → Int32 → Int32 → Int32 → Option (Bool × rv_Mem)) (h25 : ∀ (M : rv_Mem) (x1 : Int32) (x2 : Int32) (x3 : Int64) (x5 : Int32) (x6 : Int32) (x7 : Int32), rv_M (rC_G D cI cZ cO ad gh de) (rC_K ad gh) p l e rm11_makeFixedFile s m args below meth c 0 0 (rC_qZW D cI cZ cO ad gh de below args s) (k25 M x1 x2 x3 x5 x6 x7) 25 [some (.ref (ad 0)), some (.int x1), some (.int x2), some (.long x3), none, some (.int x5), some (.int x6), some (.int x7), none, none] [] M) : ∀ (M : rv_Mem) (x1 : Int32) (x2 : Int32) (x3 : Int64) (x5 : Int32) (x6 : Int32) (x7 : Int32), rv_M (rC_G D cI cZ cO ad gh de) (rC_K ad gh) p l e rm11_makeFixedFile s m args below meth c 0 0 (rC_qZW D cI cZ cO ad gh de below args s) (f11_makeFixedFile_140 gh k25 M x1 x2 x3 x5 x6 x7) 140 [some (.ref (ad 0)), some (.int x1), some (.int x2), some (.long x3), none, some (.int x5), some (.int x6), some (.int x7), none, none] [] M := by
  intro M x1 x2 x3 x5 x6 x7
  unfold f11_makeFixedFile_140
  refine rv_iinc (q := 143) (lv' := [_, _, _, _, _, _, _, _, _, _]) E.x dX11_makeFixedFile_140 rv_ki1 rfl rfl rfl rfl ?_
  refine rv_goto (q := 25) E.x dX11_makeFixedFile_143 (by decide) ?_
  refine rv_wk [true, true, true, true, false, true, true, true, false, false] ?_
  exact h25 M x1 x2 x3 x5 x6 (x7 + 1)
set_option maxRecDepth 100000 in
theorem b11_makeFixedFile_102 {p : Program} {l : Launch} {e : Env} {s : State} {m : MethodId} {args : Array Value} {below : List Frame} {meth : Method} {c : Code} {D : va_G} {cI cZ cO : ClassId} {ad : Nat → Nat} {gh : rC_gh} {de : Nat} (E : rC_E D cI cZ cO ad gh (rC_K ad gh) RX11 cX11_makeFixedFile 10 (some .boolean) p s m args meth c) (k25 : rv_Mem → Int32 → Int32 → Int64 → Int32 → Int32 → Int32 → Option (Bool × rv_Mem)) (h25 : ∀ (M : rv_Mem) (x1 : Int32) (x2 : Int32) (x3 : Int64) (x5 : Int32) (x6 : Int32) (x7 : Int32), rv_M (rC_G D cI cZ cO ad gh de) (rC_K ad gh) p l e rm11_makeFixedFile s m args below meth c 0 0 (rC_qZW D cI cZ cO ad gh de below args s) (k25 M x1 x2 x3 x5 x6 x7) 25 [some (.ref (ad 0)), some (.int x1), some (.int x2), some (.long x3), none, some (.int x5), some (.int x6), some (.int x7), none, none] [] M) : ∀ (M : rv_Mem) (x1 : Int32) (x2 : Int32) (x3 : Int64) (x5 : Int32) (x6 : Int32) (x7 : Int32), rv_M (rC_G D cI cZ cO ad gh de) (rC_K ad gh) p l e rm11_makeFixedFile s m args below meth c 0 0 (rC_qZW D cI cZ cO ad gh de below args s) (f11_makeFixedFile_102 gh k25 M x1 x2 x3 x5 x6 x7) 102 [some (.ref (ad 0)), some (.int x1), some (.int x2), some (.long x3), none, some (.int x5), some (.int x6), some (.int x7), none, none] [] M := by
  intro M x1 x2 x3 x5 x6 x7
  unfold f11_makeFixedFile_102
  refine rv_iload (q := 104) E.x dX11_makeFixedFile_102 rfl rfl ?_
  refine rv_iload (q := 106) E.x dX11_makeFixedFile_104 rfl rfl ?_
  refine rv_icmp_ge (q := 109) (tgt := 140) E.x dX11_makeFixedFile_106 (by decide) rfl ?_ ?_
  · refine rv_iload (q := 111) E.x dX11_makeFixedFile_109 rfl rfl ?_
    refine rv_iload (q := 113) E.x dX11_makeFixedFile_111 rfl rfl ?_
    refine rv_icmp_lt (q := 116) (tgt := 140) E.x dX11_makeFixedFile_113 (by decide) rfl ?_ ?_
    · refine rv_aload_n (q := 117) E.x dX11_makeFixedFile_116 rfl rfl ?_
      refine rC_getX11 (q := 120) E 0 0 wfX11_10 rfl (Nat.le_of_ble_eq_true rfl) ⟨rfl, rfl⟩ rfl dX11_makeFixedFile_117 rfl ?_
      refine rv_iload_n (q := 121) E.x dX11_makeFixedFile_120 rfl rfl ?_
      refine rv_aload_n (q := 122) E.x dX11_makeFixedFile_121 rfl rfl ?_
      refine rC_getX11 (q := 125) E 0 0 wfX11_10 rfl (Nat.le_of_ble_eq_true rfl) ⟨rfl, rfl⟩ rfl dX11_makeFixedFile_122 rfl ?_
      refine rv_iload_n (q := 126) E.x dX11_makeFixedFile_125 rfl rfl ?_
      refine rv_iload_n (q := 127) E.x dX11_makeFixedFile_126 rfl rfl ?_
      refine rv_iload (q := 129) E.x dX11_makeFixedFile_127 rfl rfl ?_
      refine rv_b1 (fun r2 e1 => ?_)
      refine rC_calliX9 (q := 132) E ⟨rfl, rfl⟩ (c9_lineAt E.2.2.1 e1) gX11_130 hX9_lineAt ⟨rfl, rfl⟩ ⟨Nat.le_of_ble_eq_true rfl, Nat.le_of_ble_eq_true rfl⟩ ⟨Nat.le_of_ble_eq_true rfl, Nat.le_of_ble_eq_true rfl⟩ rfl rfl rfl (Nat.le_of_ble_eq_true rfl) dX11_makeFixedFile_129 rfl ?_
      refine rv_b2 (fun r4 M5 e3 => ?_)
      refine rC_calliX9 (q := 135) E ⟨rfl, rfl⟩ (c9_addLine E.2.2.1 e3) gX11_562 hX9_addLine ⟨rfl, rfl⟩ ⟨Nat.le_of_ble_eq_true rfl, Nat.le_of_ble_eq_true rfl⟩ ⟨Nat.le_of_ble_eq_true rfl, Nat.le_of_ble_eq_true rfl⟩ rfl rfl rfl (Nat.le_of_ble_eq_true rfl) dX11_makeFixedFile_132 rfl ?_
      refine rv_ifz_ne (q := 138) (tgt := 140) E.x dX11_makeFixedFile_135 (by decide) rfl ?_ ?_
      · refine rv_iconst (q := 139) E.x dX11_makeFixedFile_138 rv_ki0 rfl ?_
        exact rC_zret E false rfl dX11_makeFixedFile_139
      · refine rv_wk [true, true, true, true, false, true, true, true, false, false] ?_
        exact b11_makeFixedFile_140 E k25 h25 M5 x1 x2 x3 x5 x6 x7
    · refine rv_wk [true, true, true, true, false, true, true, true, false, false] ?_
      exact b11_makeFixedFile_140 E k25 h25 M x1 x2 x3 x5 x6 x7
  · refine rv_wk [true, true, true, true, false, true, true, true, false, false] ?_
    exact b11_makeFixedFile_140 E k25 h25 M x1 x2 x3 x5 x6 x7
set_option maxRecDepth 100000 in
theorem b11_makeFixedFile_25_s {p : Program} {l : Launch} {e : Env} {s : State} {m : MethodId} {args : Array Value} {below : List Frame} {meth : Method} {c : Code} {D : va_G} {cI cZ cO : ClassId} {ad : Nat → Nat} {gh : rC_gh} {de : Nat} (E : rC_E D cI cZ cO ad gh (rC_K ad gh) RX11 cX11_makeFixedFile 10 (some .boolean) p s m args meth c)   (k25 : rv_Mem → Int32 → Int32 → Int64 → Int32 → Int32 → Int32 → Option (Bool × rv_Mem)) (h25 : ∀ (M : rv_Mem) (x1 : Int32) (x2 : Int32) (x3 : Int64) (x5 : Int32) (x6 : Int32) (x7 : Int32), rv_M (rC_G D cI cZ cO ad gh de) (rC_K ad gh) p l e rm11_makeFixedFile s m args below meth c 0 0 (rC_qZW D cI cZ cO ad gh de below args s) (k25 M x1 x2 x3 x5 x6 x7) 25 [some (.ref (ad 0)), some (.int x1), some (.int x2), some (.long x3), none, some (.int x5), some (.int x6), some (.int x7), none, none] [] M) : ∀ (M : rv_Mem) (x1 : Int32) (x2 : Int32) (x3 : Int64) (x5 : Int32) (x6 : Int32) (x7 : Int32), rv_M (rC_G D cI cZ cO ad gh de) (rC_K ad gh) p l e rm11_makeFixedFile s m args below meth c 0 0 (rC_qZW D cI cZ cO ad gh de below args s) (f11_makeFixedFile_25_s gh k25 M x1 x2 x3 x5 x6 x7) 25 [some (.ref (ad 0)), some (.int x1), some (.int x2), some (.long x3), none, some (.int x5), some (.int x6), some (.int x7), none, none] [] M := by
  intro M x1 x2 x3 x5 x6 x7
  unfold f11_makeFixedFile_25_s
  refine rv_iload (q := 27) E.x dX11_makeFixedFile_25 rfl rfl ?_
  refine rv_iload (q := 29) E.x dX11_makeFixedFile_27 rfl rfl ?_
  refine rv_icmp_gt (q := 32) (tgt := 146) E.x dX11_makeFixedFile_29 (by decide) rfl ?_ ?_
  · refine rv_aload_n (q := 33) E.x dX11_makeFixedFile_32 rfl rfl ?_
    refine rv_iload_n (q := 34) E.x dX11_makeFixedFile_33 rfl rfl ?_
    refine rv_iload (q := 36) E.x dX11_makeFixedFile_34 rfl rfl ?_
    refine rv_lload_n (q := 37) E.x dX11_makeFixedFile_36 rfl rfl ?_
    refine rv_b1 (fun r2 e1 => ?_)
    refine rC_calliX11 (q := 40) E ⟨rfl, rfl⟩ (c11_fixAt E.2.2.1 e1) gX11_555 hX11_fixAt ⟨rfl, rfl⟩ ⟨Nat.le_of_ble_eq_true rfl, Nat.le_of_ble_eq_true rfl⟩ ⟨Nat.le_of_ble_eq_true rfl, Nat.le_of_ble_eq_true rfl⟩ rfl rfl rfl (Nat.le_of_ble_eq_true rfl) dX11_makeFixedFile_37 rfl ?_
    refine rv_istore (q := 42) (lv' := [_, _, _, _, _, _, _, _, _, _]) E.x dX11_makeFixedFile_40 (Nat.le_of_ble_eq_true rfl) rfl rfl rfl ?_
    refine rv_iload (q := 44) E.x dX11_makeFixedFile_42 rfl rfl ?_
    refine rv_iconst (q := 45) E.x dX11_makeFixedFile_44 rv_kim1 rfl ?_
    refine rv_icmp_eq (q := 48) (tgt := 102) E.x dX11_makeFixedFile_45 (by decide) rfl ?_ ?_
    · refine rv_aload_n (q := 49) E.x dX11_makeFixedFile_48 rfl rfl ?_
      refine rC_getX11 (q := 52) E 0 7 wfX11_56 rfl (Nat.le_of_ble_eq_true rfl) ⟨rfl, rfl⟩ rfl dX11_makeFixedFile_49 rfl ?_
      refine rv_iload (q := 54) E.x dX11_makeFixedFile_52 rfl rfl ?_
      refine rC_lgt (q := 57) E 2 (by decide) (cJ_get E.2.2.1 2) ⟨rfl, rfl⟩ gX11_223 ⟨Nat.le_of_ble_eq_true rfl, Nat.le_of_ble_eq_true rfl⟩ ⟨Nat.le_of_ble_eq_true rfl, Nat.le_of_ble_eq_true rfl⟩ rfl (Nat.le_of_ble_eq_true rfl) dX11_makeFixedFile_54 rfl ?_
      refine rv_g (fun g3 => ?_)
      refine rC_cstX4 (q := 60) E (rC_at_of g3) wxX11_363 dX11_makeFixedFile_57 rfl ?_
      refine rv_astore (q := 62) (lv' := [_, _, _, _, _, _, _, _, _, _]) E.x dX11_makeFixedFile_60 (Nat.le_of_ble_eq_true rfl) rfl rfl rfl ?_
      refine rv_iload (q := 64) E.x dX11_makeFixedFile_62 rfl rfl ?_
      refine rv_aload (q := 66) E.x dX11_makeFixedFile_64 rfl rfl ?_
      refine rC_getX4 (q := 69) E (400 + (r2).toNatClampNeg) 2 wfX11_547 rfl (Nat.le_of_ble_eq_true rfl) (rC_at_of g3) rfl dX11_makeFixedFile_66 rfl ?_
      refine rv_g (fun g4 => ?_)
      refine rC_getX7 (q := 72) E ((400 + (r2).toNatClampNeg) + 100) 4 wfX11_339 rfl (Nat.le_of_ble_eq_true rfl) (rC_at_of g4) rfl dX11_makeFixedFile_69 rfl ?_
      refine rv_iadd (q := 73) E.x dX11_makeFixedFile_72 rfl ?_
      refine rv_istore (q := 75) (lv' := [_, _, _, _, _, _, _, _, _, _]) E.x dX11_makeFixedFile_73 (Nat.le_of_ble_eq_true rfl) rfl rfl rfl ?_
      refine rv_aload (q := 77) E.x dX11_makeFixedFile_75 rfl rfl ?_
      refine rC_getX4 (q := 80) E (400 + (r2).toNatClampNeg) 1 wfX11_559 rfl (Nat.le_of_ble_eq_true rfl) (rC_at_of g3) rfl dX11_makeFixedFile_77 rfl ?_
      refine rv_iconst (q := 81) E.x dX11_makeFixedFile_80 rv_kim1 rfl ?_
      refine rv_icmp_eq (q := 84) (tgt := 102) E.x dX11_makeFixedFile_81 (by decide) rfl ?_ ?_
      · refine rv_aload_n (q := 85) E.x dX11_makeFixedFile_84 rfl rfl ?_
        refine rC_getX11 (q := 88) E 0 0 wfX11_10 rfl (Nat.le_of_ble_eq_true rfl) ⟨rfl, rfl⟩ rfl dX11_makeFixedFile_85 rfl ?_
        refine rv_iload_n (q := 89) E.x dX11_makeFixedFile_88 rfl rfl ?_
        refine rv_aload (q := 91) E.x dX11_makeFixedFile_89 rfl rfl ?_
        refine rC_getX4 (q := 94) E (400 + (r2).toNatClampNeg) 1 wfX11_559 rfl (Nat.le_of_ble_eq_true rfl) (rC_at_of g3) rfl dX11_makeFixedFile_91 rfl ?_
        refine rv_b2 (fun r6 M7 e5 => ?_)
        refine rC_calliX9 (q := 97) E ⟨rfl, rfl⟩ (c9_addLine E.2.2.1 e5) gX11_562 hX9_addLine ⟨rfl, rfl⟩ ⟨Nat.le_of_ble_eq_true rfl, Nat.le_of_ble_eq_true rfl⟩ ⟨Nat.le_of_ble_eq_true rfl, Nat.le_of_ble_eq_true rfl⟩ rfl rfl rfl (Nat.le_of_ble_eq_true rfl) dX11_makeFixedFile_94 rfl ?_
        refine rv_ifz_ne (q := 100) (tgt := 102) E.x dX11_makeFixedFile_97 (by decide) rfl ?_ ?_
        · refine rv_iconst (q := 101) E.x dX11_makeFixedFile_100 rv_ki0 rfl ?_
          exact rC_zret E false rfl dX11_makeFixedFile_101
        · refine rv_wk [true, true, true, true, false, true, true, true, false, false] ?_
          exact b11_makeFixedFile_102 E k25 h25 M7 x1 x2 x3 x5 (x7 + (M ((400 + (r2).toNatClampNeg) + 100) 4)) x7
      · refine rv_wk [true, true, true, true, false, true, true, true, false, false] ?_
        exact b11_makeFixedFile_102 E k25 h25 M x1 x2 x3 x5 (x7 + (M ((400 + (r2).toNatClampNeg) + 100) 4)) x7
    · refine rv_wk [true, true, true, true, false, true, true, true, false, false] ?_
      exact b11_makeFixedFile_102 E k25 h25 M x1 x2 x3 x5 x6 x7
  · refine rv_iconst (q := 147) E.x dX11_makeFixedFile_146 rv_ki1 rfl ?_
    exact rC_zret E true rfl dX11_makeFixedFile_147
theorem b11_makeFixedFile_25 {p : Program} {l : Launch} {e : Env} {s : State} {m : MethodId} {args : Array Value} {below : List Frame} {meth : Method} {c : Code} {D : va_G} {cI cZ cO : ClassId} {ad : Nat → Nat} {gh : rC_gh} {de : Nat} (E : rC_E D cI cZ cO ad gh (rC_K ad gh) RX11 cX11_makeFixedFile 10 (some .boolean) p s m args meth c)   : ∀ (n : Nat), ∀ (M : rv_Mem) (x1 : Int32) (x2 : Int32) (x3 : Int64) (x5 : Int32) (x6 : Int32) (x7 : Int32), rv_M (rC_G D cI cZ cO ad gh de) (rC_K ad gh) p l e rm11_makeFixedFile s m args below meth c 0 0 (rC_qZW D cI cZ cO ad gh de below args s) (f11_makeFixedFile_25 gh n M x1 x2 x3 x5 x6 x7) 25 [some (.ref (ad 0)), some (.int x1), some (.int x2), some (.long x3), none, some (.int x5), some (.int x6), some (.int x7), none, none] [] M := by
  intro n
  induction n with
  | zero => exact fun _ _ _ _ _ _ _ => rv_stuck
  | succ n ih => exact b11_makeFixedFile_25_s E  (f11_makeFixedFile_25 gh n) ih
set_option maxRecDepth 100000 in
theorem b11_makeFixedFile {p : Program} {l : Launch} {e : Env} {s : State} {m : MethodId} {args : Array Value} {below : List Frame} {meth : Method} {c : Code} {D : va_G} {cI cZ cO : ClassId} {ad : Nat → Nat} {gh : rC_gh} {de : Nat} (E : rC_E D cI cZ cO ad gh (rC_K ad gh) RX11 cX11_makeFixedFile 10 (some .boolean) p s m args meth c) (M : rv_Mem) (a1 : Int32) (a2 : Int32) (a3 : Int64) : rv_M (rC_G D cI cZ cO ad gh de) (rC_K ad gh) p l e rm11_makeFixedFile s m args below meth c 0 0 (rC_qZW D cI cZ cO ad gh de below args s) (f11_makeFixedFile gh M a1 a2 a3) 0 [some (.ref (ad 0)), some (.int a1), some (.int a2), some (.long a3), none, none, none, none, none, none] [] M := by
  unfold f11_makeFixedFile
  refine rv_aload_n (q := 1) E.x dX11_makeFixedFile_0 rfl rfl ?_
  refine rC_getX11 (q := 4) E 0 0 wfX11_10 rfl (Nat.le_of_ble_eq_true rfl) ⟨rfl, rfl⟩ rfl dX11_makeFixedFile_1 rfl ?_
  refine rv_iload_n (q := 5) E.x dX11_makeFixedFile_4 rfl rfl ?_
  refine rv_iload_n (q := 6) E.x dX11_makeFixedFile_5 rfl rfl ?_
  refine rv_b1 (fun r2 e1 => ?_)
  refine rC_calliX9 (q := 9) E ⟨rfl, rfl⟩ (c9_sizeOf E.2.2.1 e1) gX11_105 hX9_sizeOf ⟨rfl, rfl⟩ ⟨Nat.le_of_ble_eq_true rfl, Nat.le_of_ble_eq_true rfl⟩ ⟨Nat.le_of_ble_eq_true rfl, Nat.le_of_ble_eq_true rfl⟩ rfl rfl rfl (Nat.le_of_ble_eq_true rfl) dX11_makeFixedFile_6 rfl ?_
  refine rv_istore (q := 11) (lv' := [_, _, _, _, _, _, _, _, _, _]) E.x dX11_makeFixedFile_9 (Nat.le_of_ble_eq_true rfl) rfl rfl rfl ?_
  refine rv_iconst (q := 12) E.x dX11_makeFixedFile_11 rv_ki0 rfl ?_
  refine rv_istore (q := 14) (lv' := [_, _, _, _, _, _, _, _, _, _]) E.x dX11_makeFixedFile_12 (Nat.le_of_ble_eq_true rfl) rfl rfl rfl ?_
  refine rv_aload_n (q := 15) E.x dX11_makeFixedFile_14 rfl rfl ?_
  refine rC_getX11 (q := 18) E 0 0 wfX11_10 rfl (Nat.le_of_ble_eq_true rfl) ⟨rfl, rfl⟩ rfl dX11_makeFixedFile_15 rfl ?_
  refine rv_iload_n (q := 19) E.x dX11_makeFixedFile_18 rfl rfl ?_
  refine rv_b1 (fun M4 e3 => ?_)
  refine rC_callvX9 (q := 22) E ⟨rfl, rfl⟩ (c9_startFile E.2.2.1 e3) gX11_552 hX9_startFile ⟨rfl, rfl⟩ ⟨Nat.le_of_ble_eq_true rfl, Nat.le_of_ble_eq_true rfl⟩ ⟨Nat.le_of_ble_eq_true rfl, Nat.le_of_ble_eq_true rfl⟩ rfl rfl rfl (Nat.le_of_ble_eq_true rfl) dX11_makeFixedFile_19 rfl ?_
  refine rv_iconst (q := 23) E.x dX11_makeFixedFile_22 rv_ki0 rfl ?_
  refine rv_istore (q := 25) (lv' := [_, _, _, _, _, _, _, _, _, _]) E.x dX11_makeFixedFile_23 (Nat.le_of_ble_eq_true rfl) rfl rfl rfl ?_
  refine rv_wk [true, true, true, true, false, true, true, true, false, false] ?_
  exact b11_makeFixedFile_25 E rv_FU M4 a1 a2 a3 r2 0 0
theorem c11_makeFixedFile {l : Launch} {D : va_G} {cI cZ cO : ClassId} {ad : Nat → Nat} {gh : rC_gh} {de : Nat} (hI : rC_I ad gh) {M : rv_Mem} {a1 : Int32} {a2 : Int32} {a3 : Int64} {r : Bool} {M1 : rv_Mem} (h : f11_makeFixedFile gh M a1 a2 a3 = some (r, M1)) : Met l yX11_makeFixedFile (rv_ws yX11_makeFixedFile cX11_makeFixedFile 10 (some .boolean)) rm11_makeFixedFile (rC_Pc D cI cZ cO ad gh de [.ref (ad 0), .int a1, .int a2, .long a3] M) (rC_QI D cI cZ cO ad gh de (rv_i r) M1) 0 0 (rC_K ad gh) := rC_met hI rfl (by decide) (Nat.le_of_ble_eq_true rfl) (fun p e s m args below meth c E => ⟨(rC_qZW D cI cZ cO ad gh de below args s), rfl, b11_makeFixedFile E M a1 a2 a3⟩) h
abbrev rm11_takeFixes : Room := { frames := 7, cells := 0, slots := 0, locals := 156 }
def qx11_takeFixes (D : va_G) (cI cZ cO : ClassId) (ad : Nat → Nat) (gh : rC_gh) (de : Nat) (below : List Frame) (args : Array Value) (s : State) : (Int32 × rv_Mem) ⊕ (Nat × rv_Mem) → State → Prop := fun r => match r with
  | .inl r => vx_MQ below (rC_qi D cI cZ cO ad gh de (rC_A ad gh s.heap.size) r.1 r.2) (rC_fx (rC_A ad gh s.heap.size)) args s 0 0 (rC_A ad gh s.heap.size)
  | .inr _ => fun _ => True
set_option maxRecDepth 100000 in
theorem b11_takeFixes_47_s {p : Program} {l : Launch} {e : Env} {s : State} {m : MethodId} {args : Array Value} {below : List Frame} {meth : Method} {c : Code} {D : va_G} {cI cZ cO : ClassId} {ad : Nat → Nat} {gh : rC_gh} {de : Nat} (E : rC_X D cI cZ cO ad gh RX11 cX11_takeFixes 7 (some .int) p l s m args meth c)   (k47 : rv_Mem → Int32 → Int32 → Int64 → Int32 → Option ((Int32 × rv_Mem) ⊕ (Nat × rv_Mem))) (h47 : ∀ (M : rv_Mem) (x2 : Int32) (x3 : Int32) (x4 : Int64) (x6 : Int32), rv_M (rC_G D cI cZ cO ad gh de) (rC_A ad gh s.heap.size) p l e rm11_takeFixes s m args below meth c 0 0 (qx11_takeFixes D cI cZ cO ad gh de below args s) (k47 M x2 x3 x4 x6) 47 [some (.ref (ad 0)), none, some (.int x2), some (.int x3), some (.long x4), none, some (.int x6)] [] M) : ∀ (M : rv_Mem) (x2 : Int32) (x3 : Int32) (x4 : Int64) (x6 : Int32), rv_M (rC_G D cI cZ cO ad gh de) (rC_A ad gh s.heap.size) p l e rm11_takeFixes s m args below meth c 0 0 (qx11_takeFixes D cI cZ cO ad gh de below args s) (f11_takeFixes_47_s gh k47 M x2 x3 x4 x6) 47 [some (.ref (ad 0)), none, some (.int x2), some (.int x3), some (.long x4), none, some (.int x6)] [] M := by
  intro M x2 x3 x4 x6
  unfold f11_takeFixes_47_s
  refine rv_iload (q := 49) E.1.x dX11_takeFixes_47 rfl rfl ?_
  refine rv_iconst (q := 50) E.1.x dX11_takeFixes_49 rv_ki4 rfl ?_
  refine rv_icmp_ge (q := 53) (tgt := 82) E.1.x dX11_takeFixes_50 (by decide) rfl ?_ ?_
  · refine rv_aload_n (q := 54) E.1.x dX11_takeFixes_53 rfl rfl ?_
    refine rv_iload_n (q := 55) E.1.x dX11_takeFixes_54 rfl rfl ?_
    refine rv_iload (q := 57) E.1.x dX11_takeFixes_55 rfl rfl ?_
    refine rv_lload (q := 59) E.1.x dX11_takeFixes_57 rfl rfl ?_
    refine rv_b2 (fun r2 M3 e1 => ?_)
    refine rC_calliX11 (q := 62) E.1 ⟨rfl, rfl⟩ (c11_makeFixedFile E.1.2.2.1 e1) gX11_378 hX11_makeFixedFile ⟨rfl, rfl⟩ ⟨Nat.le_of_ble_eq_true rfl, Nat.le_of_ble_eq_true rfl⟩ ⟨Nat.le_of_ble_eq_true rfl, Nat.le_of_ble_eq_true rfl⟩ rfl rfl rfl (Nat.le_of_ble_eq_true rfl) dX11_takeFixes_59 rfl ?_
    refine rv_ifz_ne (q := 65) (tgt := 76) E.1.x dX11_takeFixes_62 (by decide) rfl ?_ ?_
    · exact rv_tr (fun _ => trivial)
    · refine rv_iinc (q := 79) (lv' := [_, _, _, _, _, _, _]) E.1.x dX11_takeFixes_76 rv_ki1 rfl rfl rfl rfl ?_
      refine rv_goto (q := 47) E.1.x dX11_takeFixes_79 (by decide) ?_
      refine rv_wk [true, false, true, true, true, false, true] ?_
      exact h47 M3 x2 x3 x4 (x6 + 1)
  · refine rv_aload_n (q := 83) E.1.x dX11_takeFixes_82 rfl rfl ?_
    refine rC_getX11 (q := 86) E.1 0 0 wfX11_10 rfl (Nat.le_of_ble_eq_true rfl) ⟨rfl, rfl⟩ rfl dX11_takeFixes_83 rfl ?_
    refine rv_bipush (q := 88) E.1.x dX11_takeFixes_86 rv_kb81 rfl ?_
    refine rv_bipush (q := 90) E.1.x dX11_takeFixes_88 rv_kb80 rfl ?_
    refine rv_b1 (fun M5 e4 => ?_)
    refine rC_callvX9 (q := 93) E.1 ⟨rfl, rfl⟩ (c9_copyFiles E.1.2.2.1 e4) gX11_83 hX9_copyFiles ⟨rfl, rfl⟩ ⟨Nat.le_of_ble_eq_true rfl, Nat.le_of_ble_eq_true rfl⟩ ⟨Nat.le_of_ble_eq_true rfl, Nat.le_of_ble_eq_true rfl⟩ rfl rfl rfl (Nat.le_of_ble_eq_true rfl) dX11_takeFixes_90 rfl ?_
    refine rv_aload_n (q := 94) E.1.x dX11_takeFixes_93 rfl rfl ?_
    refine rv_aload_n (q := 95) E.1.x dX11_takeFixes_94 rfl rfl ?_
    refine rC_getX11 (q := 98) E.1 0 0 wfX11_10 rfl (Nat.le_of_ble_eq_true rfl) ⟨rfl, rfl⟩ rfl dX11_takeFixes_95 rfl ?_
    refine rv_iload_n (q := 99) E.1.x dX11_takeFixes_98 rfl rfl ?_
    refine rv_b1 (fun r7 e6 => ?_)
    refine rC_calliX9 (q := 102) E.1 ⟨rfl, rfl⟩ (c9_baseOf E.1.2.2.1 e6) gX11_99 hX9_baseOf ⟨rfl, rfl⟩ ⟨Nat.le_of_ble_eq_true rfl, Nat.le_of_ble_eq_true rfl⟩ ⟨Nat.le_of_ble_eq_true rfl, Nat.le_of_ble_eq_true rfl⟩ rfl rfl rfl (Nat.le_of_ble_eq_true rfl) dX11_takeFixes_99 rfl ?_
    refine rv_b2 (fun r9 M10 e8 => ?_)
    refine rC_calliX11 (q := 105) E.1 ⟨rfl, rfl⟩ (c11_moveDesk E.1.2.2.1 e8) gX11_87 hX11_moveDesk ⟨rfl, rfl⟩ ⟨Nat.le_of_ble_eq_true rfl, Nat.le_of_ble_eq_true rfl⟩ ⟨Nat.le_of_ble_eq_true rfl, Nat.le_of_ble_eq_true rfl⟩ rfl rfl rfl (Nat.le_of_ble_eq_true rfl) dX11_takeFixes_102 rfl ?_
    refine rv_pop (q := 106) E.1.x dX11_takeFixes_105 rfl rfl ?_
    refine rv_iload_n (q := 107) E.1.x dX11_takeFixes_106 rfl rfl ?_
    refine rv_b1 (fun r12 e11 => ?_)
    refine rC_calls (q := 110) E.1 (cJ_bits e11) gX11_384 hJ6_bitCount_0f7a4 ⟨rfl, rfl⟩ ⟨Nat.le_of_ble_eq_true rfl, Nat.le_of_ble_eq_true rfl⟩ ⟨Nat.le_of_ble_eq_true rfl, Nat.le_of_ble_eq_true rfl⟩ rfl rfl rfl (Nat.le_of_ble_eq_true rfl) dX11_takeFixes_107 rfl ?_
    exact rC_xiret E rfl ⟨Nat.le_of_ble_eq_true rfl, Nat.le_of_ble_eq_true rfl⟩ dX11_takeFixes_110
theorem b11_takeFixes_47 {p : Program} {l : Launch} {e : Env} {s : State} {m : MethodId} {args : Array Value} {below : List Frame} {meth : Method} {c : Code} {D : va_G} {cI cZ cO : ClassId} {ad : Nat → Nat} {gh : rC_gh} {de : Nat} (E : rC_X D cI cZ cO ad gh RX11 cX11_takeFixes 7 (some .int) p l s m args meth c)   : ∀ (n : Nat), ∀ (M : rv_Mem) (x2 : Int32) (x3 : Int32) (x4 : Int64) (x6 : Int32), rv_M (rC_G D cI cZ cO ad gh de) (rC_A ad gh s.heap.size) p l e rm11_takeFixes s m args below meth c 0 0 (qx11_takeFixes D cI cZ cO ad gh de below args s) (f11_takeFixes_47 gh n M x2 x3 x4 x6) 47 [some (.ref (ad 0)), none, some (.int x2), some (.int x3), some (.long x4), none, some (.int x6)] [] M := by
  intro n
  induction n with
  | zero => exact fun _ _ _ _ _ => rv_stuck
  | succ n ih => exact b11_takeFixes_47_s E  (f11_takeFixes_47 gh n) ih
set_option maxRecDepth 100000 in
theorem b11_takeFixes {p : Program} {l : Launch} {e : Env} {s : State} {m : MethodId} {args : Array Value} {below : List Frame} {meth : Method} {c : Code} {D : va_G} {cI cZ cO : ClassId} {ad : Nat → Nat} {gh : rC_gh} {de : Nat} (E : rC_X D cI cZ cO ad gh RX11 cX11_takeFixes 7 (some .int) p l s m args meth c) (M : rv_Mem) (a1 : Int32) (a2 : Int32) : rv_M (rC_G D cI cZ cO ad gh de) (rC_A ad gh s.heap.size) p l e rm11_takeFixes s m args below meth c 0 0 (qx11_takeFixes D cI cZ cO ad gh de below args s) (f11_takeFixes gh M a1 a2) 0 [some (.ref (ad 0)), some (.int a1), some (.int a2), none, none, none, none] [] M := by
  unfold f11_takeFixes
  refine rv_aload_n (q := 1) E.1.x dX11_takeFixes_0 rfl rfl ?_
  refine rC_getX11 (q := 4) E.1 0 0 wfX11_10 rfl (Nat.le_of_ble_eq_true rfl) ⟨rfl, rfl⟩ rfl dX11_takeFixes_1 rfl ?_
  refine rv_aload_n (q := 5) E.1.x dX11_takeFixes_4 rfl rfl ?_
  refine rv_iload_n (q := 6) E.1.x dX11_takeFixes_5 rfl rfl ?_
  refine rv_x2r (fun r2 e1 => ?_) (fun w3 e4 => rv_tr (fun _ => trivial))
  refine rC_xVrX11 (q := 9) E ⟨rfl, rfl⟩ (fun _ => c11_needChange E.2.1 E.1.2.2.1 e1) gX11_91 hX11_needChange ⟨rfl, rfl⟩ ⟨Nat.le_of_ble_eq_true rfl, Nat.le_of_ble_eq_true rfl⟩ ⟨Nat.le_of_ble_eq_true rfl, Nat.le_of_ble_eq_true rfl⟩ rfl rfl rfl (Nat.le_of_ble_eq_true rfl) dX11_takeFixes_6 rfl ?_
  refine rv_g (fun g5 => ?_)
  refine rC_getX0 (q := 12) E.1 r2 0 wfX11_180 rfl (Nat.le_of_ble_eq_true rfl) (rC_at_of g5) rfl dX11_takeFixes_9 rfl ?_
  refine rv_b1 (fun r7 e6 => ?_)
  refine rC_calliX9 (q := 15) E.1 ⟨rfl, rfl⟩ (c9_currentOf E.1.2.2.1 e6) gX11_204 hX9_currentOf ⟨rfl, rfl⟩ ⟨Nat.le_of_ble_eq_true rfl, Nat.le_of_ble_eq_true rfl⟩ ⟨Nat.le_of_ble_eq_true rfl, Nat.le_of_ble_eq_true rfl⟩ rfl rfl rfl (Nat.le_of_ble_eq_true rfl) dX11_takeFixes_12 rfl ?_
  refine rv_istore_n (q := 16) (lv' := [_, _, _, _, _, _, _]) E.1.x dX11_takeFixes_15 (Nat.le_of_ble_eq_true rfl) rfl rfl rfl ?_
  refine rv_aload_n (q := 17) E.1.x dX11_takeFixes_16 rfl rfl ?_
  refine rv_iload_n (q := 18) E.1.x dX11_takeFixes_17 rfl rfl ?_
  refine rv_iload_n (q := 19) E.1.x dX11_takeFixes_18 rfl rfl ?_
  refine rv_x2r (fun r9 e8 => ?_) (fun w10 e11 => rv_tr (fun _ => trivial))
  refine rC_xVlX11 (q := 22) E ⟨rfl, rfl⟩ (fun _ => c11_chooseFixes E.2.1 E.1.2.2.1 e8) gX11_368 hX11_chooseFixes ⟨rfl, rfl⟩ ⟨Nat.le_of_ble_eq_true rfl, Nat.le_of_ble_eq_true rfl⟩ ⟨Nat.le_of_ble_eq_true rfl, Nat.le_of_ble_eq_true rfl⟩ rfl rfl rfl (Nat.le_of_ble_eq_true rfl) dX11_takeFixes_19 rfl ?_
  refine rv_lstore (q := 24) (lv' := [_, _, _, _, _, _, _]) E.1.x dX11_takeFixes_22 (Nat.le_of_ble_eq_true rfl) rfl rfl rfl ?_
  refine rv_aload_n (q := 25) E.1.x dX11_takeFixes_24 rfl rfl ?_
  refine rv_lload (q := 27) E.1.x dX11_takeFixes_25 rfl rfl ?_
  refine rv_b1 (fun r13 e12 => ?_)
  refine rC_calliX11 (q := 30) E.1 ⟨rfl, rfl⟩ (c11_isSomeTouching E.1.2.2.1 e12) gX11_372 hX11_isSomeTouching ⟨rfl, rfl⟩ ⟨Nat.le_of_ble_eq_true rfl, Nat.le_of_ble_eq_true rfl⟩ ⟨Nat.le_of_ble_eq_true rfl, Nat.le_of_ble_eq_true rfl⟩ rfl rfl rfl (Nat.le_of_ble_eq_true rfl) dX11_takeFixes_27 rfl ?_
  refine rv_ifz_eq (q := 33) (tgt := 44) E.1.x dX11_takeFixes_30 (by decide) rfl ?_ ?_
  · exact rv_tr (fun _ => trivial)
  · refine rv_iconst (q := 45) E.1.x dX11_takeFixes_44 rv_ki0 rfl ?_
    refine rv_istore (q := 47) (lv' := [_, _, _, _, _, _, _]) E.1.x dX11_takeFixes_45 (Nat.le_of_ble_eq_true rfl) rfl rfl rfl ?_
    refine rv_wk [true, false, true, true, true, false, true] ?_
    exact b11_takeFixes_47 E rv_FU M a2 r7 r9 0
theorem c11_takeFixes {l : Launch} {D : va_G} {cI cZ cO : ClassId} {ad : Nat → Nat} {gh : rC_gh} {de : Nat} (hfl : l.stackTraces = false) (hI : rC_I ad gh) {sz : Nat} {M : rv_Mem} {a1 : Int32} {a2 : Int32} {r : Int32} {M1 : rv_Mem} (h : f11_takeFixes gh M a1 a2 = some (.inl (r, M1))) : vx_Met l yX11_takeFixes (rv_ws yX11_takeFixes cX11_takeFixes 7 (some .int)) rm11_takeFixes (rC_Px D cI cZ cO ad gh de sz [.ref (ad 0), .int a1, .int a2] M) (rC_qi D cI cZ cO ad gh de (rC_A ad gh sz) r M1) (rC_fx (rC_A ad gh sz)) 0 0 (rC_A ad gh sz) := rC_xmet (Qc := fun A => rC_qi D cI cZ cO ad gh de A r M1) (XC := fun A => rC_fx A) hfl hI rfl (by decide) (Nat.le_of_ble_eq_true rfl) (fun p e s m args below meth c E => ⟨(qx11_takeFixes D cI cZ cO ad gh de below args s), rfl, b11_takeFixes E M a1 a2⟩) h
abbrev rmx11_takeFixes : Room := { frames := 7, cells := 1, slots := 6, locals := 156 }
def qy11_takeFixes (D : va_G) (cI cZ cO : ClassId) (ad : Nat → Nat) (gh : rC_gh) (de : Nat) (below : List Frame) (args : Array Value) (s : State) : (Int32 × rv_Mem) ⊕ (Nat × rv_Mem) → State → Prop := fun r => match r with
  | .inl _ => fun _ => True
  | .inr r => vx_MQ below (rC_fi (rC_A ad gh s.heap.size)) (rC_xc D cI cZ cO ad gh de (rC_A ad gh s.heap.size) r.1 r.2) args s 1 6 (rC_A ad gh s.heap.size)
set_option maxRecDepth 100000 in
theorem bx11_takeFixes_47_s {p : Program} {l : Launch} {e : Env} {s : State} {m : MethodId} {args : Array Value} {below : List Frame} {meth : Method} {c : Code} {D : va_G} {cI cZ cO : ClassId} {ad : Nat → Nat} {gh : rC_gh} {de : Nat} (E : rC_X D cI cZ cO ad gh RX11 cX11_takeFixes 7 (some .int) p l s m args meth c)   (k47 : rv_Mem → Int32 → Int32 → Int64 → Int32 → Option ((Int32 × rv_Mem) ⊕ (Nat × rv_Mem))) (h47 : ∀ (M : rv_Mem) (x2 : Int32) (x3 : Int32) (x4 : Int64) (x6 : Int32), rv_M (rC_G D cI cZ cO ad gh de) (rC_A ad gh s.heap.size) p l e rmx11_takeFixes s m args below meth c 0 0 (qy11_takeFixes D cI cZ cO ad gh de below args s) (k47 M x2 x3 x4 x6) 47 [some (.ref (ad 0)), none, some (.int x2), some (.int x3), some (.long x4), none, some (.int x6)] [] M) : ∀ (M : rv_Mem) (x2 : Int32) (x3 : Int32) (x4 : Int64) (x6 : Int32), rv_M (rC_G D cI cZ cO ad gh de) (rC_A ad gh s.heap.size) p l e rmx11_takeFixes s m args below meth c 0 0 (qy11_takeFixes D cI cZ cO ad gh de below args s) (f11_takeFixes_47_s gh k47 M x2 x3 x4 x6) 47 [some (.ref (ad 0)), none, some (.int x2), some (.int x3), some (.long x4), none, some (.int x6)] [] M := by
  intro M x2 x3 x4 x6
  unfold f11_takeFixes_47_s
  refine rv_iload (q := 49) E.1.x dX11_takeFixes_47 rfl rfl ?_
  refine rv_iconst (q := 50) E.1.x dX11_takeFixes_49 rv_ki4 rfl ?_
  refine rv_icmp_ge (q := 53) (tgt := 82) E.1.x dX11_takeFixes_50 (by decide) rfl ?_ ?_
  · refine rv_aload_n (q := 54) E.1.x dX11_takeFixes_53 rfl rfl ?_
    refine rv_iload_n (q := 55) E.1.x dX11_takeFixes_54 rfl rfl ?_
    refine rv_iload (q := 57) E.1.x dX11_takeFixes_55 rfl rfl ?_
    refine rv_lload (q := 59) E.1.x dX11_takeFixes_57 rfl rfl ?_
    refine rv_b2 (fun r2 M3 e1 => ?_)
    refine rC_calliX11 (q := 62) E.1 ⟨rfl, rfl⟩ (c11_makeFixedFile E.1.2.2.1 e1) gX11_378 hX11_makeFixedFile ⟨rfl, rfl⟩ ⟨Nat.le_of_ble_eq_true rfl, Nat.le_of_ble_eq_true rfl⟩ ⟨Nat.le_of_ble_eq_true rfl, Nat.le_of_ble_eq_true rfl⟩ rfl rfl rfl (Nat.le_of_ble_eq_true rfl) dX11_takeFixes_59 rfl ?_
    refine rv_ifz_ne (q := 65) (tgt := 76) E.1.x dX11_takeFixes_62 (by decide) rfl ?_ ?_
    · exact rC_throwW (x := 3) E rfl (by decide +kernel) rC_xk3 rC_xi3 rC_xg3 rC_xn3 rC_xo3 E.2.2.2.2.2.2.2.2.1 (is := 382) (text := "a file would be too long") (by decide +kernel) rfl rfl dX11_takeFixes_65 dX11_takeFixes_68 dX11_takeFixes_69 dX11_takeFixes_72 dX11_takeFixes_75 (Nat.le_of_ble_eq_true rfl) (Nat.le_of_ble_eq_true rfl) ⟨Nat.le_of_ble_eq_true rfl, Nat.le_of_ble_eq_true rfl⟩ ⟨Nat.le_of_ble_eq_true rfl, Nat.le_of_ble_eq_true rfl⟩
    · refine rv_iinc (q := 79) (lv' := [_, _, _, _, _, _, _]) E.1.x dX11_takeFixes_76 rv_ki1 rfl rfl rfl rfl ?_
      refine rv_goto (q := 47) E.1.x dX11_takeFixes_79 (by decide) ?_
      refine rv_wk [true, false, true, true, true, false, true] ?_
      exact h47 M3 x2 x3 x4 (x6 + 1)
  · refine rv_aload_n (q := 83) E.1.x dX11_takeFixes_82 rfl rfl ?_
    refine rC_getX11 (q := 86) E.1 0 0 wfX11_10 rfl (Nat.le_of_ble_eq_true rfl) ⟨rfl, rfl⟩ rfl dX11_takeFixes_83 rfl ?_
    refine rv_bipush (q := 88) E.1.x dX11_takeFixes_86 rv_kb81 rfl ?_
    refine rv_bipush (q := 90) E.1.x dX11_takeFixes_88 rv_kb80 rfl ?_
    refine rv_b1 (fun M5 e4 => ?_)
    refine rC_callvX9 (q := 93) E.1 ⟨rfl, rfl⟩ (c9_copyFiles E.1.2.2.1 e4) gX11_83 hX9_copyFiles ⟨rfl, rfl⟩ ⟨Nat.le_of_ble_eq_true rfl, Nat.le_of_ble_eq_true rfl⟩ ⟨Nat.le_of_ble_eq_true rfl, Nat.le_of_ble_eq_true rfl⟩ rfl rfl rfl (Nat.le_of_ble_eq_true rfl) dX11_takeFixes_90 rfl ?_
    refine rv_aload_n (q := 94) E.1.x dX11_takeFixes_93 rfl rfl ?_
    refine rv_aload_n (q := 95) E.1.x dX11_takeFixes_94 rfl rfl ?_
    refine rC_getX11 (q := 98) E.1 0 0 wfX11_10 rfl (Nat.le_of_ble_eq_true rfl) ⟨rfl, rfl⟩ rfl dX11_takeFixes_95 rfl ?_
    refine rv_iload_n (q := 99) E.1.x dX11_takeFixes_98 rfl rfl ?_
    refine rv_b1 (fun r7 e6 => ?_)
    refine rC_calliX9 (q := 102) E.1 ⟨rfl, rfl⟩ (c9_baseOf E.1.2.2.1 e6) gX11_99 hX9_baseOf ⟨rfl, rfl⟩ ⟨Nat.le_of_ble_eq_true rfl, Nat.le_of_ble_eq_true rfl⟩ ⟨Nat.le_of_ble_eq_true rfl, Nat.le_of_ble_eq_true rfl⟩ rfl rfl rfl (Nat.le_of_ble_eq_true rfl) dX11_takeFixes_99 rfl ?_
    refine rv_b2 (fun r9 M10 e8 => ?_)
    refine rC_calliX11 (q := 105) E.1 ⟨rfl, rfl⟩ (c11_moveDesk E.1.2.2.1 e8) gX11_87 hX11_moveDesk ⟨rfl, rfl⟩ ⟨Nat.le_of_ble_eq_true rfl, Nat.le_of_ble_eq_true rfl⟩ ⟨Nat.le_of_ble_eq_true rfl, Nat.le_of_ble_eq_true rfl⟩ rfl rfl rfl (Nat.le_of_ble_eq_true rfl) dX11_takeFixes_102 rfl ?_
    refine rv_pop (q := 106) E.1.x dX11_takeFixes_105 rfl rfl ?_
    refine rv_iload_n (q := 107) E.1.x dX11_takeFixes_106 rfl rfl ?_
    refine rv_b1 (fun r12 e11 => ?_)
    refine rC_calls (q := 110) E.1 (cJ_bits e11) gX11_384 hJ6_bitCount_0f7a4 ⟨rfl, rfl⟩ ⟨Nat.le_of_ble_eq_true rfl, Nat.le_of_ble_eq_true rfl⟩ ⟨Nat.le_of_ble_eq_true rfl, Nat.le_of_ble_eq_true rfl⟩ rfl rfl rfl (Nat.le_of_ble_eq_true rfl) dX11_takeFixes_107 rfl ?_
    exact rv_tr (fun _ => trivial)
theorem bx11_takeFixes_47 {p : Program} {l : Launch} {e : Env} {s : State} {m : MethodId} {args : Array Value} {below : List Frame} {meth : Method} {c : Code} {D : va_G} {cI cZ cO : ClassId} {ad : Nat → Nat} {gh : rC_gh} {de : Nat} (E : rC_X D cI cZ cO ad gh RX11 cX11_takeFixes 7 (some .int) p l s m args meth c)   : ∀ (n : Nat), ∀ (M : rv_Mem) (x2 : Int32) (x3 : Int32) (x4 : Int64) (x6 : Int32), rv_M (rC_G D cI cZ cO ad gh de) (rC_A ad gh s.heap.size) p l e rmx11_takeFixes s m args below meth c 0 0 (qy11_takeFixes D cI cZ cO ad gh de below args s) (f11_takeFixes_47 gh n M x2 x3 x4 x6) 47 [some (.ref (ad 0)), none, some (.int x2), some (.int x3), some (.long x4), none, some (.int x6)] [] M := by
  intro n
  induction n with
  | zero => exact fun _ _ _ _ _ => rv_stuck
  | succ n ih => exact bx11_takeFixes_47_s E  (f11_takeFixes_47 gh n) ih
set_option maxRecDepth 100000 in
theorem bx11_takeFixes {p : Program} {l : Launch} {e : Env} {s : State} {m : MethodId} {args : Array Value} {below : List Frame} {meth : Method} {c : Code} {D : va_G} {cI cZ cO : ClassId} {ad : Nat → Nat} {gh : rC_gh} {de : Nat} (E : rC_X D cI cZ cO ad gh RX11 cX11_takeFixes 7 (some .int) p l s m args meth c) (M : rv_Mem) (a1 : Int32) (a2 : Int32) : rv_M (rC_G D cI cZ cO ad gh de) (rC_A ad gh s.heap.size) p l e rmx11_takeFixes s m args below meth c 0 0 (qy11_takeFixes D cI cZ cO ad gh de below args s) (f11_takeFixes gh M a1 a2) 0 [some (.ref (ad 0)), some (.int a1), some (.int a2), none, none, none, none] [] M := by
  unfold f11_takeFixes
  refine rv_aload_n (q := 1) E.1.x dX11_takeFixes_0 rfl rfl ?_
  refine rC_getX11 (q := 4) E.1 0 0 wfX11_10 rfl (Nat.le_of_ble_eq_true rfl) ⟨rfl, rfl⟩ rfl dX11_takeFixes_1 rfl ?_
  refine rv_aload_n (q := 5) E.1.x dX11_takeFixes_4 rfl rfl ?_
  refine rv_iload_n (q := 6) E.1.x dX11_takeFixes_5 rfl rfl ?_
  refine rv_x2r (fun r2 e1 => ?_) (fun w3 e4 => rC_yVrX11 E ⟨rfl, rfl⟩ (fun _ => c11_needChange_x E.2.1 E.1.2.2.1 e4) rfl gX11_91 hX11_needChange ⟨rfl, rfl⟩ ⟨Nat.le_of_ble_eq_true rfl, Nat.le_of_ble_eq_true rfl⟩ ⟨Nat.le_of_ble_eq_true rfl, Nat.le_of_ble_eq_true rfl⟩ rfl rfl rfl (Nat.le_of_ble_eq_true rfl) dX11_takeFixes_6 ⟨Nat.le_of_ble_eq_true rfl, Nat.le_of_ble_eq_true rfl⟩)
  refine rC_xVrX11 (q := 9) E ⟨rfl, rfl⟩ (fun _ => c11_needChange E.2.1 E.1.2.2.1 e1) gX11_91 hX11_needChange ⟨rfl, rfl⟩ ⟨Nat.le_of_ble_eq_true rfl, Nat.le_of_ble_eq_true rfl⟩ ⟨Nat.le_of_ble_eq_true rfl, Nat.le_of_ble_eq_true rfl⟩ rfl rfl rfl (Nat.le_of_ble_eq_true rfl) dX11_takeFixes_6 rfl ?_
  refine rv_g (fun g5 => ?_)
  refine rC_getX0 (q := 12) E.1 r2 0 wfX11_180 rfl (Nat.le_of_ble_eq_true rfl) (rC_at_of g5) rfl dX11_takeFixes_9 rfl ?_
  refine rv_b1 (fun r7 e6 => ?_)
  refine rC_calliX9 (q := 15) E.1 ⟨rfl, rfl⟩ (c9_currentOf E.1.2.2.1 e6) gX11_204 hX9_currentOf ⟨rfl, rfl⟩ ⟨Nat.le_of_ble_eq_true rfl, Nat.le_of_ble_eq_true rfl⟩ ⟨Nat.le_of_ble_eq_true rfl, Nat.le_of_ble_eq_true rfl⟩ rfl rfl rfl (Nat.le_of_ble_eq_true rfl) dX11_takeFixes_12 rfl ?_
  refine rv_istore_n (q := 16) (lv' := [_, _, _, _, _, _, _]) E.1.x dX11_takeFixes_15 (Nat.le_of_ble_eq_true rfl) rfl rfl rfl ?_
  refine rv_aload_n (q := 17) E.1.x dX11_takeFixes_16 rfl rfl ?_
  refine rv_iload_n (q := 18) E.1.x dX11_takeFixes_17 rfl rfl ?_
  refine rv_iload_n (q := 19) E.1.x dX11_takeFixes_18 rfl rfl ?_
  refine rv_x2r (fun r9 e8 => ?_) (fun w10 e11 => rC_yVlX11 E ⟨rfl, rfl⟩ (fun _ => c11_chooseFixes_x E.2.1 E.1.2.2.1 e11) rfl gX11_368 hX11_chooseFixes ⟨rfl, rfl⟩ ⟨Nat.le_of_ble_eq_true rfl, Nat.le_of_ble_eq_true rfl⟩ ⟨Nat.le_of_ble_eq_true rfl, Nat.le_of_ble_eq_true rfl⟩ rfl rfl rfl (Nat.le_of_ble_eq_true rfl) dX11_takeFixes_19 ⟨Nat.le_of_ble_eq_true rfl, Nat.le_of_ble_eq_true rfl⟩)
  refine rC_xVlX11 (q := 22) E ⟨rfl, rfl⟩ (fun _ => c11_chooseFixes E.2.1 E.1.2.2.1 e8) gX11_368 hX11_chooseFixes ⟨rfl, rfl⟩ ⟨Nat.le_of_ble_eq_true rfl, Nat.le_of_ble_eq_true rfl⟩ ⟨Nat.le_of_ble_eq_true rfl, Nat.le_of_ble_eq_true rfl⟩ rfl rfl rfl (Nat.le_of_ble_eq_true rfl) dX11_takeFixes_19 rfl ?_
  refine rv_lstore (q := 24) (lv' := [_, _, _, _, _, _, _]) E.1.x dX11_takeFixes_22 (Nat.le_of_ble_eq_true rfl) rfl rfl rfl ?_
  refine rv_aload_n (q := 25) E.1.x dX11_takeFixes_24 rfl rfl ?_
  refine rv_lload (q := 27) E.1.x dX11_takeFixes_25 rfl rfl ?_
  refine rv_b1 (fun r13 e12 => ?_)
  refine rC_calliX11 (q := 30) E.1 ⟨rfl, rfl⟩ (c11_isSomeTouching E.1.2.2.1 e12) gX11_372 hX11_isSomeTouching ⟨rfl, rfl⟩ ⟨Nat.le_of_ble_eq_true rfl, Nat.le_of_ble_eq_true rfl⟩ ⟨Nat.le_of_ble_eq_true rfl, Nat.le_of_ble_eq_true rfl⟩ rfl rfl rfl (Nat.le_of_ble_eq_true rfl) dX11_takeFixes_27 rfl ?_
  refine rv_ifz_eq (q := 33) (tgt := 44) E.1.x dX11_takeFixes_30 (by decide) rfl ?_ ?_
  · exact rC_throwW (x := 3) E rfl (by decide +kernel) rC_xk3 rC_xi3 rC_xg3 rC_xn3 rC_xo3 E.2.2.2.2.2.2.2.2.1 (is := 376) (text := "two fixes touch") (by decide +kernel) rfl rfl dX11_takeFixes_33 dX11_takeFixes_36 dX11_takeFixes_37 dX11_takeFixes_40 dX11_takeFixes_43 (Nat.le_of_ble_eq_true rfl) (Nat.le_of_ble_eq_true rfl) ⟨Nat.le_of_ble_eq_true rfl, Nat.le_of_ble_eq_true rfl⟩ ⟨Nat.le_of_ble_eq_true rfl, Nat.le_of_ble_eq_true rfl⟩
  · refine rv_iconst (q := 45) E.1.x dX11_takeFixes_44 rv_ki0 rfl ?_
    refine rv_istore (q := 47) (lv' := [_, _, _, _, _, _, _]) E.1.x dX11_takeFixes_45 (Nat.le_of_ble_eq_true rfl) rfl rfl rfl ?_
    refine rv_wk [true, false, true, true, true, false, true] ?_
    exact bx11_takeFixes_47 E rv_FU M a2 r7 r9 0
theorem c11_takeFixes_x {l : Launch} {D : va_G} {cI cZ cO : ClassId} {ad : Nat → Nat} {gh : rC_gh} {de : Nat} (hfl : l.stackTraces = false) (hI : rC_I ad gh) {sz : Nat} {M : rv_Mem} {a1 : Int32} {a2 : Int32} {x : Nat} {M1 : rv_Mem} (h : f11_takeFixes gh M a1 a2 = some (.inr (x, M1))) : vx_Met l yX11_takeFixes (rv_ws yX11_takeFixes cX11_takeFixes 7 (some .int)) rmx11_takeFixes (rC_Px D cI cZ cO ad gh de sz [.ref (ad 0), .int a1, .int a2] M) (rC_fi (rC_A ad gh sz)) (rC_xc D cI cZ cO ad gh de (rC_A ad gh sz) x M1) 1 6 (rC_A ad gh sz) := rC_xmet (Qc := fun A => rC_fi A) (XC := fun A => rC_xc D cI cZ cO ad gh de A x M1) hfl hI rfl (by decide) (Nat.le_of_ble_eq_true rfl) (fun p e s m args below meth c E => ⟨(qy11_takeFixes D cI cZ cO ad gh de below args s), rfl, bx11_takeFixes E M a1 a2⟩) h
abbrev rm11_setOwners : Room := { frames := 7, cells := 0, slots := 0, locals := 120 }
def qx11_setOwners (D : va_G) (cI cZ cO : ClassId) (ad : Nat → Nat) (gh : rC_gh) (de : Nat) (below : List Frame) (args : Array Value) (s : State) : (Int32 × rv_Mem) ⊕ (Nat × rv_Mem) → State → Prop := fun r => match r with
  | .inl r => vx_MQ below (rC_qi D cI cZ cO ad gh de (rC_A ad gh s.heap.size) r.1 r.2) (rC_fx (rC_A ad gh s.heap.size)) args s 0 0 (rC_A ad gh s.heap.size)
  | .inr _ => fun _ => True
set_option maxRecDepth 100000 in
theorem b11_setOwners {p : Program} {l : Launch} {e : Env} {s : State} {m : MethodId} {args : Array Value} {below : List Frame} {meth : Method} {c : Code} {D : va_G} {cI cZ cO : ClassId} {ad : Nat → Nat} {gh : rC_gh} {de : Nat} (E : rC_X D cI cZ cO ad gh RX11 cX11_setOwners 5 (some .int) p l s m args meth c) (M : rv_Mem) (a1 : Int32) (a2 : Int32) (a3 : Int32) (a4 : Bool) : rv_M (rC_G D cI cZ cO ad gh de) (rC_A ad gh s.heap.size) p l e rm11_setOwners s m args below meth c 0 0 (qx11_setOwners D cI cZ cO ad gh de below args s) (f11_setOwners gh M a1 a2 a3 a4) 0 [some (.ref (ad 0)), some (.int a1), some (.int a2), some (.int a3), some (.int (rv_i a4))] [] M := by
  unfold f11_setOwners
  refine rv_iload_n (q := 1) E.1.x dX11_setOwners_0 rfl rfl ?_
  refine rv_x2r (fun r2 e1 => ?_) (fun w3 e4 => rv_tr (fun _ => trivial))
  refine rC_xSv (q := 4) E (fun _ => c11_needRepository E.2.1 E.1.2.2.1 e1) gX11_143 hX11_needRepository ⟨rfl, rfl⟩ ⟨Nat.le_of_ble_eq_true rfl, Nat.le_of_ble_eq_true rfl⟩ ⟨Nat.le_of_ble_eq_true rfl, Nat.le_of_ble_eq_true rfl⟩ rfl rfl rfl (Nat.le_of_ble_eq_true rfl) dX11_setOwners_1 rfl ?_
  refine rv_iload_n (q := 5) E.1.x dX11_setOwners_4 rfl rfl ?_
  refine rv_if_lt (q := 8) (tgt := 14) E.1.x dX11_setOwners_5 (by decide) rfl ?_ ?_
  · refine rv_iload_n (q := 9) E.1.x dX11_setOwners_8 rfl rfl ?_
    refine rv_bipush (q := 11) E.1.x dX11_setOwners_9 rv_kb7 rfl ?_
    refine rv_icmp_lt (q := 14) (tgt := 25) E.1.x dX11_setOwners_11 (by decide) rfl ?_ ?_
    · exact rv_tr (fun _ => trivial)
    · refine rv_iload_n (q := 26) E.1.x dX11_setOwners_25 rfl rfl ?_
      refine rv_if_lt (q := 29) (tgt := 35) E.1.x dX11_setOwners_26 (by decide) rfl ?_ ?_
      · refine rv_iload_n (q := 30) E.1.x dX11_setOwners_29 rfl rfl ?_
        refine rv_bipush (q := 32) E.1.x dX11_setOwners_30 rv_kb64 rfl ?_
        refine rv_icmp_lt (q := 35) (tgt := 46) E.1.x dX11_setOwners_32 (by decide) rfl ?_ ?_
        · exact rv_tr (fun _ => trivial)
        · refine rv_aload_n (q := 47) E.1.x dX11_setOwners_46 rfl rfl ?_
          refine rC_getX11 (q := 50) E.1 0 4 wfX11_42 rfl (Nat.le_of_ble_eq_true rfl) ⟨rfl, rfl⟩ rfl dX11_setOwners_47 rfl ?_
          refine rv_iload_n (q := 51) E.1.x dX11_setOwners_50 rfl rfl ?_
          refine rv_bipush (q := 53) E.1.x dX11_setOwners_51 rv_kb7 rfl ?_
          refine rv_imul (q := 54) E.1.x dX11_setOwners_53 rfl ?_
          refine rv_iload_n (q := 55) E.1.x dX11_setOwners_54 rfl rfl ?_
          refine rv_iadd (q := 56) E.1.x dX11_setOwners_55 rfl ?_
          refine rv_iload_n (q := 57) E.1.x dX11_setOwners_56 rfl rfl ?_
          refine rv_iload (q := 59) E.1.x dX11_setOwners_57 rfl rfl ?_
          refine rv_b2 (fun r6 M7 e5 => ?_)
          refine rC_calliX6 (q := 62) E.1 ⟨rfl, rfl⟩ (c6_setList E.1.2.2.1 e5) gX11_393 hX6_setList ⟨rfl, rfl⟩ ⟨Nat.le_of_ble_eq_true rfl, Nat.le_of_ble_eq_true rfl⟩ ⟨Nat.le_of_ble_eq_true rfl, Nat.le_of_ble_eq_true rfl⟩ rfl rfl rfl (Nat.le_of_ble_eq_true rfl) dX11_setOwners_59 rfl ?_
          exact rC_xiret E rfl ⟨Nat.le_of_ble_eq_true rfl, Nat.le_of_ble_eq_true rfl⟩ dX11_setOwners_62
      · exact rv_tr (fun _ => trivial)
  · exact rv_tr (fun _ => trivial)
theorem c11_setOwners {l : Launch} {D : va_G} {cI cZ cO : ClassId} {ad : Nat → Nat} {gh : rC_gh} {de : Nat} (hfl : l.stackTraces = false) (hI : rC_I ad gh) {sz : Nat} {M : rv_Mem} {a1 : Int32} {a2 : Int32} {a3 : Int32} {a4 : Bool} {r : Int32} {M1 : rv_Mem} (h : f11_setOwners gh M a1 a2 a3 a4 = some (.inl (r, M1))) : vx_Met l yX11_setOwners (rv_ws yX11_setOwners cX11_setOwners 5 (some .int)) rm11_setOwners (rC_Px D cI cZ cO ad gh de sz [.ref (ad 0), .int a1, .int a2, .int a3, .int (rv_i a4)] M) (rC_qi D cI cZ cO ad gh de (rC_A ad gh sz) r M1) (rC_fx (rC_A ad gh sz)) 0 0 (rC_A ad gh sz) := rC_xmet (Qc := fun A => rC_qi D cI cZ cO ad gh de A r M1) (XC := fun A => rC_fx A) hfl hI rfl (by decide) (Nat.le_of_ble_eq_true rfl) (fun p e s m args below meth c E => ⟨(qx11_setOwners D cI cZ cO ad gh de below args s), rfl, b11_setOwners E M a1 a2 a3 a4⟩) h
abbrev rmx11_setOwners : Room := { frames := 7, cells := 1, slots := 6, locals := 120 }
def qy11_setOwners (D : va_G) (cI cZ cO : ClassId) (ad : Nat → Nat) (gh : rC_gh) (de : Nat) (below : List Frame) (args : Array Value) (s : State) : (Int32 × rv_Mem) ⊕ (Nat × rv_Mem) → State → Prop := fun r => match r with
  | .inl _ => fun _ => True
  | .inr r => vx_MQ below (rC_fi (rC_A ad gh s.heap.size)) (rC_xc D cI cZ cO ad gh de (rC_A ad gh s.heap.size) r.1 r.2) args s 1 6 (rC_A ad gh s.heap.size)
set_option maxRecDepth 100000 in
theorem bx11_setOwners {p : Program} {l : Launch} {e : Env} {s : State} {m : MethodId} {args : Array Value} {below : List Frame} {meth : Method} {c : Code} {D : va_G} {cI cZ cO : ClassId} {ad : Nat → Nat} {gh : rC_gh} {de : Nat} (E : rC_X D cI cZ cO ad gh RX11 cX11_setOwners 5 (some .int) p l s m args meth c) (M : rv_Mem) (a1 : Int32) (a2 : Int32) (a3 : Int32) (a4 : Bool) : rv_M (rC_G D cI cZ cO ad gh de) (rC_A ad gh s.heap.size) p l e rmx11_setOwners s m args below meth c 0 0 (qy11_setOwners D cI cZ cO ad gh de below args s) (f11_setOwners gh M a1 a2 a3 a4) 0 [some (.ref (ad 0)), some (.int a1), some (.int a2), some (.int a3), some (.int (rv_i a4))] [] M := by
  unfold f11_setOwners
  refine rv_iload_n (q := 1) E.1.x dX11_setOwners_0 rfl rfl ?_
  refine rv_x2r (fun r2 e1 => ?_) (fun w3 e4 => rC_ySv E (fun _ => c11_needRepository_x E.2.1 E.1.2.2.1 e4) rfl gX11_143 hX11_needRepository ⟨rfl, rfl⟩ ⟨Nat.le_of_ble_eq_true rfl, Nat.le_of_ble_eq_true rfl⟩ ⟨Nat.le_of_ble_eq_true rfl, Nat.le_of_ble_eq_true rfl⟩ rfl rfl rfl (Nat.le_of_ble_eq_true rfl) dX11_setOwners_1 ⟨Nat.le_of_ble_eq_true rfl, Nat.le_of_ble_eq_true rfl⟩)
  refine rC_xSv (q := 4) E (fun _ => c11_needRepository E.2.1 E.1.2.2.1 e1) gX11_143 hX11_needRepository ⟨rfl, rfl⟩ ⟨Nat.le_of_ble_eq_true rfl, Nat.le_of_ble_eq_true rfl⟩ ⟨Nat.le_of_ble_eq_true rfl, Nat.le_of_ble_eq_true rfl⟩ rfl rfl rfl (Nat.le_of_ble_eq_true rfl) dX11_setOwners_1 rfl ?_
  refine rv_iload_n (q := 5) E.1.x dX11_setOwners_4 rfl rfl ?_
  refine rv_if_lt (q := 8) (tgt := 14) E.1.x dX11_setOwners_5 (by decide) rfl ?_ ?_
  · refine rv_iload_n (q := 9) E.1.x dX11_setOwners_8 rfl rfl ?_
    refine rv_bipush (q := 11) E.1.x dX11_setOwners_9 rv_kb7 rfl ?_
    refine rv_icmp_lt (q := 14) (tgt := 25) E.1.x dX11_setOwners_11 (by decide) rfl ?_ ?_
    · exact rC_throwW (x := 1) E rfl (by decide +kernel) rC_xk1 rC_xi1 rC_xg1 rC_xn1 rC_xo1 E.2.2.2.2.2.2.1 (is := 389) (text := "no such level") (by decide +kernel) rfl rfl dX11_setOwners_14 dX11_setOwners_17 dX11_setOwners_18 dX11_setOwners_21 dX11_setOwners_24 (Nat.le_of_ble_eq_true rfl) (Nat.le_of_ble_eq_true rfl) ⟨Nat.le_of_ble_eq_true rfl, Nat.le_of_ble_eq_true rfl⟩ ⟨Nat.le_of_ble_eq_true rfl, Nat.le_of_ble_eq_true rfl⟩
    · refine rv_iload_n (q := 26) E.1.x dX11_setOwners_25 rfl rfl ?_
      refine rv_if_lt (q := 29) (tgt := 35) E.1.x dX11_setOwners_26 (by decide) rfl ?_ ?_
      · refine rv_iload_n (q := 30) E.1.x dX11_setOwners_29 rfl rfl ?_
        refine rv_bipush (q := 32) E.1.x dX11_setOwners_30 rv_kb64 rfl ?_
        refine rv_icmp_lt (q := 35) (tgt := 46) E.1.x dX11_setOwners_32 (by decide) rfl ?_ ?_
        · exact rC_throwW (x := 2) E rfl (by decide +kernel) rC_xk2 rC_xi2 rC_xg2 rC_xn2 rC_xo2 E.2.2.2.2.2.2.2.1 (is := 391) (text := "no such people") (by decide +kernel) rfl rfl dX11_setOwners_35 dX11_setOwners_38 dX11_setOwners_39 dX11_setOwners_42 dX11_setOwners_45 (Nat.le_of_ble_eq_true rfl) (Nat.le_of_ble_eq_true rfl) ⟨Nat.le_of_ble_eq_true rfl, Nat.le_of_ble_eq_true rfl⟩ ⟨Nat.le_of_ble_eq_true rfl, Nat.le_of_ble_eq_true rfl⟩
        · refine rv_aload_n (q := 47) E.1.x dX11_setOwners_46 rfl rfl ?_
          refine rC_getX11 (q := 50) E.1 0 4 wfX11_42 rfl (Nat.le_of_ble_eq_true rfl) ⟨rfl, rfl⟩ rfl dX11_setOwners_47 rfl ?_
          refine rv_iload_n (q := 51) E.1.x dX11_setOwners_50 rfl rfl ?_
          refine rv_bipush (q := 53) E.1.x dX11_setOwners_51 rv_kb7 rfl ?_
          refine rv_imul (q := 54) E.1.x dX11_setOwners_53 rfl ?_
          refine rv_iload_n (q := 55) E.1.x dX11_setOwners_54 rfl rfl ?_
          refine rv_iadd (q := 56) E.1.x dX11_setOwners_55 rfl ?_
          refine rv_iload_n (q := 57) E.1.x dX11_setOwners_56 rfl rfl ?_
          refine rv_iload (q := 59) E.1.x dX11_setOwners_57 rfl rfl ?_
          refine rv_b2 (fun r6 M7 e5 => ?_)
          refine rC_calliX6 (q := 62) E.1 ⟨rfl, rfl⟩ (c6_setList E.1.2.2.1 e5) gX11_393 hX6_setList ⟨rfl, rfl⟩ ⟨Nat.le_of_ble_eq_true rfl, Nat.le_of_ble_eq_true rfl⟩ ⟨Nat.le_of_ble_eq_true rfl, Nat.le_of_ble_eq_true rfl⟩ rfl rfl rfl (Nat.le_of_ble_eq_true rfl) dX11_setOwners_59 rfl ?_
          exact rv_tr (fun _ => trivial)
      · exact rC_throwW (x := 2) E rfl (by decide +kernel) rC_xk2 rC_xi2 rC_xg2 rC_xn2 rC_xo2 E.2.2.2.2.2.2.2.1 (is := 391) (text := "no such people") (by decide +kernel) rfl rfl dX11_setOwners_35 dX11_setOwners_38 dX11_setOwners_39 dX11_setOwners_42 dX11_setOwners_45 (Nat.le_of_ble_eq_true rfl) (Nat.le_of_ble_eq_true rfl) ⟨Nat.le_of_ble_eq_true rfl, Nat.le_of_ble_eq_true rfl⟩ ⟨Nat.le_of_ble_eq_true rfl, Nat.le_of_ble_eq_true rfl⟩
  · exact rC_throwW (x := 1) E rfl (by decide +kernel) rC_xk1 rC_xi1 rC_xg1 rC_xn1 rC_xo1 E.2.2.2.2.2.2.1 (is := 389) (text := "no such level") (by decide +kernel) rfl rfl dX11_setOwners_14 dX11_setOwners_17 dX11_setOwners_18 dX11_setOwners_21 dX11_setOwners_24 (Nat.le_of_ble_eq_true rfl) (Nat.le_of_ble_eq_true rfl) ⟨Nat.le_of_ble_eq_true rfl, Nat.le_of_ble_eq_true rfl⟩ ⟨Nat.le_of_ble_eq_true rfl, Nat.le_of_ble_eq_true rfl⟩
theorem c11_setOwners_x {l : Launch} {D : va_G} {cI cZ cO : ClassId} {ad : Nat → Nat} {gh : rC_gh} {de : Nat} (hfl : l.stackTraces = false) (hI : rC_I ad gh) {sz : Nat} {M : rv_Mem} {a1 : Int32} {a2 : Int32} {a3 : Int32} {a4 : Bool} {x : Nat} {M1 : rv_Mem} (h : f11_setOwners gh M a1 a2 a3 a4 = some (.inr (x, M1))) : vx_Met l yX11_setOwners (rv_ws yX11_setOwners cX11_setOwners 5 (some .int)) rmx11_setOwners (rC_Px D cI cZ cO ad gh de sz [.ref (ad 0), .int a1, .int a2, .int a3, .int (rv_i a4)] M) (rC_fi (rC_A ad gh sz)) (rC_xc D cI cZ cO ad gh de (rC_A ad gh sz) x M1) 1 6 (rC_A ad gh sz) := rC_xmet (Qc := fun A => rC_fi A) (XC := fun A => rC_xc D cI cZ cO ad gh de A x M1) hfl hI rfl (by decide) (Nat.le_of_ble_eq_true rfl) (fun p e s m args below meth c E => ⟨(qy11_setOwners D cI cZ cO ad gh de below args s), rfl, bx11_setOwners E M a1 a2 a3 a4⟩) h
abbrev rm11_setInclude : Room := { frames := 7, cells := 0, slots := 0, locals := 120 }
def qx11_setInclude (D : va_G) (cI cZ cO : ClassId) (ad : Nat → Nat) (gh : rC_gh) (de : Nat) (below : List Frame) (args : Array Value) (s : State) : (Bool × rv_Mem) ⊕ (Nat × rv_Mem) → State → Prop := fun r => match r with
  | .inl r => vx_MQ below (rC_qi D cI cZ cO ad gh de (rC_A ad gh s.heap.size) (rv_i r.1) r.2) (rC_fx (rC_A ad gh s.heap.size)) args s 0 0 (rC_A ad gh s.heap.size)
  | .inr _ => fun _ => True
set_option maxRecDepth 100000 in
theorem b11_setInclude {p : Program} {l : Launch} {e : Env} {s : State} {m : MethodId} {args : Array Value} {below : List Frame} {meth : Method} {c : Code} {D : va_G} {cI cZ cO : ClassId} {ad : Nat → Nat} {gh : rC_gh} {de : Nat} (E : rC_X D cI cZ cO ad gh RX11 cX11_setInclude 4 (some .boolean) p l s m args meth c) (M : rv_Mem) (a1 : Int32) (a2 : Int32) (a3 : Bool) : rv_M (rC_G D cI cZ cO ad gh de) (rC_A ad gh s.heap.size) p l e rm11_setInclude s m args below meth c 0 0 (qx11_setInclude D cI cZ cO ad gh de below args s) (f11_setInclude gh M a1 a2 a3) 0 [some (.ref (ad 0)), some (.int a1), some (.int a2), some (.int (rv_i a3))] [] M := by
  unfold f11_setInclude
  refine rv_iload_n (q := 1) E.1.x dX11_setInclude_0 rfl rfl ?_
  refine rv_x2r (fun r2 e1 => ?_) (fun w3 e4 => rv_tr (fun _ => trivial))
  refine rC_xSv (q := 4) E (fun _ => c11_needRepository E.2.1 E.1.2.2.1 e1) gX11_143 hX11_needRepository ⟨rfl, rfl⟩ ⟨Nat.le_of_ble_eq_true rfl, Nat.le_of_ble_eq_true rfl⟩ ⟨Nat.le_of_ble_eq_true rfl, Nat.le_of_ble_eq_true rfl⟩ rfl rfl rfl (Nat.le_of_ble_eq_true rfl) dX11_setInclude_1 rfl ?_
  refine rv_iload_n (q := 5) E.1.x dX11_setInclude_4 rfl rfl ?_
  refine rv_if_lt (q := 8) (tgt := 13) E.1.x dX11_setInclude_5 (by decide) rfl ?_ ?_
  · refine rv_iload_n (q := 9) E.1.x dX11_setInclude_8 rfl rfl ?_
    refine rv_iconst (q := 10) E.1.x dX11_setInclude_9 rv_ki2 rfl ?_
    refine rv_icmp_lt (q := 13) (tgt := 24) E.1.x dX11_setInclude_10 (by decide) rfl ?_ ?_
    · exact rv_tr (fun _ => trivial)
    · refine rv_aload_n (q := 25) E.1.x dX11_setInclude_24 rfl rfl ?_
      refine rC_getX11 (q := 28) E.1 0 4 wfX11_42 rfl (Nat.le_of_ble_eq_true rfl) ⟨rfl, rfl⟩ rfl dX11_setInclude_25 rfl ?_
      refine rv_iload_n (q := 29) E.1.x dX11_setInclude_28 rfl rfl ?_
      refine rv_iconst (q := 30) E.1.x dX11_setInclude_29 rv_ki2 rfl ?_
      refine rv_imul (q := 31) E.1.x dX11_setInclude_30 rfl ?_
      refine rv_iload_n (q := 32) E.1.x dX11_setInclude_31 rfl rfl ?_
      refine rv_iadd (q := 33) E.1.x dX11_setInclude_32 rfl ?_
      refine rv_iload_n (q := 34) E.1.x dX11_setInclude_33 rfl rfl ?_
      refine rv_b2 (fun r6 M7 e5 => ?_)
      refine rC_calliX6 (q := 37) E.1 ⟨rfl, rfl⟩ (c6_setIncluding E.1.2.2.1 e5) gX11_399 hX6_setIncluding ⟨rfl, rfl⟩ ⟨Nat.le_of_ble_eq_true rfl, Nat.le_of_ble_eq_true rfl⟩ ⟨Nat.le_of_ble_eq_true rfl, Nat.le_of_ble_eq_true rfl⟩ rfl rfl rfl (Nat.le_of_ble_eq_true rfl) dX11_setInclude_34 rfl ?_
      exact rC_xzret E r6 rfl ⟨Nat.le_of_ble_eq_true rfl, Nat.le_of_ble_eq_true rfl⟩ dX11_setInclude_37
  · exact rv_tr (fun _ => trivial)
theorem c11_setInclude {l : Launch} {D : va_G} {cI cZ cO : ClassId} {ad : Nat → Nat} {gh : rC_gh} {de : Nat} (hfl : l.stackTraces = false) (hI : rC_I ad gh) {sz : Nat} {M : rv_Mem} {a1 : Int32} {a2 : Int32} {a3 : Bool} {r : Bool} {M1 : rv_Mem} (h : f11_setInclude gh M a1 a2 a3 = some (.inl (r, M1))) : vx_Met l yX11_setInclude (rv_ws yX11_setInclude cX11_setInclude 4 (some .boolean)) rm11_setInclude (rC_Px D cI cZ cO ad gh de sz [.ref (ad 0), .int a1, .int a2, .int (rv_i a3)] M) (rC_qi D cI cZ cO ad gh de (rC_A ad gh sz) (rv_i r) M1) (rC_fx (rC_A ad gh sz)) 0 0 (rC_A ad gh sz) := rC_xmet (Qc := fun A => rC_qi D cI cZ cO ad gh de A (rv_i r) M1) (XC := fun A => rC_fx A) hfl hI rfl (by decide) (Nat.le_of_ble_eq_true rfl) (fun p e s m args below meth c E => ⟨(qx11_setInclude D cI cZ cO ad gh de below args s), rfl, b11_setInclude E M a1 a2 a3⟩) h
abbrev rmx11_setInclude : Room := { frames := 7, cells := 1, slots := 6, locals := 120 }
def qy11_setInclude (D : va_G) (cI cZ cO : ClassId) (ad : Nat → Nat) (gh : rC_gh) (de : Nat) (below : List Frame) (args : Array Value) (s : State) : (Bool × rv_Mem) ⊕ (Nat × rv_Mem) → State → Prop := fun r => match r with
  | .inl _ => fun _ => True
  | .inr r => vx_MQ below (rC_fi (rC_A ad gh s.heap.size)) (rC_xc D cI cZ cO ad gh de (rC_A ad gh s.heap.size) r.1 r.2) args s 1 6 (rC_A ad gh s.heap.size)
set_option maxRecDepth 100000 in
theorem bx11_setInclude {p : Program} {l : Launch} {e : Env} {s : State} {m : MethodId} {args : Array Value} {below : List Frame} {meth : Method} {c : Code} {D : va_G} {cI cZ cO : ClassId} {ad : Nat → Nat} {gh : rC_gh} {de : Nat} (E : rC_X D cI cZ cO ad gh RX11 cX11_setInclude 4 (some .boolean) p l s m args meth c) (M : rv_Mem) (a1 : Int32) (a2 : Int32) (a3 : Bool) : rv_M (rC_G D cI cZ cO ad gh de) (rC_A ad gh s.heap.size) p l e rmx11_setInclude s m args below meth c 0 0 (qy11_setInclude D cI cZ cO ad gh de below args s) (f11_setInclude gh M a1 a2 a3) 0 [some (.ref (ad 0)), some (.int a1), some (.int a2), some (.int (rv_i a3))] [] M := by
  unfold f11_setInclude
  refine rv_iload_n (q := 1) E.1.x dX11_setInclude_0 rfl rfl ?_
  refine rv_x2r (fun r2 e1 => ?_) (fun w3 e4 => rC_ySv E (fun _ => c11_needRepository_x E.2.1 E.1.2.2.1 e4) rfl gX11_143 hX11_needRepository ⟨rfl, rfl⟩ ⟨Nat.le_of_ble_eq_true rfl, Nat.le_of_ble_eq_true rfl⟩ ⟨Nat.le_of_ble_eq_true rfl, Nat.le_of_ble_eq_true rfl⟩ rfl rfl rfl (Nat.le_of_ble_eq_true rfl) dX11_setInclude_1 ⟨Nat.le_of_ble_eq_true rfl, Nat.le_of_ble_eq_true rfl⟩)
  refine rC_xSv (q := 4) E (fun _ => c11_needRepository E.2.1 E.1.2.2.1 e1) gX11_143 hX11_needRepository ⟨rfl, rfl⟩ ⟨Nat.le_of_ble_eq_true rfl, Nat.le_of_ble_eq_true rfl⟩ ⟨Nat.le_of_ble_eq_true rfl, Nat.le_of_ble_eq_true rfl⟩ rfl rfl rfl (Nat.le_of_ble_eq_true rfl) dX11_setInclude_1 rfl ?_
  refine rv_iload_n (q := 5) E.1.x dX11_setInclude_4 rfl rfl ?_
  refine rv_if_lt (q := 8) (tgt := 13) E.1.x dX11_setInclude_5 (by decide) rfl ?_ ?_
  · refine rv_iload_n (q := 9) E.1.x dX11_setInclude_8 rfl rfl ?_
    refine rv_iconst (q := 10) E.1.x dX11_setInclude_9 rv_ki2 rfl ?_
    refine rv_icmp_lt (q := 13) (tgt := 24) E.1.x dX11_setInclude_10 (by decide) rfl ?_ ?_
    · exact rC_throwW (x := 1) E rfl (by decide +kernel) rC_xk1 rC_xi1 rC_xg1 rC_xn1 rC_xo1 E.2.2.2.2.2.2.1 (is := 397) (text := "no such directory") (by decide +kernel) rfl rfl dX11_setInclude_13 dX11_setInclude_16 dX11_setInclude_17 dX11_setInclude_20 dX11_setInclude_23 (Nat.le_of_ble_eq_true rfl) (Nat.le_of_ble_eq_true rfl) ⟨Nat.le_of_ble_eq_true rfl, Nat.le_of_ble_eq_true rfl⟩ ⟨Nat.le_of_ble_eq_true rfl, Nat.le_of_ble_eq_true rfl⟩
    · refine rv_aload_n (q := 25) E.1.x dX11_setInclude_24 rfl rfl ?_
      refine rC_getX11 (q := 28) E.1 0 4 wfX11_42 rfl (Nat.le_of_ble_eq_true rfl) ⟨rfl, rfl⟩ rfl dX11_setInclude_25 rfl ?_
      refine rv_iload_n (q := 29) E.1.x dX11_setInclude_28 rfl rfl ?_
      refine rv_iconst (q := 30) E.1.x dX11_setInclude_29 rv_ki2 rfl ?_
      refine rv_imul (q := 31) E.1.x dX11_setInclude_30 rfl ?_
      refine rv_iload_n (q := 32) E.1.x dX11_setInclude_31 rfl rfl ?_
      refine rv_iadd (q := 33) E.1.x dX11_setInclude_32 rfl ?_
      refine rv_iload_n (q := 34) E.1.x dX11_setInclude_33 rfl rfl ?_
      refine rv_b2 (fun r6 M7 e5 => ?_)
      refine rC_calliX6 (q := 37) E.1 ⟨rfl, rfl⟩ (c6_setIncluding E.1.2.2.1 e5) gX11_399 hX6_setIncluding ⟨rfl, rfl⟩ ⟨Nat.le_of_ble_eq_true rfl, Nat.le_of_ble_eq_true rfl⟩ ⟨Nat.le_of_ble_eq_true rfl, Nat.le_of_ble_eq_true rfl⟩ rfl rfl rfl (Nat.le_of_ble_eq_true rfl) dX11_setInclude_34 rfl ?_
      exact rv_tr (fun _ => trivial)
  · exact rC_throwW (x := 1) E rfl (by decide +kernel) rC_xk1 rC_xi1 rC_xg1 rC_xn1 rC_xo1 E.2.2.2.2.2.2.1 (is := 397) (text := "no such directory") (by decide +kernel) rfl rfl dX11_setInclude_13 dX11_setInclude_16 dX11_setInclude_17 dX11_setInclude_20 dX11_setInclude_23 (Nat.le_of_ble_eq_true rfl) (Nat.le_of_ble_eq_true rfl) ⟨Nat.le_of_ble_eq_true rfl, Nat.le_of_ble_eq_true rfl⟩ ⟨Nat.le_of_ble_eq_true rfl, Nat.le_of_ble_eq_true rfl⟩
theorem c11_setInclude_x {l : Launch} {D : va_G} {cI cZ cO : ClassId} {ad : Nat → Nat} {gh : rC_gh} {de : Nat} (hfl : l.stackTraces = false) (hI : rC_I ad gh) {sz : Nat} {M : rv_Mem} {a1 : Int32} {a2 : Int32} {a3 : Bool} {x : Nat} {M1 : rv_Mem} (h : f11_setInclude gh M a1 a2 a3 = some (.inr (x, M1))) : vx_Met l yX11_setInclude (rv_ws yX11_setInclude cX11_setInclude 4 (some .boolean)) rmx11_setInclude (rC_Px D cI cZ cO ad gh de sz [.ref (ad 0), .int a1, .int a2, .int (rv_i a3)] M) (rC_fi (rC_A ad gh sz)) (rC_xc D cI cZ cO ad gh de (rC_A ad gh sz) x M1) 1 6 (rC_A ad gh sz) := rC_xmet (Qc := fun A => rC_fi A) (XC := fun A => rC_xc D cI cZ cO ad gh de A x M1) hfl hI rfl (by decide) (Nat.le_of_ble_eq_true rfl) (fun p e s m args below meth c E => ⟨(qy11_setInclude D cI cZ cO ad gh de below args s), rfl, bx11_setInclude E M a1 a2 a3⟩) h
abbrev rm11_setLastResort : Room := { frames := 7, cells := 0, slots := 0, locals := 120 }
def qx11_setLastResort (D : va_G) (cI cZ cO : ClassId) (ad : Nat → Nat) (gh : rC_gh) (de : Nat) (below : List Frame) (args : Array Value) (s : State) : (Int32 × rv_Mem) ⊕ (Nat × rv_Mem) → State → Prop := fun r => match r with
  | .inl r => vx_MQ below (rC_qi D cI cZ cO ad gh de (rC_A ad gh s.heap.size) r.1 r.2) (rC_fx (rC_A ad gh s.heap.size)) args s 0 0 (rC_A ad gh s.heap.size)
  | .inr _ => fun _ => True
set_option maxRecDepth 100000 in
theorem b11_setLastResort {p : Program} {l : Launch} {e : Env} {s : State} {m : MethodId} {args : Array Value} {below : List Frame} {meth : Method} {c : Code} {D : va_G} {cI cZ cO : ClassId} {ad : Nat → Nat} {gh : rC_gh} {de : Nat} (E : rC_X D cI cZ cO ad gh RX11 cX11_setLastResort 3 (some .int) p l s m args meth c) (M : rv_Mem) (a1 : Int32) : rv_M (rC_G D cI cZ cO ad gh de) (rC_A ad gh s.heap.size) p l e rm11_setLastResort s m args below meth c 0 0 (qx11_setLastResort D cI cZ cO ad gh de below args s) (f11_setLastResort gh M a1) 0 [some (.ref (ad 0)), some (.int a1), none] [] M := by
  unfold f11_setLastResort
  refine rv_iload_n (q := 1) E.1.x dX11_setLastResort_0 rfl rfl ?_
  refine rv_x2r (fun r2 e1 => ?_) (fun w3 e4 => rv_tr (fun _ => trivial))
  refine rC_xSv (q := 4) E (fun _ => c11_needPerson E.2.1 E.1.2.2.1 e1) gX11_152 hX11_needPerson ⟨rfl, rfl⟩ ⟨Nat.le_of_ble_eq_true rfl, Nat.le_of_ble_eq_true rfl⟩ ⟨Nat.le_of_ble_eq_true rfl, Nat.le_of_ble_eq_true rfl⟩ rfl rfl rfl (Nat.le_of_ble_eq_true rfl) dX11_setLastResort_1 rfl ?_
  refine rv_aload_n (q := 5) E.1.x dX11_setLastResort_4 rfl rfl ?_
  refine rC_getX11 (q := 8) E.1 0 4 wfX11_42 rfl (Nat.le_of_ble_eq_true rfl) ⟨rfl, rfl⟩ rfl dX11_setLastResort_5 rfl ?_
  refine rC_getX6 (q := 11) E.1 5 3 wfX11_403 rfl (Nat.le_of_ble_eq_true rfl) ⟨rfl, rfl⟩ rfl dX11_setLastResort_8 rfl ?_
  refine rv_istore_n (q := 12) (lv' := [_, _, _]) E.1.x dX11_setLastResort_11 (Nat.le_of_ble_eq_true rfl) rfl rfl rfl ?_
  refine rv_aload_n (q := 13) E.1.x dX11_setLastResort_12 rfl rfl ?_
  refine rC_getX11 (q := 16) E.1 0 4 wfX11_42 rfl (Nat.le_of_ble_eq_true rfl) ⟨rfl, rfl⟩ rfl dX11_setLastResort_13 rfl ?_
  refine rv_iload_n (q := 17) E.1.x dX11_setLastResort_16 rfl rfl ?_
  refine rC_putX6 (q := 20) E.1 5 3 wfX11_403 rfl (Nat.le_of_ble_eq_true rfl) ⟨rfl, rfl⟩ rfl ⟨rfl, rfl⟩ dX11_setLastResort_17 rfl ?_
  refine rv_ltm (fun M5 => ?_)
  refine rv_iload_n (q := 21) E.1.x dX11_setLastResort_20 rfl rfl ?_
  exact rC_xiret E rfl ⟨Nat.le_of_ble_eq_true rfl, Nat.le_of_ble_eq_true rfl⟩ dX11_setLastResort_21
theorem c11_setLastResort {l : Launch} {D : va_G} {cI cZ cO : ClassId} {ad : Nat → Nat} {gh : rC_gh} {de : Nat} (hfl : l.stackTraces = false) (hI : rC_I ad gh) {sz : Nat} {M : rv_Mem} {a1 : Int32} {r : Int32} {M1 : rv_Mem} (h : f11_setLastResort gh M a1 = some (.inl (r, M1))) : vx_Met l yX11_setLastResort (rv_ws yX11_setLastResort cX11_setLastResort 3 (some .int)) rm11_setLastResort (rC_Px D cI cZ cO ad gh de sz [.ref (ad 0), .int a1] M) (rC_qi D cI cZ cO ad gh de (rC_A ad gh sz) r M1) (rC_fx (rC_A ad gh sz)) 0 0 (rC_A ad gh sz) := rC_xmet (Qc := fun A => rC_qi D cI cZ cO ad gh de A r M1) (XC := fun A => rC_fx A) hfl hI rfl (by decide) (Nat.le_of_ble_eq_true rfl) (fun p e s m args below meth c E => ⟨(qx11_setLastResort D cI cZ cO ad gh de below args s), rfl, b11_setLastResort E M a1⟩) h
abbrev rmx11_setLastResort : Room := { frames := 7, cells := 1, slots := 6, locals := 120 }
def qy11_setLastResort (D : va_G) (cI cZ cO : ClassId) (ad : Nat → Nat) (gh : rC_gh) (de : Nat) (below : List Frame) (args : Array Value) (s : State) : (Int32 × rv_Mem) ⊕ (Nat × rv_Mem) → State → Prop := fun r => match r with
  | .inl _ => fun _ => True
  | .inr r => vx_MQ below (rC_fi (rC_A ad gh s.heap.size)) (rC_xc D cI cZ cO ad gh de (rC_A ad gh s.heap.size) r.1 r.2) args s 1 6 (rC_A ad gh s.heap.size)
set_option maxRecDepth 100000 in
theorem bx11_setLastResort {p : Program} {l : Launch} {e : Env} {s : State} {m : MethodId} {args : Array Value} {below : List Frame} {meth : Method} {c : Code} {D : va_G} {cI cZ cO : ClassId} {ad : Nat → Nat} {gh : rC_gh} {de : Nat} (E : rC_X D cI cZ cO ad gh RX11 cX11_setLastResort 3 (some .int) p l s m args meth c) (M : rv_Mem) (a1 : Int32) : rv_M (rC_G D cI cZ cO ad gh de) (rC_A ad gh s.heap.size) p l e rmx11_setLastResort s m args below meth c 0 0 (qy11_setLastResort D cI cZ cO ad gh de below args s) (f11_setLastResort gh M a1) 0 [some (.ref (ad 0)), some (.int a1), none] [] M := by
  unfold f11_setLastResort
  refine rv_iload_n (q := 1) E.1.x dX11_setLastResort_0 rfl rfl ?_
  refine rv_x2r (fun r2 e1 => ?_) (fun w3 e4 => rC_ySv E (fun _ => c11_needPerson_x E.2.1 E.1.2.2.1 e4) rfl gX11_152 hX11_needPerson ⟨rfl, rfl⟩ ⟨Nat.le_of_ble_eq_true rfl, Nat.le_of_ble_eq_true rfl⟩ ⟨Nat.le_of_ble_eq_true rfl, Nat.le_of_ble_eq_true rfl⟩ rfl rfl rfl (Nat.le_of_ble_eq_true rfl) dX11_setLastResort_1 ⟨Nat.le_of_ble_eq_true rfl, Nat.le_of_ble_eq_true rfl⟩)
  refine rC_xSv (q := 4) E (fun _ => c11_needPerson E.2.1 E.1.2.2.1 e1) gX11_152 hX11_needPerson ⟨rfl, rfl⟩ ⟨Nat.le_of_ble_eq_true rfl, Nat.le_of_ble_eq_true rfl⟩ ⟨Nat.le_of_ble_eq_true rfl, Nat.le_of_ble_eq_true rfl⟩ rfl rfl rfl (Nat.le_of_ble_eq_true rfl) dX11_setLastResort_1 rfl ?_
  refine rv_aload_n (q := 5) E.1.x dX11_setLastResort_4 rfl rfl ?_
  refine rC_getX11 (q := 8) E.1 0 4 wfX11_42 rfl (Nat.le_of_ble_eq_true rfl) ⟨rfl, rfl⟩ rfl dX11_setLastResort_5 rfl ?_
  refine rC_getX6 (q := 11) E.1 5 3 wfX11_403 rfl (Nat.le_of_ble_eq_true rfl) ⟨rfl, rfl⟩ rfl dX11_setLastResort_8 rfl ?_
  refine rv_istore_n (q := 12) (lv' := [_, _, _]) E.1.x dX11_setLastResort_11 (Nat.le_of_ble_eq_true rfl) rfl rfl rfl ?_
  refine rv_aload_n (q := 13) E.1.x dX11_setLastResort_12 rfl rfl ?_
  refine rC_getX11 (q := 16) E.1 0 4 wfX11_42 rfl (Nat.le_of_ble_eq_true rfl) ⟨rfl, rfl⟩ rfl dX11_setLastResort_13 rfl ?_
  refine rv_iload_n (q := 17) E.1.x dX11_setLastResort_16 rfl rfl ?_
  refine rC_putX6 (q := 20) E.1 5 3 wfX11_403 rfl (Nat.le_of_ble_eq_true rfl) ⟨rfl, rfl⟩ rfl ⟨rfl, rfl⟩ dX11_setLastResort_17 rfl ?_
  refine rv_ltm (fun M5 => ?_)
  refine rv_iload_n (q := 21) E.1.x dX11_setLastResort_20 rfl rfl ?_
  exact rv_tr (fun _ => trivial)
theorem c11_setLastResort_x {l : Launch} {D : va_G} {cI cZ cO : ClassId} {ad : Nat → Nat} {gh : rC_gh} {de : Nat} (hfl : l.stackTraces = false) (hI : rC_I ad gh) {sz : Nat} {M : rv_Mem} {a1 : Int32} {x : Nat} {M1 : rv_Mem} (h : f11_setLastResort gh M a1 = some (.inr (x, M1))) : vx_Met l yX11_setLastResort (rv_ws yX11_setLastResort cX11_setLastResort 3 (some .int)) rmx11_setLastResort (rC_Px D cI cZ cO ad gh de sz [.ref (ad 0), .int a1] M) (rC_fi (rC_A ad gh sz)) (rC_xc D cI cZ cO ad gh de (rC_A ad gh sz) x M1) 1 6 (rC_A ad gh sz) := rC_xmet (Qc := fun A => rC_fi A) (XC := fun A => rC_xc D cI cZ cO ad gh de A x M1) hfl hI rfl (by decide) (Nat.le_of_ble_eq_true rfl) (fun p e s m args below meth c E => ⟨(qy11_setLastResort D cI cZ cO ad gh de below args s), rfl, bx11_setLastResort E M a1⟩) h
abbrev rm11_owners : Room := { frames := 7, cells := 0, slots := 0, locals := 120 }
def qx11_owners (D : va_G) (cI cZ cO : ClassId) (ad : Nat → Nat) (gh : rC_gh) (de : Nat) (below : List Frame) (args : Array Value) (s : State) (M : rv_Mem) : Int32 ⊕ Nat → State → Prop := fun r => match r with
  | .inl r => vx_MQ below (rC_qi D cI cZ cO ad gh de (rC_A ad gh s.heap.size) r M) (rC_fx (rC_A ad gh s.heap.size)) args s 0 0 (rC_A ad gh s.heap.size)
  | .inr _ => fun _ => True
set_option maxRecDepth 100000 in
theorem b11_owners {p : Program} {l : Launch} {e : Env} {s : State} {m : MethodId} {args : Array Value} {below : List Frame} {meth : Method} {c : Code} {D : va_G} {cI cZ cO : ClassId} {ad : Nat → Nat} {gh : rC_gh} {de : Nat} (E : rC_X D cI cZ cO ad gh RX11 cX11_owners 3 (some .int) p l s m args meth c) (M : rv_Mem) (a1 : Int32) (a2 : Int32) : rv_M (rC_G D cI cZ cO ad gh de) (rC_A ad gh s.heap.size) p l e rm11_owners s m args below meth c 0 0 (qx11_owners D cI cZ cO ad gh de below args s M) (f11_owners gh M a1 a2) 0 [some (.ref (ad 0)), some (.int a1), some (.int a2)] [] M := by
  unfold f11_owners
  refine rv_iload_n (q := 1) E.1.x dX11_owners_0 rfl rfl ?_
  refine rv_x1r (fun r2 e1 => ?_) (fun w3 e4 => rv_tr (fun _ => trivial))
  refine rC_xSv (q := 4) E (fun _ => c11_needRepository E.2.1 E.1.2.2.1 e1) gX11_143 hX11_needRepository ⟨rfl, rfl⟩ ⟨Nat.le_of_ble_eq_true rfl, Nat.le_of_ble_eq_true rfl⟩ ⟨Nat.le_of_ble_eq_true rfl, Nat.le_of_ble_eq_true rfl⟩ rfl rfl rfl (Nat.le_of_ble_eq_true rfl) dX11_owners_1 rfl ?_
  refine rv_iload_n (q := 5) E.1.x dX11_owners_4 rfl rfl ?_
  refine rv_x1r (fun r6 e5 => ?_) (fun w7 e8 => rv_tr (fun _ => trivial))
  refine rC_xSv (q := 8) E (fun _ => c11_needFile E.2.1 E.1.2.2.1 e5) gX11_102 hX11_needFile ⟨rfl, rfl⟩ ⟨Nat.le_of_ble_eq_true rfl, Nat.le_of_ble_eq_true rfl⟩ ⟨Nat.le_of_ble_eq_true rfl, Nat.le_of_ble_eq_true rfl⟩ rfl rfl rfl (Nat.le_of_ble_eq_true rfl) dX11_owners_5 rfl ?_
  refine rv_aload_n (q := 9) E.1.x dX11_owners_8 rfl rfl ?_
  refine rC_getX11 (q := 12) E.1 0 4 wfX11_42 rfl (Nat.le_of_ble_eq_true rfl) ⟨rfl, rfl⟩ rfl dX11_owners_9 rfl ?_
  refine rv_iload_n (q := 13) E.1.x dX11_owners_12 rfl rfl ?_
  refine rv_iload_n (q := 14) E.1.x dX11_owners_13 rfl rfl ?_
  refine rv_b1 (fun r10 e9 => ?_)
  refine rC_calliX6 (q := 17) E.1 ⟨rfl, rfl⟩ (c6_ownersOf E.1.2.2.1 e9) gX11_406 hX6_ownersOf ⟨rfl, rfl⟩ ⟨Nat.le_of_ble_eq_true rfl, Nat.le_of_ble_eq_true rfl⟩ ⟨Nat.le_of_ble_eq_true rfl, Nat.le_of_ble_eq_true rfl⟩ rfl rfl rfl (Nat.le_of_ble_eq_true rfl) dX11_owners_14 rfl ?_
  exact rC_xiret E rfl ⟨Nat.le_of_ble_eq_true rfl, Nat.le_of_ble_eq_true rfl⟩ dX11_owners_17
theorem c11_owners {l : Launch} {D : va_G} {cI cZ cO : ClassId} {ad : Nat → Nat} {gh : rC_gh} {de : Nat} (hfl : l.stackTraces = false) (hI : rC_I ad gh) {sz : Nat} {M : rv_Mem} {a1 : Int32} {a2 : Int32} {r : Int32} (h : f11_owners gh M a1 a2 = some (.inl r)) : vx_Met l yX11_owners (rv_ws yX11_owners cX11_owners 3 (some .int)) rm11_owners (rC_Px D cI cZ cO ad gh de sz [.ref (ad 0), .int a1, .int a2] M) (rC_qi D cI cZ cO ad gh de (rC_A ad gh sz) r M) (rC_fx (rC_A ad gh sz)) 0 0 (rC_A ad gh sz) := rC_xmet (Qc := fun A => rC_qi D cI cZ cO ad gh de A r M) (XC := fun A => rC_fx A) hfl hI rfl (by decide) (Nat.le_of_ble_eq_true rfl) (fun p e s m args below meth c E => ⟨(qx11_owners D cI cZ cO ad gh de below args s M), rfl, b11_owners E M a1 a2⟩) h
abbrev rmx11_owners : Room := { frames := 7, cells := 1, slots := 6, locals := 120 }
def qy11_owners (D : va_G) (cI cZ cO : ClassId) (ad : Nat → Nat) (gh : rC_gh) (de : Nat) (below : List Frame) (args : Array Value) (s : State) (M : rv_Mem) : Int32 ⊕ Nat → State → Prop := fun r => match r with
  | .inl _ => fun _ => True
  | .inr r => vx_MQ below (rC_fi (rC_A ad gh s.heap.size)) (rC_xc D cI cZ cO ad gh de (rC_A ad gh s.heap.size) r M) args s 1 6 (rC_A ad gh s.heap.size)
set_option maxRecDepth 100000 in
theorem bx11_owners {p : Program} {l : Launch} {e : Env} {s : State} {m : MethodId} {args : Array Value} {below : List Frame} {meth : Method} {c : Code} {D : va_G} {cI cZ cO : ClassId} {ad : Nat → Nat} {gh : rC_gh} {de : Nat} (E : rC_X D cI cZ cO ad gh RX11 cX11_owners 3 (some .int) p l s m args meth c) (M : rv_Mem) (a1 : Int32) (a2 : Int32) : rv_M (rC_G D cI cZ cO ad gh de) (rC_A ad gh s.heap.size) p l e rmx11_owners s m args below meth c 0 0 (qy11_owners D cI cZ cO ad gh de below args s M) (f11_owners gh M a1 a2) 0 [some (.ref (ad 0)), some (.int a1), some (.int a2)] [] M := by
  unfold f11_owners
  refine rv_iload_n (q := 1) E.1.x dX11_owners_0 rfl rfl ?_
  refine rv_x1r (fun r2 e1 => ?_) (fun w3 e4 => rC_ySv E (fun _ => c11_needRepository_x E.2.1 E.1.2.2.1 e4) rfl gX11_143 hX11_needRepository ⟨rfl, rfl⟩ ⟨Nat.le_of_ble_eq_true rfl, Nat.le_of_ble_eq_true rfl⟩ ⟨Nat.le_of_ble_eq_true rfl, Nat.le_of_ble_eq_true rfl⟩ rfl rfl rfl (Nat.le_of_ble_eq_true rfl) dX11_owners_1 ⟨Nat.le_of_ble_eq_true rfl, Nat.le_of_ble_eq_true rfl⟩)
  refine rC_xSv (q := 4) E (fun _ => c11_needRepository E.2.1 E.1.2.2.1 e1) gX11_143 hX11_needRepository ⟨rfl, rfl⟩ ⟨Nat.le_of_ble_eq_true rfl, Nat.le_of_ble_eq_true rfl⟩ ⟨Nat.le_of_ble_eq_true rfl, Nat.le_of_ble_eq_true rfl⟩ rfl rfl rfl (Nat.le_of_ble_eq_true rfl) dX11_owners_1 rfl ?_
  refine rv_iload_n (q := 5) E.1.x dX11_owners_4 rfl rfl ?_
  refine rv_x1r (fun r6 e5 => ?_) (fun w7 e8 => rC_ySv E (fun _ => c11_needFile_x E.2.1 E.1.2.2.1 e8) rfl gX11_102 hX11_needFile ⟨rfl, rfl⟩ ⟨Nat.le_of_ble_eq_true rfl, Nat.le_of_ble_eq_true rfl⟩ ⟨Nat.le_of_ble_eq_true rfl, Nat.le_of_ble_eq_true rfl⟩ rfl rfl rfl (Nat.le_of_ble_eq_true rfl) dX11_owners_5 ⟨Nat.le_of_ble_eq_true rfl, Nat.le_of_ble_eq_true rfl⟩)
  refine rC_xSv (q := 8) E (fun _ => c11_needFile E.2.1 E.1.2.2.1 e5) gX11_102 hX11_needFile ⟨rfl, rfl⟩ ⟨Nat.le_of_ble_eq_true rfl, Nat.le_of_ble_eq_true rfl⟩ ⟨Nat.le_of_ble_eq_true rfl, Nat.le_of_ble_eq_true rfl⟩ rfl rfl rfl (Nat.le_of_ble_eq_true rfl) dX11_owners_5 rfl ?_
  refine rv_aload_n (q := 9) E.1.x dX11_owners_8 rfl rfl ?_
  refine rC_getX11 (q := 12) E.1 0 4 wfX11_42 rfl (Nat.le_of_ble_eq_true rfl) ⟨rfl, rfl⟩ rfl dX11_owners_9 rfl ?_
  refine rv_iload_n (q := 13) E.1.x dX11_owners_12 rfl rfl ?_
  refine rv_iload_n (q := 14) E.1.x dX11_owners_13 rfl rfl ?_
  refine rv_b1 (fun r10 e9 => ?_)
  refine rC_calliX6 (q := 17) E.1 ⟨rfl, rfl⟩ (c6_ownersOf E.1.2.2.1 e9) gX11_406 hX6_ownersOf ⟨rfl, rfl⟩ ⟨Nat.le_of_ble_eq_true rfl, Nat.le_of_ble_eq_true rfl⟩ ⟨Nat.le_of_ble_eq_true rfl, Nat.le_of_ble_eq_true rfl⟩ rfl rfl rfl (Nat.le_of_ble_eq_true rfl) dX11_owners_14 rfl ?_
  exact rv_tr (fun _ => trivial)
theorem c11_owners_x {l : Launch} {D : va_G} {cI cZ cO : ClassId} {ad : Nat → Nat} {gh : rC_gh} {de : Nat} (hfl : l.stackTraces = false) (hI : rC_I ad gh) {sz : Nat} {M : rv_Mem} {a1 : Int32} {a2 : Int32} {x : Nat} (h : f11_owners gh M a1 a2 = some (.inr x)) : vx_Met l yX11_owners (rv_ws yX11_owners cX11_owners 3 (some .int)) rmx11_owners (rC_Px D cI cZ cO ad gh de sz [.ref (ad 0), .int a1, .int a2] M) (rC_fi (rC_A ad gh sz)) (rC_xc D cI cZ cO ad gh de (rC_A ad gh sz) x M) 1 6 (rC_A ad gh sz) := rC_xmet (Qc := fun A => rC_fi A) (XC := fun A => rC_xc D cI cZ cO ad gh de A x M) hfl hI rfl (by decide) (Nat.le_of_ble_eq_true rfl) (fun p e s m args below meth c E => ⟨(qy11_owners D cI cZ cO ad gh de below args s M), rfl, bx11_owners E M a1 a2⟩) h
abbrev rm11_isChanged : Room := { frames := 2, cells := 0, slots := 0, locals := 51 }
set_option maxRecDepth 100000 in
theorem b11_isChanged {p : Program} {l : Launch} {e : Env} {s : State} {m : MethodId} {args : Array Value} {below : List Frame} {meth : Method} {c : Code} {D : va_G} {cI cZ cO : ClassId} {ad : Nat → Nat} {gh : rC_gh} {de : Nat} (E : rC_E D cI cZ cO ad gh (rC_K ad gh) RX11 cX11_isChanged 4 (some .boolean) p s m args meth c) (M : rv_Mem) (a1 : Nat) (a2 : Int32) : rv_M (rC_G D cI cZ cO ad gh de) (rC_K ad gh) p l e rm11_isChanged s m args below meth c 0 0 (rC_qZ D cI cZ cO ad gh de below args s M) (f11_isChanged gh M a1 a2) 0 [some (.ref (ad 0)), some (.ref (ad a1)), some (.int a2), none] [] M := by
  unfold f11_isChanged
  refine rv_aload_n (q := 1) E.x dX11_isChanged_0 rfl rfl ?_
  refine rC_getX11 (q := 4) E 0 0 wfX11_10 rfl (Nat.le_of_ble_eq_true rfl) ⟨rfl, rfl⟩ rfl dX11_isChanged_1 rfl ?_
  refine rv_aload_n (q := 5) E.x dX11_isChanged_4 rfl rfl ?_
  refine rv_g (fun g1 => ?_)
  refine rC_getX0 (q := 8) E a1 0 wfX11_180 rfl (Nat.le_of_ble_eq_true rfl) (rC_at_of g1) rfl dX11_isChanged_5 rfl ?_
  refine rv_b1 (fun r3 e2 => ?_)
  refine rC_calliX9 (q := 11) E ⟨rfl, rfl⟩ (c9_currentOf E.2.2.1 e2) gX11_204 hX9_currentOf ⟨rfl, rfl⟩ ⟨Nat.le_of_ble_eq_true rfl, Nat.le_of_ble_eq_true rfl⟩ ⟨Nat.le_of_ble_eq_true rfl, Nat.le_of_ble_eq_true rfl⟩ rfl rfl rfl (Nat.le_of_ble_eq_true rfl) dX11_isChanged_8 rfl ?_
  refine rv_istore_n (q := 12) (lv' := [_, _, _, _]) E.x dX11_isChanged_11 (Nat.le_of_ble_eq_true rfl) rfl rfl rfl ?_
  refine rv_aload_n (q := 13) E.x dX11_isChanged_12 rfl rfl ?_
  refine rC_getX11 (q := 16) E 0 0 wfX11_10 rfl (Nat.le_of_ble_eq_true rfl) ⟨rfl, rfl⟩ rfl dX11_isChanged_13 rfl ?_
  refine rv_iload_n (q := 17) E.x dX11_isChanged_16 rfl rfl ?_
  refine rv_aload_n (q := 18) E.x dX11_isChanged_17 rfl rfl ?_
  refine rC_getX11 (q := 21) E 0 0 wfX11_10 rfl (Nat.le_of_ble_eq_true rfl) ⟨rfl, rfl⟩ rfl dX11_isChanged_18 rfl ?_
  refine rv_iload_n (q := 22) E.x dX11_isChanged_21 rfl rfl ?_
  refine rv_b1 (fun r5 e4 => ?_)
  refine rC_calliX9 (q := 25) E ⟨rfl, rfl⟩ (c9_baseOf E.2.2.1 e4) gX11_99 hX9_baseOf ⟨rfl, rfl⟩ ⟨Nat.le_of_ble_eq_true rfl, Nat.le_of_ble_eq_true rfl⟩ ⟨Nat.le_of_ble_eq_true rfl, Nat.le_of_ble_eq_true rfl⟩ rfl rfl rfl (Nat.le_of_ble_eq_true rfl) dX11_isChanged_22 rfl ?_
  refine rv_iload_n (q := 26) E.x dX11_isChanged_25 rfl rfl ?_
  refine rv_b1 (fun r7 e6 => ?_)
  refine rC_calliX9 (q := 29) E ⟨rfl, rfl⟩ (c9_isSameFile E.2.2.1 e6) gX11_565 hX9_isSameFile ⟨rfl, rfl⟩ ⟨Nat.le_of_ble_eq_true rfl, Nat.le_of_ble_eq_true rfl⟩ ⟨Nat.le_of_ble_eq_true rfl, Nat.le_of_ble_eq_true rfl⟩ rfl rfl rfl (Nat.le_of_ble_eq_true rfl) dX11_isChanged_26 rfl ?_
  refine rv_ifz_ne (q := 32) (tgt := 36) E.x dX11_isChanged_29 (by decide) rfl ?_ ?_
  · refine rv_iconst (q := 33) E.x dX11_isChanged_32 rv_ki1 rfl ?_
    refine rv_goto (q := 37) E.x dX11_isChanged_33 (by decide) ?_
    exact rC_zret E true rfl dX11_isChanged_37
  · refine rv_iconst (q := 37) E.x dX11_isChanged_36 rv_ki0 rfl ?_
    exact rC_zret E false rfl dX11_isChanged_37
theorem c11_isChanged {l : Launch} {D : va_G} {cI cZ cO : ClassId} {ad : Nat → Nat} {gh : rC_gh} {de : Nat} (hI : rC_I ad gh) {M : rv_Mem} {a1 : Nat} {a2 : Int32} {r : Bool} (h : f11_isChanged gh M a1 a2 = some r) : Met l yX11_isChanged (rv_ws yX11_isChanged cX11_isChanged 4 (some .boolean)) rm11_isChanged (rC_Pc D cI cZ cO ad gh de [.ref (ad 0), .ref (ad a1), .int a2] M) (rC_QI D cI cZ cO ad gh de (rv_i r) M) 0 0 (rC_K ad gh) := rC_met hI rfl (by decide) (Nat.le_of_ble_eq_true rfl) (fun p e s m args below meth c E => ⟨(rC_qZ D cI cZ cO ad gh de below args s M), rfl, b11_isChanged E M a1 a2⟩) h
abbrev rm11_isOwnedBy : Room := { frames := 3, cells := 0, slots := 0, locals := 74 }
set_option maxRecDepth 100000 in
theorem b11_isOwnedBy_35 {p : Program} {l : Launch} {e : Env} {s : State} {m : MethodId} {args : Array Value} {below : List Frame} {meth : Method} {c : Code} {D : va_G} {cI cZ cO : ClassId} {ad : Nat → Nat} {gh : rC_gh} {de : Nat} (E : rC_E D cI cZ cO ad gh (rC_K ad gh) RX11 cX11_isOwnedBy 4 (some .boolean) p s m args meth c) (M : rv_Mem) (k2 : Nat → Int32 → Int32 → Option (Bool)) (h2 : ∀ (x1 : Nat) (x2 : Int32) (x3 : Int32), rv_M (rC_G D cI cZ cO ad gh de) (rC_K ad gh) p l e rm11_isOwnedBy s m args below meth c 0 0 (rC_qZ D cI cZ cO ad gh de below args s M) (k2 x1 x2 x3) 2 [some (.ref (ad 0)), some (.ref (ad x1)), some (.int x2), some (.int x3)] [] M) : ∀ (x1 : Nat) (x2 : Int32) (x3 : Int32), rv_M (rC_G D cI cZ cO ad gh de) (rC_K ad gh) p l e rm11_isOwnedBy s m args below meth c 0 0 (rC_qZ D cI cZ cO ad gh de below args s M) (f11_isOwnedBy_35 gh M k2 x1 x2 x3) 35 [some (.ref (ad 0)), some (.ref (ad x1)), some (.int x2), some (.int x3)] [] M := by
  intro x1 x2 x3
  unfold f11_isOwnedBy_35
  refine rv_iinc (q := 38) (lv' := [_, _, _, _]) E.x dX11_isOwnedBy_35 rv_ki1 rfl rfl rfl rfl ?_
  refine rv_goto (q := 2) E.x dX11_isOwnedBy_38 (by decide) ?_
  refine rv_wk [true, true, true, true] ?_
  exact h2 x1 x2 (x3 + 1)
set_option maxRecDepth 100000 in
theorem b11_isOwnedBy_2_s {p : Program} {l : Launch} {e : Env} {s : State} {m : MethodId} {args : Array Value} {below : List Frame} {meth : Method} {c : Code} {D : va_G} {cI cZ cO : ClassId} {ad : Nat → Nat} {gh : rC_gh} {de : Nat} (E : rC_E D cI cZ cO ad gh (rC_K ad gh) RX11 cX11_isOwnedBy 4 (some .boolean) p s m args meth c) (M : rv_Mem)   (k2 : Nat → Int32 → Int32 → Option (Bool)) (h2 : ∀ (x1 : Nat) (x2 : Int32) (x3 : Int32), rv_M (rC_G D cI cZ cO ad gh de) (rC_K ad gh) p l e rm11_isOwnedBy s m args below meth c 0 0 (rC_qZ D cI cZ cO ad gh de below args s M) (k2 x1 x2 x3) 2 [some (.ref (ad 0)), some (.ref (ad x1)), some (.int x2), some (.int x3)] [] M) : ∀ (x1 : Nat) (x2 : Int32) (x3 : Int32), rv_M (rC_G D cI cZ cO ad gh de) (rC_K ad gh) p l e rm11_isOwnedBy s m args below meth c 0 0 (rC_qZ D cI cZ cO ad gh de below args s M) (f11_isOwnedBy_2_s gh M k2 x1 x2 x3) 2 [some (.ref (ad 0)), some (.ref (ad x1)), some (.int x2), some (.int x3)] [] M := by
  intro x1 x2 x3
  unfold f11_isOwnedBy_2_s
  refine rv_iload_n (q := 3) E.x dX11_isOwnedBy_2 rfl rfl ?_
  refine rv_iconst (q := 4) E.x dX11_isOwnedBy_3 rv_ki4 rfl ?_
  refine rv_icmp_ge (q := 7) (tgt := 41) E.x dX11_isOwnedBy_4 (by decide) rfl ?_ ?_
  · refine rv_aload_n (q := 8) E.x dX11_isOwnedBy_7 rfl rfl ?_
    refine rC_getX11 (q := 11) E 0 4 wfX11_42 rfl (Nat.le_of_ble_eq_true rfl) ⟨rfl, rfl⟩ rfl dX11_isOwnedBy_8 rfl ?_
    refine rv_aload_n (q := 12) E.x dX11_isOwnedBy_11 rfl rfl ?_
    refine rv_g (fun g1 => ?_)
    refine rC_getX0 (q := 15) E x1 2 wfX11_187 rfl (Nat.le_of_ble_eq_true rfl) (rC_at_of g1) rfl dX11_isOwnedBy_12 rfl ?_
    refine rv_iload_n (q := 16) E.x dX11_isOwnedBy_15 rfl rfl ?_
    refine rv_b1 (fun r3 e2 => ?_)
    refine rC_calliX6 (q := 19) E ⟨rfl, rfl⟩ (c6_ownersOf E.2.2.1 e2) gX11_406 hX6_ownersOf ⟨rfl, rfl⟩ ⟨Nat.le_of_ble_eq_true rfl, Nat.le_of_ble_eq_true rfl⟩ ⟨Nat.le_of_ble_eq_true rfl, Nat.le_of_ble_eq_true rfl⟩ rfl rfl rfl (Nat.le_of_ble_eq_true rfl) dX11_isOwnedBy_16 rfl ?_
    refine rv_iload_n (q := 20) E.x dX11_isOwnedBy_19 rfl rfl ?_
    refine rv_iand (q := 21) E.x dX11_isOwnedBy_20 rfl ?_
    refine rv_if_ne (q := 24) (tgt := 35) E.x dX11_isOwnedBy_21 (by decide) rfl ?_ ?_
    · refine rv_aload_n (q := 25) E.x dX11_isOwnedBy_24 rfl rfl ?_
      refine rv_aload_n (q := 26) E.x dX11_isOwnedBy_25 rfl rfl ?_
      refine rv_iload_n (q := 27) E.x dX11_isOwnedBy_26 rfl rfl ?_
      refine rv_b1 (fun r5 e4 => ?_)
      refine rC_calliX11 (q := 30) E ⟨rfl, rfl⟩ (c11_isChanged E.2.2.1 e4) gX11_568 hX11_isChanged ⟨rfl, rfl⟩ ⟨Nat.le_of_ble_eq_true rfl, Nat.le_of_ble_eq_true rfl⟩ ⟨Nat.le_of_ble_eq_true rfl, Nat.le_of_ble_eq_true rfl⟩ rfl rfl rfl (Nat.le_of_ble_eq_true rfl) dX11_isOwnedBy_27 rfl ?_
      refine rv_ifz_eq (q := 33) (tgt := 35) E.x dX11_isOwnedBy_30 (by decide) rfl ?_ ?_
      · refine rv_iconst (q := 34) E.x dX11_isOwnedBy_33 rv_ki0 rfl ?_
        exact rC_zret E false rfl dX11_isOwnedBy_34
      · refine rv_wk [true, true, true, true] ?_
        exact b11_isOwnedBy_35 E M k2 h2 x1 x2 x3
    · refine rv_wk [true, true, true, true] ?_
      exact b11_isOwnedBy_35 E M k2 h2 x1 x2 x3
  · refine rv_iconst (q := 42) E.x dX11_isOwnedBy_41 rv_ki1 rfl ?_
    exact rC_zret E true rfl dX11_isOwnedBy_42
theorem b11_isOwnedBy_2 {p : Program} {l : Launch} {e : Env} {s : State} {m : MethodId} {args : Array Value} {below : List Frame} {meth : Method} {c : Code} {D : va_G} {cI cZ cO : ClassId} {ad : Nat → Nat} {gh : rC_gh} {de : Nat} (E : rC_E D cI cZ cO ad gh (rC_K ad gh) RX11 cX11_isOwnedBy 4 (some .boolean) p s m args meth c) (M : rv_Mem)   : ∀ (n : Nat), ∀ (x1 : Nat) (x2 : Int32) (x3 : Int32), rv_M (rC_G D cI cZ cO ad gh de) (rC_K ad gh) p l e rm11_isOwnedBy s m args below meth c 0 0 (rC_qZ D cI cZ cO ad gh de below args s M) (f11_isOwnedBy_2 gh M n x1 x2 x3) 2 [some (.ref (ad 0)), some (.ref (ad x1)), some (.int x2), some (.int x3)] [] M := by
  intro n
  induction n with
  | zero => exact fun _ _ _ => rv_stuck
  | succ n ih => exact b11_isOwnedBy_2_s E M (f11_isOwnedBy_2 gh M n) ih
set_option maxRecDepth 100000 in
theorem b11_isOwnedBy {p : Program} {l : Launch} {e : Env} {s : State} {m : MethodId} {args : Array Value} {below : List Frame} {meth : Method} {c : Code} {D : va_G} {cI cZ cO : ClassId} {ad : Nat → Nat} {gh : rC_gh} {de : Nat} (E : rC_E D cI cZ cO ad gh (rC_K ad gh) RX11 cX11_isOwnedBy 4 (some .boolean) p s m args meth c) (M : rv_Mem) (a1 : Nat) (a2 : Int32) : rv_M (rC_G D cI cZ cO ad gh de) (rC_K ad gh) p l e rm11_isOwnedBy s m args below meth c 0 0 (rC_qZ D cI cZ cO ad gh de below args s M) (f11_isOwnedBy gh M a1 a2) 0 [some (.ref (ad 0)), some (.ref (ad a1)), some (.int a2), none] [] M := by
  unfold f11_isOwnedBy
  refine rv_iconst (q := 1) E.x dX11_isOwnedBy_0 rv_ki0 rfl ?_
  refine rv_istore_n (q := 2) (lv' := [_, _, _, _]) E.x dX11_isOwnedBy_1 (Nat.le_of_ble_eq_true rfl) rfl rfl rfl ?_
  refine rv_wk [true, true, true, true] ?_
  exact b11_isOwnedBy_2 E M rv_FU a1 a2 0
theorem c11_isOwnedBy {l : Launch} {D : va_G} {cI cZ cO : ClassId} {ad : Nat → Nat} {gh : rC_gh} {de : Nat} (hI : rC_I ad gh) {M : rv_Mem} {a1 : Nat} {a2 : Int32} {r : Bool} (h : f11_isOwnedBy gh M a1 a2 = some r) : Met l yX11_isOwnedBy (rv_ws yX11_isOwnedBy cX11_isOwnedBy 4 (some .boolean)) rm11_isOwnedBy (rC_Pc D cI cZ cO ad gh de [.ref (ad 0), .ref (ad a1), .int a2] M) (rC_QI D cI cZ cO ad gh de (rv_i r) M) 0 0 (rC_K ad gh) := rC_met hI rfl (by decide) (Nat.le_of_ble_eq_true rfl) (fun p e s m args below meth c E => ⟨(rC_qZ D cI cZ cO ad gh de below args s M), rfl, b11_isOwnedBy E M a1 a2⟩) h
abbrev rm11_fewest : Room := { frames := 7, cells := 0, slots := 0, locals := 122 }
def qx11_fewest (D : va_G) (cI cZ cO : ClassId) (ad : Nat → Nat) (gh : rC_gh) (de : Nat) (below : List Frame) (args : Array Value) (s : State) (M : rv_Mem) : Int32 ⊕ Nat → State → Prop := fun r => match r with
  | .inl r => vx_MQ below (rC_qi D cI cZ cO ad gh de (rC_A ad gh s.heap.size) r M) (rC_fx (rC_A ad gh s.heap.size)) args s 0 0 (rC_A ad gh s.heap.size)
  | .inr _ => fun _ => True
set_option maxRecDepth 100000 in
theorem b11_fewest_44 {p : Program} {l : Launch} {e : Env} {s : State} {m : MethodId} {args : Array Value} {below : List Frame} {meth : Method} {c : Code} {D : va_G} {cI cZ cO : ClassId} {ad : Nat → Nat} {gh : rC_gh} {de : Nat} (E : rC_X D cI cZ cO ad gh RX11 cX11_fewest 5 (some .int) p l s m args meth c) (M : rv_Mem) (k12 : Nat → Int32 → Int32 → Option (Int32 ⊕ Nat)) (h12 : ∀ (x2 : Nat) (x3 : Int32) (x4 : Int32), rv_M (rC_G D cI cZ cO ad gh de) (rC_A ad gh s.heap.size) p l e rm11_fewest s m args below meth c 0 0 (qx11_fewest D cI cZ cO ad gh de below args s M) (k12 x2 x3 x4) 12 [some (.ref (ad 0)), none, some (.ref (ad x2)), some (.int x3), some (.int x4)] [] M) : ∀ (x2 : Nat) (x3 : Int32) (x4 : Int32), rv_M (rC_G D cI cZ cO ad gh de) (rC_A ad gh s.heap.size) p l e rm11_fewest s m args below meth c 0 0 (qx11_fewest D cI cZ cO ad gh de below args s M) (f11_fewest_44 gh M k12 x2 x3 x4) 44 [some (.ref (ad 0)), none, some (.ref (ad x2)), some (.int x3), some (.int x4)] [] M := by
  intro x2 x3 x4
  unfold f11_fewest_44
  refine rv_iinc (q := 47) (lv' := [_, _, _, _, _]) E.1.x dX11_fewest_44 rv_ki1 rfl rfl rfl rfl ?_
  refine rv_goto (q := 12) E.1.x dX11_fewest_47 (by decide) ?_
  refine rv_wk [true, false, true, true, true] ?_
  exact h12 x2 x3 (x4 + 1)
set_option maxRecDepth 100000 in
theorem b11_fewest_12_s {p : Program} {l : Launch} {e : Env} {s : State} {m : MethodId} {args : Array Value} {below : List Frame} {meth : Method} {c : Code} {D : va_G} {cI cZ cO : ClassId} {ad : Nat → Nat} {gh : rC_gh} {de : Nat} (E : rC_X D cI cZ cO ad gh RX11 cX11_fewest 5 (some .int) p l s m args meth c) (M : rv_Mem)   (k12 : Nat → Int32 → Int32 → Option (Int32 ⊕ Nat)) (h12 : ∀ (x2 : Nat) (x3 : Int32) (x4 : Int32), rv_M (rC_G D cI cZ cO ad gh de) (rC_A ad gh s.heap.size) p l e rm11_fewest s m args below meth c 0 0 (qx11_fewest D cI cZ cO ad gh de below args s M) (k12 x2 x3 x4) 12 [some (.ref (ad 0)), none, some (.ref (ad x2)), some (.int x3), some (.int x4)] [] M) : ∀ (x2 : Nat) (x3 : Int32) (x4 : Int32), rv_M (rC_G D cI cZ cO ad gh de) (rC_A ad gh s.heap.size) p l e rm11_fewest s m args below meth c 0 0 (qx11_fewest D cI cZ cO ad gh de below args s M) (f11_fewest_12_s gh M k12 x2 x3 x4) 12 [some (.ref (ad 0)), none, some (.ref (ad x2)), some (.int x3), some (.int x4)] [] M := by
  intro x2 x3 x4
  unfold f11_fewest_12_s
  refine rv_iload (q := 14) E.1.x dX11_fewest_12 rfl rfl ?_
  refine rv_bipush (q := 16) E.1.x dX11_fewest_14 rv_kb64 rfl ?_
  refine rv_icmp_ge (q := 19) (tgt := 50) E.1.x dX11_fewest_16 (by decide) rfl ?_ ?_
  · refine rv_iload (q := 21) E.1.x dX11_fewest_19 rfl rfl ?_
    refine rv_b1 (fun r2 e1 => ?_)
    refine rC_calls (q := 24) E.1 (cJ_bits e1) gX11_384 hJ6_bitCount_0f7a4 ⟨rfl, rfl⟩ ⟨Nat.le_of_ble_eq_true rfl, Nat.le_of_ble_eq_true rfl⟩ ⟨Nat.le_of_ble_eq_true rfl, Nat.le_of_ble_eq_true rfl⟩ rfl rfl rfl (Nat.le_of_ble_eq_true rfl) dX11_fewest_21 rfl ?_
    refine rv_iload_n (q := 25) E.1.x dX11_fewest_24 rfl rfl ?_
    refine rv_b1 (fun r4 e3 => ?_)
    refine rC_calls (q := 28) E.1 (cJ_bits e3) gX11_384 hJ6_bitCount_0f7a4 ⟨rfl, rfl⟩ ⟨Nat.le_of_ble_eq_true rfl, Nat.le_of_ble_eq_true rfl⟩ ⟨Nat.le_of_ble_eq_true rfl, Nat.le_of_ble_eq_true rfl⟩ rfl rfl rfl (Nat.le_of_ble_eq_true rfl) dX11_fewest_25 rfl ?_
    refine rv_icmp_ge (q := 31) (tgt := 44) E.1.x dX11_fewest_28 (by decide) rfl ?_ ?_
    · refine rv_aload_n (q := 32) E.1.x dX11_fewest_31 rfl rfl ?_
      refine rv_aload_n (q := 33) E.1.x dX11_fewest_32 rfl rfl ?_
      refine rv_iload (q := 35) E.1.x dX11_fewest_33 rfl rfl ?_
      refine rv_b1 (fun r6 e5 => ?_)
      refine rC_calliX11 (q := 38) E.1 ⟨rfl, rfl⟩ (c11_isOwnedBy E.1.2.2.1 e5) gX11_409 hX11_isOwnedBy ⟨rfl, rfl⟩ ⟨Nat.le_of_ble_eq_true rfl, Nat.le_of_ble_eq_true rfl⟩ ⟨Nat.le_of_ble_eq_true rfl, Nat.le_of_ble_eq_true rfl⟩ rfl rfl rfl (Nat.le_of_ble_eq_true rfl) dX11_fewest_35 rfl ?_
      refine rv_ifz_eq (q := 41) (tgt := 44) E.1.x dX11_fewest_38 (by decide) rfl ?_ ?_
      · refine rv_iload (q := 43) E.1.x dX11_fewest_41 rfl rfl ?_
        refine rv_istore_n (q := 44) (lv' := [_, _, _, _, _]) E.1.x dX11_fewest_43 (Nat.le_of_ble_eq_true rfl) rfl rfl rfl ?_
        refine rv_wk [true, false, true, true, true] ?_
        exact b11_fewest_44 E M k12 h12 x2 x4 x4
      · refine rv_wk [true, false, true, true, true] ?_
        exact b11_fewest_44 E M k12 h12 x2 x3 x4
    · refine rv_wk [true, false, true, true, true] ?_
      exact b11_fewest_44 E M k12 h12 x2 x3 x4
  · refine rv_iload_n (q := 51) E.1.x dX11_fewest_50 rfl rfl ?_
    exact rC_xiret E rfl ⟨Nat.le_of_ble_eq_true rfl, Nat.le_of_ble_eq_true rfl⟩ dX11_fewest_51
theorem b11_fewest_12 {p : Program} {l : Launch} {e : Env} {s : State} {m : MethodId} {args : Array Value} {below : List Frame} {meth : Method} {c : Code} {D : va_G} {cI cZ cO : ClassId} {ad : Nat → Nat} {gh : rC_gh} {de : Nat} (E : rC_X D cI cZ cO ad gh RX11 cX11_fewest 5 (some .int) p l s m args meth c) (M : rv_Mem)   : ∀ (n : Nat), ∀ (x2 : Nat) (x3 : Int32) (x4 : Int32), rv_M (rC_G D cI cZ cO ad gh de) (rC_A ad gh s.heap.size) p l e rm11_fewest s m args below meth c 0 0 (qx11_fewest D cI cZ cO ad gh de below args s M) (f11_fewest_12 gh M n x2 x3 x4) 12 [some (.ref (ad 0)), none, some (.ref (ad x2)), some (.int x3), some (.int x4)] [] M := by
  intro n
  induction n with
  | zero => exact fun _ _ _ => rv_stuck
  | succ n ih => exact b11_fewest_12_s E M (f11_fewest_12 gh M n) ih
set_option maxRecDepth 100000 in
theorem b11_fewest {p : Program} {l : Launch} {e : Env} {s : State} {m : MethodId} {args : Array Value} {below : List Frame} {meth : Method} {c : Code} {D : va_G} {cI cZ cO : ClassId} {ad : Nat → Nat} {gh : rC_gh} {de : Nat} (E : rC_X D cI cZ cO ad gh RX11 cX11_fewest 5 (some .int) p l s m args meth c) (M : rv_Mem) (a1 : Int32) : rv_M (rC_G D cI cZ cO ad gh de) (rC_A ad gh s.heap.size) p l e rm11_fewest s m args below meth c 0 0 (qx11_fewest D cI cZ cO ad gh de below args s M) (f11_fewest gh M a1) 0 [some (.ref (ad 0)), some (.int a1), none, none, none] [] M := by
  unfold f11_fewest
  refine rv_aload_n (q := 1) E.1.x dX11_fewest_0 rfl rfl ?_
  refine rv_iload_n (q := 2) E.1.x dX11_fewest_1 rfl rfl ?_
  refine rv_x1r (fun r2 e1 => ?_) (fun w3 e4 => rv_tr (fun _ => trivial))
  refine rC_xVrX11 (q := 5) E ⟨rfl, rfl⟩ (fun _ => c11_needChange E.2.1 E.1.2.2.1 e1) gX11_91 hX11_needChange ⟨rfl, rfl⟩ ⟨Nat.le_of_ble_eq_true rfl, Nat.le_of_ble_eq_true rfl⟩ ⟨Nat.le_of_ble_eq_true rfl, Nat.le_of_ble_eq_true rfl⟩ rfl rfl rfl (Nat.le_of_ble_eq_true rfl) dX11_fewest_2 rfl ?_
  refine rv_astore_n (q := 6) (lv' := [_, _, _, _, _]) E.1.x dX11_fewest_5 (Nat.le_of_ble_eq_true rfl) rfl rfl rfl ?_
  refine rv_bipush (q := 8) E.1.x dX11_fewest_6 rv_kb63 rfl ?_
  refine rv_istore_n (q := 9) (lv' := [_, _, _, _, _]) E.1.x dX11_fewest_8 (Nat.le_of_ble_eq_true rfl) rfl rfl rfl ?_
  refine rv_iconst (q := 10) E.1.x dX11_fewest_9 rv_ki0 rfl ?_
  refine rv_istore (q := 12) (lv' := [_, _, _, _, _]) E.1.x dX11_fewest_10 (Nat.le_of_ble_eq_true rfl) rfl rfl rfl ?_
  refine rv_wk [true, false, true, true, true] ?_
  exact b11_fewest_12 E M rv_FU r2 63 0
theorem c11_fewest {l : Launch} {D : va_G} {cI cZ cO : ClassId} {ad : Nat → Nat} {gh : rC_gh} {de : Nat} (hfl : l.stackTraces = false) (hI : rC_I ad gh) {sz : Nat} {M : rv_Mem} {a1 : Int32} {r : Int32} (h : f11_fewest gh M a1 = some (.inl r)) : vx_Met l yX11_fewest (rv_ws yX11_fewest cX11_fewest 5 (some .int)) rm11_fewest (rC_Px D cI cZ cO ad gh de sz [.ref (ad 0), .int a1] M) (rC_qi D cI cZ cO ad gh de (rC_A ad gh sz) r M) (rC_fx (rC_A ad gh sz)) 0 0 (rC_A ad gh sz) := rC_xmet (Qc := fun A => rC_qi D cI cZ cO ad gh de A r M) (XC := fun A => rC_fx A) hfl hI rfl (by decide) (Nat.le_of_ble_eq_true rfl) (fun p e s m args below meth c E => ⟨(qx11_fewest D cI cZ cO ad gh de below args s M), rfl, b11_fewest E M a1⟩) h
abbrev rmx11_fewest : Room := { frames := 7, cells := 1, slots := 6, locals := 122 }
def qy11_fewest (D : va_G) (cI cZ cO : ClassId) (ad : Nat → Nat) (gh : rC_gh) (de : Nat) (below : List Frame) (args : Array Value) (s : State) (M : rv_Mem) : Int32 ⊕ Nat → State → Prop := fun r => match r with
  | .inl _ => fun _ => True
  | .inr r => vx_MQ below (rC_fi (rC_A ad gh s.heap.size)) (rC_xc D cI cZ cO ad gh de (rC_A ad gh s.heap.size) r M) args s 1 6 (rC_A ad gh s.heap.size)
set_option maxRecDepth 100000 in
theorem bx11_fewest_44 {p : Program} {l : Launch} {e : Env} {s : State} {m : MethodId} {args : Array Value} {below : List Frame} {meth : Method} {c : Code} {D : va_G} {cI cZ cO : ClassId} {ad : Nat → Nat} {gh : rC_gh} {de : Nat} (E : rC_X D cI cZ cO ad gh RX11 cX11_fewest 5 (some .int) p l s m args meth c) (M : rv_Mem) (k12 : Nat → Int32 → Int32 → Option (Int32 ⊕ Nat)) (h12 : ∀ (x2 : Nat) (x3 : Int32) (x4 : Int32), rv_M (rC_G D cI cZ cO ad gh de) (rC_A ad gh s.heap.size) p l e rmx11_fewest s m args below meth c 0 0 (qy11_fewest D cI cZ cO ad gh de below args s M) (k12 x2 x3 x4) 12 [some (.ref (ad 0)), none, some (.ref (ad x2)), some (.int x3), some (.int x4)] [] M) : ∀ (x2 : Nat) (x3 : Int32) (x4 : Int32), rv_M (rC_G D cI cZ cO ad gh de) (rC_A ad gh s.heap.size) p l e rmx11_fewest s m args below meth c 0 0 (qy11_fewest D cI cZ cO ad gh de below args s M) (f11_fewest_44 gh M k12 x2 x3 x4) 44 [some (.ref (ad 0)), none, some (.ref (ad x2)), some (.int x3), some (.int x4)] [] M := by
  intro x2 x3 x4
  unfold f11_fewest_44
  refine rv_iinc (q := 47) (lv' := [_, _, _, _, _]) E.1.x dX11_fewest_44 rv_ki1 rfl rfl rfl rfl ?_
  refine rv_goto (q := 12) E.1.x dX11_fewest_47 (by decide) ?_
  refine rv_wk [true, false, true, true, true] ?_
  exact h12 x2 x3 (x4 + 1)
set_option maxRecDepth 100000 in
theorem bx11_fewest_12_s {p : Program} {l : Launch} {e : Env} {s : State} {m : MethodId} {args : Array Value} {below : List Frame} {meth : Method} {c : Code} {D : va_G} {cI cZ cO : ClassId} {ad : Nat → Nat} {gh : rC_gh} {de : Nat} (E : rC_X D cI cZ cO ad gh RX11 cX11_fewest 5 (some .int) p l s m args meth c) (M : rv_Mem)   (k12 : Nat → Int32 → Int32 → Option (Int32 ⊕ Nat)) (h12 : ∀ (x2 : Nat) (x3 : Int32) (x4 : Int32), rv_M (rC_G D cI cZ cO ad gh de) (rC_A ad gh s.heap.size) p l e rmx11_fewest s m args below meth c 0 0 (qy11_fewest D cI cZ cO ad gh de below args s M) (k12 x2 x3 x4) 12 [some (.ref (ad 0)), none, some (.ref (ad x2)), some (.int x3), some (.int x4)] [] M) : ∀ (x2 : Nat) (x3 : Int32) (x4 : Int32), rv_M (rC_G D cI cZ cO ad gh de) (rC_A ad gh s.heap.size) p l e rmx11_fewest s m args below meth c 0 0 (qy11_fewest D cI cZ cO ad gh de below args s M) (f11_fewest_12_s gh M k12 x2 x3 x4) 12 [some (.ref (ad 0)), none, some (.ref (ad x2)), some (.int x3), some (.int x4)] [] M := by
  intro x2 x3 x4
  unfold f11_fewest_12_s
  refine rv_iload (q := 14) E.1.x dX11_fewest_12 rfl rfl ?_
  refine rv_bipush (q := 16) E.1.x dX11_fewest_14 rv_kb64 rfl ?_
  refine rv_icmp_ge (q := 19) (tgt := 50) E.1.x dX11_fewest_16 (by decide) rfl ?_ ?_
  · refine rv_iload (q := 21) E.1.x dX11_fewest_19 rfl rfl ?_
    refine rv_b1 (fun r2 e1 => ?_)
    refine rC_calls (q := 24) E.1 (cJ_bits e1) gX11_384 hJ6_bitCount_0f7a4 ⟨rfl, rfl⟩ ⟨Nat.le_of_ble_eq_true rfl, Nat.le_of_ble_eq_true rfl⟩ ⟨Nat.le_of_ble_eq_true rfl, Nat.le_of_ble_eq_true rfl⟩ rfl rfl rfl (Nat.le_of_ble_eq_true rfl) dX11_fewest_21 rfl ?_
    refine rv_iload_n (q := 25) E.1.x dX11_fewest_24 rfl rfl ?_
    refine rv_b1 (fun r4 e3 => ?_)
    refine rC_calls (q := 28) E.1 (cJ_bits e3) gX11_384 hJ6_bitCount_0f7a4 ⟨rfl, rfl⟩ ⟨Nat.le_of_ble_eq_true rfl, Nat.le_of_ble_eq_true rfl⟩ ⟨Nat.le_of_ble_eq_true rfl, Nat.le_of_ble_eq_true rfl⟩ rfl rfl rfl (Nat.le_of_ble_eq_true rfl) dX11_fewest_25 rfl ?_
    refine rv_icmp_ge (q := 31) (tgt := 44) E.1.x dX11_fewest_28 (by decide) rfl ?_ ?_
    · refine rv_aload_n (q := 32) E.1.x dX11_fewest_31 rfl rfl ?_
      refine rv_aload_n (q := 33) E.1.x dX11_fewest_32 rfl rfl ?_
      refine rv_iload (q := 35) E.1.x dX11_fewest_33 rfl rfl ?_
      refine rv_b1 (fun r6 e5 => ?_)
      refine rC_calliX11 (q := 38) E.1 ⟨rfl, rfl⟩ (c11_isOwnedBy E.1.2.2.1 e5) gX11_409 hX11_isOwnedBy ⟨rfl, rfl⟩ ⟨Nat.le_of_ble_eq_true rfl, Nat.le_of_ble_eq_true rfl⟩ ⟨Nat.le_of_ble_eq_true rfl, Nat.le_of_ble_eq_true rfl⟩ rfl rfl rfl (Nat.le_of_ble_eq_true rfl) dX11_fewest_35 rfl ?_
      refine rv_ifz_eq (q := 41) (tgt := 44) E.1.x dX11_fewest_38 (by decide) rfl ?_ ?_
      · refine rv_iload (q := 43) E.1.x dX11_fewest_41 rfl rfl ?_
        refine rv_istore_n (q := 44) (lv' := [_, _, _, _, _]) E.1.x dX11_fewest_43 (Nat.le_of_ble_eq_true rfl) rfl rfl rfl ?_
        refine rv_wk [true, false, true, true, true] ?_
        exact bx11_fewest_44 E M k12 h12 x2 x4 x4
      · refine rv_wk [true, false, true, true, true] ?_
        exact bx11_fewest_44 E M k12 h12 x2 x3 x4
    · refine rv_wk [true, false, true, true, true] ?_
      exact bx11_fewest_44 E M k12 h12 x2 x3 x4
  · refine rv_iload_n (q := 51) E.1.x dX11_fewest_50 rfl rfl ?_
    exact rv_tr (fun _ => trivial)
theorem bx11_fewest_12 {p : Program} {l : Launch} {e : Env} {s : State} {m : MethodId} {args : Array Value} {below : List Frame} {meth : Method} {c : Code} {D : va_G} {cI cZ cO : ClassId} {ad : Nat → Nat} {gh : rC_gh} {de : Nat} (E : rC_X D cI cZ cO ad gh RX11 cX11_fewest 5 (some .int) p l s m args meth c) (M : rv_Mem)   : ∀ (n : Nat), ∀ (x2 : Nat) (x3 : Int32) (x4 : Int32), rv_M (rC_G D cI cZ cO ad gh de) (rC_A ad gh s.heap.size) p l e rmx11_fewest s m args below meth c 0 0 (qy11_fewest D cI cZ cO ad gh de below args s M) (f11_fewest_12 gh M n x2 x3 x4) 12 [some (.ref (ad 0)), none, some (.ref (ad x2)), some (.int x3), some (.int x4)] [] M := by
  intro n
  induction n with
  | zero => exact fun _ _ _ => rv_stuck
  | succ n ih => exact bx11_fewest_12_s E M (f11_fewest_12 gh M n) ih
set_option maxRecDepth 100000 in
theorem bx11_fewest {p : Program} {l : Launch} {e : Env} {s : State} {m : MethodId} {args : Array Value} {below : List Frame} {meth : Method} {c : Code} {D : va_G} {cI cZ cO : ClassId} {ad : Nat → Nat} {gh : rC_gh} {de : Nat} (E : rC_X D cI cZ cO ad gh RX11 cX11_fewest 5 (some .int) p l s m args meth c) (M : rv_Mem) (a1 : Int32) : rv_M (rC_G D cI cZ cO ad gh de) (rC_A ad gh s.heap.size) p l e rmx11_fewest s m args below meth c 0 0 (qy11_fewest D cI cZ cO ad gh de below args s M) (f11_fewest gh M a1) 0 [some (.ref (ad 0)), some (.int a1), none, none, none] [] M := by
  unfold f11_fewest
  refine rv_aload_n (q := 1) E.1.x dX11_fewest_0 rfl rfl ?_
  refine rv_iload_n (q := 2) E.1.x dX11_fewest_1 rfl rfl ?_
  refine rv_x1r (fun r2 e1 => ?_) (fun w3 e4 => rC_yVrX11 E ⟨rfl, rfl⟩ (fun _ => c11_needChange_x E.2.1 E.1.2.2.1 e4) rfl gX11_91 hX11_needChange ⟨rfl, rfl⟩ ⟨Nat.le_of_ble_eq_true rfl, Nat.le_of_ble_eq_true rfl⟩ ⟨Nat.le_of_ble_eq_true rfl, Nat.le_of_ble_eq_true rfl⟩ rfl rfl rfl (Nat.le_of_ble_eq_true rfl) dX11_fewest_2 ⟨Nat.le_of_ble_eq_true rfl, Nat.le_of_ble_eq_true rfl⟩)
  refine rC_xVrX11 (q := 5) E ⟨rfl, rfl⟩ (fun _ => c11_needChange E.2.1 E.1.2.2.1 e1) gX11_91 hX11_needChange ⟨rfl, rfl⟩ ⟨Nat.le_of_ble_eq_true rfl, Nat.le_of_ble_eq_true rfl⟩ ⟨Nat.le_of_ble_eq_true rfl, Nat.le_of_ble_eq_true rfl⟩ rfl rfl rfl (Nat.le_of_ble_eq_true rfl) dX11_fewest_2 rfl ?_
  refine rv_astore_n (q := 6) (lv' := [_, _, _, _, _]) E.1.x dX11_fewest_5 (Nat.le_of_ble_eq_true rfl) rfl rfl rfl ?_
  refine rv_bipush (q := 8) E.1.x dX11_fewest_6 rv_kb63 rfl ?_
  refine rv_istore_n (q := 9) (lv' := [_, _, _, _, _]) E.1.x dX11_fewest_8 (Nat.le_of_ble_eq_true rfl) rfl rfl rfl ?_
  refine rv_iconst (q := 10) E.1.x dX11_fewest_9 rv_ki0 rfl ?_
  refine rv_istore (q := 12) (lv' := [_, _, _, _, _]) E.1.x dX11_fewest_10 (Nat.le_of_ble_eq_true rfl) rfl rfl rfl ?_
  refine rv_wk [true, false, true, true, true] ?_
  exact bx11_fewest_12 E M rv_FU r2 63 0
theorem c11_fewest_x {l : Launch} {D : va_G} {cI cZ cO : ClassId} {ad : Nat → Nat} {gh : rC_gh} {de : Nat} (hfl : l.stackTraces = false) (hI : rC_I ad gh) {sz : Nat} {M : rv_Mem} {a1 : Int32} {x : Nat} (h : f11_fewest gh M a1 = some (.inr x)) : vx_Met l yX11_fewest (rv_ws yX11_fewest cX11_fewest 5 (some .int)) rmx11_fewest (rC_Px D cI cZ cO ad gh de sz [.ref (ad 0), .int a1] M) (rC_fi (rC_A ad gh sz)) (rC_xc D cI cZ cO ad gh de (rC_A ad gh sz) x M) 1 6 (rC_A ad gh sz) := rC_xmet (Qc := fun A => rC_fi A) (XC := fun A => rC_xc D cI cZ cO ad gh de A x M) hfl hI rfl (by decide) (Nat.le_of_ble_eq_true rfl) (fun p e s m args below meth c E => ⟨(qy11_fewest D cI cZ cO ad gh de below args s M), rfl, bx11_fewest E M a1⟩) h
abbrev rm11_needLabel : Room := { frames := 6, cells := 0, slots := 0, locals := 100 }
def qx11_needLabel (D : va_G) (cI cZ cO : ClassId) (ad : Nat → Nat) (gh : rC_gh) (de : Nat) (below : List Frame) (args : Array Value) (s : State) (M : rv_Mem) : Unit ⊕ Nat → State → Prop := fun r => match r with
  | .inl r => vx_MQ below (rC_qv D cI cZ cO ad gh de (rC_A ad gh s.heap.size) M) (rC_fx (rC_A ad gh s.heap.size)) args s 0 0 (rC_A ad gh s.heap.size)
  | .inr _ => fun _ => True
set_option maxRecDepth 100000 in
theorem b11_needLabel {p : Program} {l : Launch} {e : Env} {s : State} {m : MethodId} {args : Array Value} {below : List Frame} {meth : Method} {c : Code} {D : va_G} {cI cZ cO : ClassId} {ad : Nat → Nat} {gh : rC_gh} {de : Nat} (E : rC_X D cI cZ cO ad gh RX11 cX11_needLabel 1 none p l s m args meth c) (M : rv_Mem) (a1 : Int32) : rv_M (rC_G D cI cZ cO ad gh de) (rC_A ad gh s.heap.size) p l e rm11_needLabel s m args below meth c 0 0 (qx11_needLabel D cI cZ cO ad gh de below args s M) (f11_needLabel gh M a1) 0 [some (.int a1)] [] M := by
  unfold f11_needLabel
  refine rv_iload_n (q := 1) E.1.x dX11_needLabel_0 rfl rfl ?_
  refine rv_if_lt (q := 4) (tgt := 9) E.1.x dX11_needLabel_1 (by decide) rfl ?_ ?_
  · refine rv_iload_n (q := 5) E.1.x dX11_needLabel_4 rfl rfl ?_
    refine rv_iconst (q := 6) E.1.x dX11_needLabel_5 rv_ki2 rfl ?_
    refine rv_icmp_lt (q := 9) (tgt := 20) E.1.x dX11_needLabel_6 (by decide) rfl ?_ ?_
    · exact rv_tr (fun _ => trivial)
    · exact rC_xvret E rfl ⟨Nat.le_of_ble_eq_true rfl, Nat.le_of_ble_eq_true rfl⟩ dX11_needLabel_20
  · exact rv_tr (fun _ => trivial)
theorem c11_needLabel {l : Launch} {D : va_G} {cI cZ cO : ClassId} {ad : Nat → Nat} {gh : rC_gh} {de : Nat} (hfl : l.stackTraces = false) (hI : rC_I ad gh) {sz : Nat} {M : rv_Mem} {a1 : Int32} {r : Unit} (h : f11_needLabel gh M a1 = some (.inl r)) : vx_Met l yX11_needLabel (rv_ws yX11_needLabel cX11_needLabel 1 none) rm11_needLabel (rC_Px D cI cZ cO ad gh de sz [.int a1] M) (rC_qv D cI cZ cO ad gh de (rC_A ad gh sz) M) (rC_fx (rC_A ad gh sz)) 0 0 (rC_A ad gh sz) := rC_xmet (Qc := fun A => rC_qv D cI cZ cO ad gh de A M) (XC := fun A => rC_fx A) hfl hI rfl (by decide) (Nat.le_of_ble_eq_true rfl) (fun p e s m args below meth c E => ⟨(qx11_needLabel D cI cZ cO ad gh de below args s M), rfl, b11_needLabel E M a1⟩) h
abbrev rmx11_needLabel : Room := { frames := 6, cells := 1, slots := 6, locals := 100 }
def qy11_needLabel (D : va_G) (cI cZ cO : ClassId) (ad : Nat → Nat) (gh : rC_gh) (de : Nat) (below : List Frame) (args : Array Value) (s : State) (M : rv_Mem) : Unit ⊕ Nat → State → Prop := fun r => match r with
  | .inl _ => fun _ => True
  | .inr r => vx_MQ below (rC_fvv (rC_A ad gh s.heap.size)) (rC_xc D cI cZ cO ad gh de (rC_A ad gh s.heap.size) r M) args s 1 6 (rC_A ad gh s.heap.size)
set_option maxRecDepth 100000 in
theorem bx11_needLabel {p : Program} {l : Launch} {e : Env} {s : State} {m : MethodId} {args : Array Value} {below : List Frame} {meth : Method} {c : Code} {D : va_G} {cI cZ cO : ClassId} {ad : Nat → Nat} {gh : rC_gh} {de : Nat} (E : rC_X D cI cZ cO ad gh RX11 cX11_needLabel 1 none p l s m args meth c) (M : rv_Mem) (a1 : Int32) : rv_M (rC_G D cI cZ cO ad gh de) (rC_A ad gh s.heap.size) p l e rmx11_needLabel s m args below meth c 0 0 (qy11_needLabel D cI cZ cO ad gh de below args s M) (f11_needLabel gh M a1) 0 [some (.int a1)] [] M := by
  unfold f11_needLabel
  refine rv_iload_n (q := 1) E.1.x dX11_needLabel_0 rfl rfl ?_
  refine rv_if_lt (q := 4) (tgt := 9) E.1.x dX11_needLabel_1 (by decide) rfl ?_ ?_
  · refine rv_iload_n (q := 5) E.1.x dX11_needLabel_4 rfl rfl ?_
    refine rv_iconst (q := 6) E.1.x dX11_needLabel_5 rv_ki2 rfl ?_
    refine rv_icmp_lt (q := 9) (tgt := 20) E.1.x dX11_needLabel_6 (by decide) rfl ?_ ?_
    · exact rC_throwW (x := 2) E rfl (by decide +kernel) rC_xk2 rC_xi2 rC_xg2 rC_xn2 rC_xo2 E.2.2.2.2.2.2.2.1 (is := 491) (text := "no such label") (by decide +kernel) rfl rfl dX11_needLabel_9 dX11_needLabel_12 dX11_needLabel_13 dX11_needLabel_16 dX11_needLabel_19 (Nat.le_of_ble_eq_true rfl) (Nat.le_of_ble_eq_true rfl) ⟨Nat.le_of_ble_eq_true rfl, Nat.le_of_ble_eq_true rfl⟩ ⟨Nat.le_of_ble_eq_true rfl, Nat.le_of_ble_eq_true rfl⟩
    · exact rv_tr (fun _ => trivial)
  · exact rC_throwW (x := 2) E rfl (by decide +kernel) rC_xk2 rC_xi2 rC_xg2 rC_xn2 rC_xo2 E.2.2.2.2.2.2.2.1 (is := 491) (text := "no such label") (by decide +kernel) rfl rfl dX11_needLabel_9 dX11_needLabel_12 dX11_needLabel_13 dX11_needLabel_16 dX11_needLabel_19 (Nat.le_of_ble_eq_true rfl) (Nat.le_of_ble_eq_true rfl) ⟨Nat.le_of_ble_eq_true rfl, Nat.le_of_ble_eq_true rfl⟩ ⟨Nat.le_of_ble_eq_true rfl, Nat.le_of_ble_eq_true rfl⟩
theorem c11_needLabel_x {l : Launch} {D : va_G} {cI cZ cO : ClassId} {ad : Nat → Nat} {gh : rC_gh} {de : Nat} (hfl : l.stackTraces = false) (hI : rC_I ad gh) {sz : Nat} {M : rv_Mem} {a1 : Int32} {x : Nat} (h : f11_needLabel gh M a1 = some (.inr x)) : vx_Met l yX11_needLabel (rv_ws yX11_needLabel cX11_needLabel 1 none) rmx11_needLabel (rC_Px D cI cZ cO ad gh de sz [.int a1] M) (rC_fvv (rC_A ad gh sz)) (rC_xc D cI cZ cO ad gh de (rC_A ad gh sz) x M) 1 6 (rC_A ad gh sz) := rC_xmet (Qc := fun A => rC_fvv A) (XC := fun A => rC_xc D cI cZ cO ad gh de A x M) hfl hI rfl (by decide) (Nat.le_of_ble_eq_true rfl) (fun p e s m args below meth c E => ⟨(qy11_needLabel D cI cZ cO ad gh de below args s M), rfl, bx11_needLabel E M a1⟩) h
