abbrev rmx11_restore : Room := { frames := 7, cells := 1, slots := 6, locals := 122 }
def qy11_restore (D : va_G) (cI cZ cO : ClassId) (ad : Nat → Nat) (gh : rC_gh) (de : Nat) (below : List Frame) (args : Array Value) (s : State) : (Int32 × rv_Mem) ⊕ (Nat × rv_Mem) → State → Prop := fun r => match r with
  | .inl _ => fun _ => True
  | .inr r => vx_MQ below (rC_fi (rC_A ad gh s.heap.size)) (rC_xc D cI cZ cO ad gh de (rC_A ad gh s.heap.size) r.1 r.2) args s 1 6 (rC_A ad gh s.heap.size)
set_option maxRecDepth 100000 in
theorem bx11_restore {p : Program} {l : Launch} {e : Env} {s : State} {m : MethodId} {args : Array Value} {below : List Frame} {meth : Method} {c : Code} {D : va_G} {cI cZ cO : ClassId} {ad : Nat → Nat} {gh : rC_gh} {de : Nat} (E : rC_X D cI cZ cO ad gh RX11 cX11_restore 3 (some .int) p l s m args meth c) (M : rv_Mem) (a1 : Int32) : rv_M (rC_G D cI cZ cO ad gh de) (rC_A ad gh s.heap.size) p l e rmx11_restore s m args below meth c 0 0 (qy11_restore D cI cZ cO ad gh de below args s) (f11_restore gh M a1) 0 [some (.ref (ad 0)), some (.int a1), none] [] M := by
  unfold f11_restore
  refine rv_aload_n (q := 1) E.1.x dX11_restore_0 rfl rfl ?_
  refine rv_iload_n (q := 2) E.1.x dX11_restore_1 rfl rfl ?_
  refine rv_x2r (fun r2 e1 => ?_) (fun w3 e4 => rC_yVrX11 E ⟨rfl, rfl⟩ (fun _ => c11_needChange_x E.2.1 E.1.2.2.1 e4) rfl gX11_91 hX11_needChange ⟨rfl, rfl⟩ ⟨Nat.le_of_ble_eq_true rfl, Nat.le_of_ble_eq_true rfl⟩ ⟨Nat.le_of_ble_eq_true rfl, Nat.le_of_ble_eq_true rfl⟩ rfl rfl rfl (Nat.le_of_ble_eq_true rfl) dX11_restore_2 ⟨Nat.le_of_ble_eq_true rfl, Nat.le_of_ble_eq_true rfl⟩)
  refine rC_xVrX11 (q := 5) E ⟨rfl, rfl⟩ (fun _ => c11_needChange E.2.1 E.1.2.2.1 e1) gX11_91 hX11_needChange ⟨rfl, rfl⟩ ⟨Nat.le_of_ble_eq_true rfl, Nat.le_of_ble_eq_true rfl⟩ ⟨Nat.le_of_ble_eq_true rfl, Nat.le_of_ble_eq_true rfl⟩ rfl rfl rfl (Nat.le_of_ble_eq_true rfl) dX11_restore_2 rfl ?_
  refine rv_astore_n (q := 6) (lv' := [_, _, _]) E.1.x dX11_restore_5 (Nat.le_of_ble_eq_true rfl) rfl rfl rfl ?_
  refine rv_aload_n (q := 7) E.1.x dX11_restore_6 rfl rfl ?_
  refine rv_g (fun g5 => ?_)
  refine rC_getX0 (q := 10) E.1 r2 5 wfX11_227 rfl (Nat.le_of_ble_eq_true rfl) (rC_at_of g5) rfl dX11_restore_7 rfl ?_
  refine rv_iconst (q := 11) E.1.x dX11_restore_10 rv_ki2 rfl ?_
  refine rv_icmp_eq (q := 14) (tgt := 24) E.1.x dX11_restore_11 (by decide) rfl ?_ ?_
  · exact rC_throw (x := 3) E rfl (by decide +kernel) rC_xk3 rC_xi3 rC_xg3 rC_xn3 rC_xo3 E.2.2.2.2.2.2.2.2.1 (is := 233) (text := "the change is not abandoned") (by decide +kernel) rfl rfl dX11_restore_14 dX11_restore_17 dX11_restore_18 dX11_restore_20 dX11_restore_23 (Nat.le_of_ble_eq_true rfl) (Nat.le_of_ble_eq_true rfl) ⟨Nat.le_of_ble_eq_true rfl, Nat.le_of_ble_eq_true rfl⟩ ⟨Nat.le_of_ble_eq_true rfl, Nat.le_of_ble_eq_true rfl⟩
  · refine rv_aload_n (q := 25) E.1.x dX11_restore_24 rfl rfl ?_
    refine rv_iconst (q := 26) E.1.x dX11_restore_25 rv_ki0 rfl ?_
    refine rC_putX0 (q := 29) E.1 r2 5 wfX11_227 rfl (Nat.le_of_ble_eq_true rfl) (rC_at_of g5) rfl ⟨rfl, rfl⟩ dX11_restore_26 rfl ?_
    refine rv_ltm (fun M6 => ?_)
    refine rv_aload_n (q := 30) E.1.x dX11_restore_29 rfl rfl ?_
    refine rv_aload_n (q := 31) E.1.x dX11_restore_30 rfl rfl ?_
    refine rC_getX11 (q := 34) E.1 0 11 wfX11_75 rfl (Nat.le_of_ble_eq_true rfl) ⟨rfl, rfl⟩ rfl dX11_restore_31 rfl ?_
    refine rC_putX0 (q := 37) E.1 r2 11 wfX11_235 rfl (Nat.le_of_ble_eq_true rfl) (rC_at_of g5) rfl ⟨rfl, rfl⟩ dX11_restore_34 rfl ?_
    refine rv_ltm (fun M7 => ?_)
    refine rv_aload_n (q := 38) E.1.x dX11_restore_37 rfl rfl ?_
    refine rC_getX0 (q := 41) E.1 r2 4 wfX11_238 rfl (Nat.le_of_ble_eq_true rfl) (rC_at_of g5) rfl dX11_restore_38 rfl ?_
    refine rv_iconst (q := 42) E.1.x dX11_restore_41 rv_ki1 rfl ?_
    refine rv_isub (q := 43) E.1.x dX11_restore_42 rfl ?_
    exact rv_tr (fun _ => trivial)
theorem c11_restore_x {l : Launch} {D : va_G} {cI cZ cO : ClassId} {ad : Nat → Nat} {gh : rC_gh} {de : Nat} (hfl : l.stackTraces = false) (hI : rC_I ad gh) {sz : Nat} {M : rv_Mem} {a1 : Int32} {x : Nat} {M1 : rv_Mem} (h : f11_restore gh M a1 = some (.inr (x, M1))) : vx_Met l yX11_restore (rv_ws yX11_restore cX11_restore 3 (some .int)) rmx11_restore (rC_Px D cI cZ cO ad gh de sz [.ref (ad 0), .int a1] M) (rC_fi (rC_A ad gh sz)) (rC_xc D cI cZ cO ad gh de (rC_A ad gh sz) x M1) 1 6 (rC_A ad gh sz) := rC_xmet (Qc := fun A => rC_fi A) (XC := fun A => rC_xc D cI cZ cO ad gh de A x M1) hfl hI rfl (by decide) (Nat.le_of_ble_eq_true rfl) (fun p e s m args below meth c E => ⟨(qy11_restore D cI cZ cO ad gh de below args s), rfl, bx11_restore E M a1⟩) h
abbrev rm11_setFlags : Room := { frames := 7, cells := 0, slots := 0, locals := 122 }
def qx11_setFlags (D : va_G) (cI cZ cO : ClassId) (ad : Nat → Nat) (gh : rC_gh) (de : Nat) (below : List Frame) (args : Array Value) (s : State) : (Int32 × rv_Mem) ⊕ (Nat × rv_Mem) → State → Prop := fun r => match r with
  | .inl r => vx_MQ below (rC_qi D cI cZ cO ad gh de (rC_A ad gh s.heap.size) r.1 r.2) (rC_fx (rC_A ad gh s.heap.size)) args s 0 0 (rC_A ad gh s.heap.size)
  | .inr _ => fun _ => True
set_option maxRecDepth 100000 in
theorem b11_setFlags_90 {p : Program} {l : Launch} {e : Env} {s : State} {m : MethodId} {args : Array Value} {below : List Frame} {meth : Method} {c : Code} {D : va_G} {cI cZ cO : ClassId} {ad : Nat → Nat} {gh : rC_gh} {de : Nat} (E : rC_X D cI cZ cO ad gh RX11 cX11_setFlags 6 (some .int) p l s m args meth c)   : ∀ (M : rv_Mem) (x2 : Bool) (x3 : Bool) (x4 : Nat) (x5 : Int32), rv_M (rC_G D cI cZ cO ad gh de) (rC_A ad gh s.heap.size) p l e rm11_setFlags s m args below meth c 0 0 (qx11_setFlags D cI cZ cO ad gh de below args s) (f11_setFlags_90 gh M x2 x3 x4 x5) 90 [none, none, some (.int (rv_i x2)), some (.int (rv_i x3)), some (.ref (ad x4)), some (.int x5)] [] M := by
  intro M x2 x3 x4 x5
  unfold f11_setFlags_90
  refine rv_aload (q := 92) E.1.x dX11_setFlags_90 rfl rfl ?_
  refine rv_iload_n (q := 93) E.1.x dX11_setFlags_92 rfl rfl ?_
  refine rv_g (fun g1 => ?_)
  refine rC_putzX0 (q := 96) E.1 x4 6 x2 wfX11_243 rfl (Nat.le_of_ble_eq_true rfl) (rC_at_of g1) rfl ⟨rfl, rfl⟩ dX11_setFlags_93 rfl ?_
  refine rv_ltm (fun M2 => ?_)
  refine rv_aload (q := 98) E.1.x dX11_setFlags_96 rfl rfl ?_
  refine rv_iload_n (q := 99) E.1.x dX11_setFlags_98 rfl rfl ?_
  refine rC_putzX0 (q := 102) E.1 x4 7 x3 wfX11_247 rfl (Nat.le_of_ble_eq_true rfl) (rC_at_of g1) rfl ⟨rfl, rfl⟩ dX11_setFlags_99 rfl ?_
  refine rv_ltm (fun M3 => ?_)
  refine rv_iload (q := 104) E.1.x dX11_setFlags_102 rfl rfl ?_
  exact rC_xiret E rfl ⟨Nat.le_of_ble_eq_true rfl, Nat.le_of_ble_eq_true rfl⟩ dX11_setFlags_104
set_option maxRecDepth 100000 in
theorem b11_setFlags_51 {p : Program} {l : Launch} {e : Env} {s : State} {m : MethodId} {args : Array Value} {below : List Frame} {meth : Method} {c : Code} {D : va_G} {cI cZ cO : ClassId} {ad : Nat → Nat} {gh : rC_gh} {de : Nat} (E : rC_X D cI cZ cO ad gh RX11 cX11_setFlags 6 (some .int) p l s m args meth c)   : ∀ (M : rv_Mem) (x2 : Bool) (x3 : Bool) (x4 : Nat) (s0 : Bool) (s1 : Int32), rv_M (rC_G D cI cZ cO ad gh de) (rC_A ad gh s.heap.size) p l e rm11_setFlags s m args below meth c 0 0 (qx11_setFlags D cI cZ cO ad gh de below args s) (f11_setFlags_51 gh M x2 x3 x4 s0 s1) 51 [none, none, some (.int (rv_i x2)), some (.int (rv_i x3)), some (.ref (ad x4)), none] [.int s1, .int (rv_i s0)] M := by
  intro M x2 x3 x4 s0 s1
  unfold f11_setFlags_51
  refine rv_iadd (q := 52) E.1.x dX11_setFlags_51 rfl ?_
  refine rv_istore (q := 54) (lv' := [_, _, _, _, _, _]) E.1.x dX11_setFlags_52 (Nat.le_of_ble_eq_true rfl) rfl rfl rfl ?_
  refine rv_iload_n (q := 55) E.1.x dX11_setFlags_54 rfl rfl ?_
  refine rv_ifz_eq (q := 58) (tgt := 67) E.1.x dX11_setFlags_55 (by decide) rfl ?_ ?_
  · refine rv_aload (q := 60) E.1.x dX11_setFlags_58 rfl rfl ?_
    refine rv_iconst (q := 61) E.1.x dX11_setFlags_60 rv_ki0 rfl ?_
    refine rv_g (fun g1 => ?_)
    refine rC_putX0 (q := 64) E.1 x4 10 wfX11_250 rfl (Nat.le_of_ble_eq_true rfl) (rC_at_of g1) rfl ⟨rfl, rfl⟩ dX11_setFlags_61 rfl ?_
    refine rv_ltm (fun M2 => ?_)
    refine rv_goto (q := 90) E.1.x dX11_setFlags_64 (by decide) ?_
    refine rv_wk [false, false, true, true, true, true] ?_
    exact b11_setFlags_90 E M2 x2 x3 x4 ((rv_i s0) + s1)
  · refine rv_aload (q := 69) E.1.x dX11_setFlags_67 rfl rfl ?_
    refine rv_g (fun g3 => ?_)
    refine rC_getX0 (q := 72) E.1 x4 6 wfX11_243 rfl (Nat.le_of_ble_eq_true rfl) (rC_at_of g3) rfl dX11_setFlags_69 rfl ?_
    refine rv_ifz_eq (q := 75) (tgt := 90) E.1.x dX11_setFlags_72 (by decide) rfl ?_ ?_
    · refine rv_aload (q := 77) E.1.x dX11_setFlags_75 rfl rfl ?_
      refine rv_dup (q := 78) E.1.x dX11_setFlags_77 rfl rfl ?_
      refine rC_getX0 (q := 81) E.1 x4 10 wfX11_250 rfl (Nat.le_of_ble_eq_true rfl) (rC_at_of g3) rfl dX11_setFlags_78 rfl ?_
      refine rv_aload (q := 83) E.1.x dX11_setFlags_81 rfl rfl ?_
      refine rC_getX0 (q := 86) E.1 x4 9 wfX11_253 rfl (Nat.le_of_ble_eq_true rfl) (rC_at_of g3) rfl dX11_setFlags_83 rfl ?_
      refine rv_ior (q := 87) E.1.x dX11_setFlags_86 rfl ?_
      refine rC_putX0 (q := 90) E.1 x4 10 wfX11_250 rfl (Nat.le_of_ble_eq_true rfl) (rC_at_of g3) rfl ⟨rfl, rfl⟩ dX11_setFlags_87 rfl ?_
      refine rv_ltm (fun M4 => ?_)
      refine rv_wk [false, false, true, true, true, true] ?_
      exact b11_setFlags_90 E M4 x2 x3 x4 ((rv_i s0) + s1)
    · refine rv_wk [false, false, true, true, true, true] ?_
      exact b11_setFlags_90 E M x2 x3 x4 ((rv_i s0) + s1)
set_option maxRecDepth 100000 in
theorem b11_setFlags_38 {p : Program} {l : Launch} {e : Env} {s : State} {m : MethodId} {args : Array Value} {below : List Frame} {meth : Method} {c : Code} {D : va_G} {cI cZ cO : ClassId} {ad : Nat → Nat} {gh : rC_gh} {de : Nat} (E : rC_X D cI cZ cO ad gh RX11 cX11_setFlags 6 (some .int) p l s m args meth c)   : ∀ (M : rv_Mem) (x2 : Bool) (x3 : Bool) (x4 : Nat) (s0 : Bool), rv_M (rC_G D cI cZ cO ad gh de) (rC_A ad gh s.heap.size) p l e rm11_setFlags s m args below meth c 0 0 (qx11_setFlags D cI cZ cO ad gh de below args s) (f11_setFlags_38 gh M x2 x3 x4 s0) 38 [none, none, some (.int (rv_i x2)), some (.int (rv_i x3)), some (.ref (ad x4)), none] [.int (rv_i s0)] M := by
  intro M x2 x3 x4 s0
  unfold f11_setFlags_38
  refine rv_aload (q := 40) E.1.x dX11_setFlags_38 rfl rfl ?_
  refine rv_g (fun g1 => ?_)
  refine rC_getX0 (q := 43) E.1 x4 7 wfX11_247 rfl (Nat.le_of_ble_eq_true rfl) (rC_at_of g1) rfl dX11_setFlags_40 rfl ?_
  refine rv_ifz_eq (q := 46) (tgt := 50) E.1.x dX11_setFlags_43 (by decide) rfl ?_ ?_
  · refine rv_iconst (q := 47) E.1.x dX11_setFlags_46 rv_ki2 rfl ?_
    refine rv_goto (q := 51) E.1.x dX11_setFlags_47 (by decide) ?_
    refine rv_wk [false, false, true, true, true, false] ?_
    exact b11_setFlags_51 E M x2 x3 x4 s0 2
  · refine rv_iconst (q := 51) E.1.x dX11_setFlags_50 rv_ki0 rfl ?_
    refine rv_wk [false, false, true, true, true, false] ?_
    exact b11_setFlags_51 E M x2 x3 x4 s0 0
set_option maxRecDepth 100000 in
theorem b11_setFlags {p : Program} {l : Launch} {e : Env} {s : State} {m : MethodId} {args : Array Value} {below : List Frame} {meth : Method} {c : Code} {D : va_G} {cI cZ cO : ClassId} {ad : Nat → Nat} {gh : rC_gh} {de : Nat} (E : rC_X D cI cZ cO ad gh RX11 cX11_setFlags 6 (some .int) p l s m args meth c) (M : rv_Mem) (a1 : Int32) (a2 : Bool) (a3 : Bool) : rv_M (rC_G D cI cZ cO ad gh de) (rC_A ad gh s.heap.size) p l e rm11_setFlags s m args below meth c 0 0 (qx11_setFlags D cI cZ cO ad gh de below args s) (f11_setFlags gh M a1 a2 a3) 0 [some (.ref (ad 0)), some (.int a1), some (.int (rv_i a2)), some (.int (rv_i a3)), none, none] [] M := by
  unfold f11_setFlags
  refine rv_aload_n (q := 1) E.1.x dX11_setFlags_0 rfl rfl ?_
  refine rv_iload_n (q := 2) E.1.x dX11_setFlags_1 rfl rfl ?_
  refine rv_x2r (fun r2 e1 => ?_) (fun w3 e4 => rv_tr (fun _ => trivial))
  refine rC_xVrX11 (q := 5) E ⟨rfl, rfl⟩ (fun _ => c11_needChange E.2.1 E.1.2.2.1 e1) gX11_91 hX11_needChange ⟨rfl, rfl⟩ ⟨Nat.le_of_ble_eq_true rfl, Nat.le_of_ble_eq_true rfl⟩ ⟨Nat.le_of_ble_eq_true rfl, Nat.le_of_ble_eq_true rfl⟩ rfl rfl rfl (Nat.le_of_ble_eq_true rfl) dX11_setFlags_2 rfl ?_
  refine rv_astore (q := 7) (lv' := [_, _, _, _, _, _]) E.1.x dX11_setFlags_5 (Nat.le_of_ble_eq_true rfl) rfl rfl rfl ?_
  refine rv_aload (q := 9) E.1.x dX11_setFlags_7 rfl rfl ?_
  refine rv_g (fun g5 => ?_)
  refine rC_getX0 (q := 12) E.1 r2 5 wfX11_227 rfl (Nat.le_of_ble_eq_true rfl) (rC_at_of g5) rfl dX11_setFlags_9 rfl ?_
  refine rv_if_eq (q := 15) (tgt := 25) E.1.x dX11_setFlags_12 (by decide) rfl ?_ ?_
  · exact rv_tr (fun _ => trivial)
  · refine rv_aload (q := 27) E.1.x dX11_setFlags_25 rfl rfl ?_
    refine rC_getX0 (q := 30) E.1 r2 6 wfX11_243 rfl (Nat.le_of_ble_eq_true rfl) (rC_at_of g5) rfl dX11_setFlags_27 rfl ?_
    refine rv_ifz_eq (q := 33) (tgt := 37) E.1.x dX11_setFlags_30 (by decide) rfl ?_ ?_
    · refine rv_iconst (q := 34) E.1.x dX11_setFlags_33 rv_ki1 rfl ?_
      refine rv_goto (q := 38) E.1.x dX11_setFlags_34 (by decide) ?_
      refine rv_wk [false, false, true, true, true, false] ?_
      exact b11_setFlags_38 E M a2 a3 r2 true
    · refine rv_iconst (q := 38) E.1.x dX11_setFlags_37 rv_ki0 rfl ?_
      refine rv_wk [false, false, true, true, true, false] ?_
      exact b11_setFlags_38 E M a2 a3 r2 false
theorem c11_setFlags {l : Launch} {D : va_G} {cI cZ cO : ClassId} {ad : Nat → Nat} {gh : rC_gh} {de : Nat} (hfl : l.stackTraces = false) (hI : rC_I ad gh) {sz : Nat} {M : rv_Mem} {a1 : Int32} {a2 : Bool} {a3 : Bool} {r : Int32} {M1 : rv_Mem} (h : f11_setFlags gh M a1 a2 a3 = some (.inl (r, M1))) : vx_Met l yX11_setFlags (rv_ws yX11_setFlags cX11_setFlags 6 (some .int)) rm11_setFlags (rC_Px D cI cZ cO ad gh de sz [.ref (ad 0), .int a1, .int (rv_i a2), .int (rv_i a3)] M) (rC_qi D cI cZ cO ad gh de (rC_A ad gh sz) r M1) (rC_fx (rC_A ad gh sz)) 0 0 (rC_A ad gh sz) := rC_xmet (Qc := fun A => rC_qi D cI cZ cO ad gh de A r M1) (XC := fun A => rC_fx A) hfl hI rfl (by decide) (Nat.le_of_ble_eq_true rfl) (fun p e s m args below meth c E => ⟨(qx11_setFlags D cI cZ cO ad gh de below args s), rfl, b11_setFlags E M a1 a2 a3⟩) h
abbrev rmx11_setFlags : Room := { frames := 7, cells := 1, slots := 6, locals := 122 }
def qy11_setFlags (D : va_G) (cI cZ cO : ClassId) (ad : Nat → Nat) (gh : rC_gh) (de : Nat) (below : List Frame) (args : Array Value) (s : State) : (Int32 × rv_Mem) ⊕ (Nat × rv_Mem) → State → Prop := fun r => match r with
  | .inl _ => fun _ => True
  | .inr r => vx_MQ below (rC_fi (rC_A ad gh s.heap.size)) (rC_xc D cI cZ cO ad gh de (rC_A ad gh s.heap.size) r.1 r.2) args s 1 6 (rC_A ad gh s.heap.size)
set_option maxRecDepth 100000 in
theorem bx11_setFlags_90 {p : Program} {l : Launch} {e : Env} {s : State} {m : MethodId} {args : Array Value} {below : List Frame} {meth : Method} {c : Code} {D : va_G} {cI cZ cO : ClassId} {ad : Nat → Nat} {gh : rC_gh} {de : Nat} (E : rC_X D cI cZ cO ad gh RX11 cX11_setFlags 6 (some .int) p l s m args meth c)   : ∀ (M : rv_Mem) (x2 : Bool) (x3 : Bool) (x4 : Nat) (x5 : Int32), rv_M (rC_G D cI cZ cO ad gh de) (rC_A ad gh s.heap.size) p l e rmx11_setFlags s m args below meth c 0 0 (qy11_setFlags D cI cZ cO ad gh de below args s) (f11_setFlags_90 gh M x2 x3 x4 x5) 90 [none, none, some (.int (rv_i x2)), some (.int (rv_i x3)), some (.ref (ad x4)), some (.int x5)] [] M := by
  intro M x2 x3 x4 x5
  unfold f11_setFlags_90
  refine rv_aload (q := 92) E.1.x dX11_setFlags_90 rfl rfl ?_
  refine rv_iload_n (q := 93) E.1.x dX11_setFlags_92 rfl rfl ?_
  refine rv_g (fun g1 => ?_)
  refine rC_putzX0 (q := 96) E.1 x4 6 x2 wfX11_243 rfl (Nat.le_of_ble_eq_true rfl) (rC_at_of g1) rfl ⟨rfl, rfl⟩ dX11_setFlags_93 rfl ?_
  refine rv_ltm (fun M2 => ?_)
  refine rv_aload (q := 98) E.1.x dX11_setFlags_96 rfl rfl ?_
  refine rv_iload_n (q := 99) E.1.x dX11_setFlags_98 rfl rfl ?_
  refine rC_putzX0 (q := 102) E.1 x4 7 x3 wfX11_247 rfl (Nat.le_of_ble_eq_true rfl) (rC_at_of g1) rfl ⟨rfl, rfl⟩ dX11_setFlags_99 rfl ?_
  refine rv_ltm (fun M3 => ?_)
  refine rv_iload (q := 104) E.1.x dX11_setFlags_102 rfl rfl ?_
  exact rv_tr (fun _ => trivial)
set_option maxRecDepth 100000 in
theorem bx11_setFlags_51 {p : Program} {l : Launch} {e : Env} {s : State} {m : MethodId} {args : Array Value} {below : List Frame} {meth : Method} {c : Code} {D : va_G} {cI cZ cO : ClassId} {ad : Nat → Nat} {gh : rC_gh} {de : Nat} (E : rC_X D cI cZ cO ad gh RX11 cX11_setFlags 6 (some .int) p l s m args meth c)   : ∀ (M : rv_Mem) (x2 : Bool) (x3 : Bool) (x4 : Nat) (s0 : Bool) (s1 : Int32), rv_M (rC_G D cI cZ cO ad gh de) (rC_A ad gh s.heap.size) p l e rmx11_setFlags s m args below meth c 0 0 (qy11_setFlags D cI cZ cO ad gh de below args s) (f11_setFlags_51 gh M x2 x3 x4 s0 s1) 51 [none, none, some (.int (rv_i x2)), some (.int (rv_i x3)), some (.ref (ad x4)), none] [.int s1, .int (rv_i s0)] M := by
  intro M x2 x3 x4 s0 s1
  unfold f11_setFlags_51
  refine rv_iadd (q := 52) E.1.x dX11_setFlags_51 rfl ?_
  refine rv_istore (q := 54) (lv' := [_, _, _, _, _, _]) E.1.x dX11_setFlags_52 (Nat.le_of_ble_eq_true rfl) rfl rfl rfl ?_
  refine rv_iload_n (q := 55) E.1.x dX11_setFlags_54 rfl rfl ?_
  refine rv_ifz_eq (q := 58) (tgt := 67) E.1.x dX11_setFlags_55 (by decide) rfl ?_ ?_
  · refine rv_aload (q := 60) E.1.x dX11_setFlags_58 rfl rfl ?_
    refine rv_iconst (q := 61) E.1.x dX11_setFlags_60 rv_ki0 rfl ?_
    refine rv_g (fun g1 => ?_)
    refine rC_putX0 (q := 64) E.1 x4 10 wfX11_250 rfl (Nat.le_of_ble_eq_true rfl) (rC_at_of g1) rfl ⟨rfl, rfl⟩ dX11_setFlags_61 rfl ?_
    refine rv_ltm (fun M2 => ?_)
    refine rv_goto (q := 90) E.1.x dX11_setFlags_64 (by decide) ?_
    refine rv_wk [false, false, true, true, true, true] ?_
    exact bx11_setFlags_90 E M2 x2 x3 x4 ((rv_i s0) + s1)
  · refine rv_aload (q := 69) E.1.x dX11_setFlags_67 rfl rfl ?_
    refine rv_g (fun g3 => ?_)
    refine rC_getX0 (q := 72) E.1 x4 6 wfX11_243 rfl (Nat.le_of_ble_eq_true rfl) (rC_at_of g3) rfl dX11_setFlags_69 rfl ?_
    refine rv_ifz_eq (q := 75) (tgt := 90) E.1.x dX11_setFlags_72 (by decide) rfl ?_ ?_
    · refine rv_aload (q := 77) E.1.x dX11_setFlags_75 rfl rfl ?_
      refine rv_dup (q := 78) E.1.x dX11_setFlags_77 rfl rfl ?_
      refine rC_getX0 (q := 81) E.1 x4 10 wfX11_250 rfl (Nat.le_of_ble_eq_true rfl) (rC_at_of g3) rfl dX11_setFlags_78 rfl ?_
      refine rv_aload (q := 83) E.1.x dX11_setFlags_81 rfl rfl ?_
      refine rC_getX0 (q := 86) E.1 x4 9 wfX11_253 rfl (Nat.le_of_ble_eq_true rfl) (rC_at_of g3) rfl dX11_setFlags_83 rfl ?_
      refine rv_ior (q := 87) E.1.x dX11_setFlags_86 rfl ?_
      refine rC_putX0 (q := 90) E.1 x4 10 wfX11_250 rfl (Nat.le_of_ble_eq_true rfl) (rC_at_of g3) rfl ⟨rfl, rfl⟩ dX11_setFlags_87 rfl ?_
      refine rv_ltm (fun M4 => ?_)
      refine rv_wk [false, false, true, true, true, true] ?_
      exact bx11_setFlags_90 E M4 x2 x3 x4 ((rv_i s0) + s1)
    · refine rv_wk [false, false, true, true, true, true] ?_
      exact bx11_setFlags_90 E M x2 x3 x4 ((rv_i s0) + s1)
set_option maxRecDepth 100000 in
theorem bx11_setFlags_38 {p : Program} {l : Launch} {e : Env} {s : State} {m : MethodId} {args : Array Value} {below : List Frame} {meth : Method} {c : Code} {D : va_G} {cI cZ cO : ClassId} {ad : Nat → Nat} {gh : rC_gh} {de : Nat} (E : rC_X D cI cZ cO ad gh RX11 cX11_setFlags 6 (some .int) p l s m args meth c)   : ∀ (M : rv_Mem) (x2 : Bool) (x3 : Bool) (x4 : Nat) (s0 : Bool), rv_M (rC_G D cI cZ cO ad gh de) (rC_A ad gh s.heap.size) p l e rmx11_setFlags s m args below meth c 0 0 (qy11_setFlags D cI cZ cO ad gh de below args s) (f11_setFlags_38 gh M x2 x3 x4 s0) 38 [none, none, some (.int (rv_i x2)), some (.int (rv_i x3)), some (.ref (ad x4)), none] [.int (rv_i s0)] M := by
  intro M x2 x3 x4 s0
  unfold f11_setFlags_38
  refine rv_aload (q := 40) E.1.x dX11_setFlags_38 rfl rfl ?_
  refine rv_g (fun g1 => ?_)
  refine rC_getX0 (q := 43) E.1 x4 7 wfX11_247 rfl (Nat.le_of_ble_eq_true rfl) (rC_at_of g1) rfl dX11_setFlags_40 rfl ?_
  refine rv_ifz_eq (q := 46) (tgt := 50) E.1.x dX11_setFlags_43 (by decide) rfl ?_ ?_
  · refine rv_iconst (q := 47) E.1.x dX11_setFlags_46 rv_ki2 rfl ?_
    refine rv_goto (q := 51) E.1.x dX11_setFlags_47 (by decide) ?_
    refine rv_wk [false, false, true, true, true, false] ?_
    exact bx11_setFlags_51 E M x2 x3 x4 s0 2
  · refine rv_iconst (q := 51) E.1.x dX11_setFlags_50 rv_ki0 rfl ?_
    refine rv_wk [false, false, true, true, true, false] ?_
    exact bx11_setFlags_51 E M x2 x3 x4 s0 0
set_option maxRecDepth 100000 in
theorem bx11_setFlags {p : Program} {l : Launch} {e : Env} {s : State} {m : MethodId} {args : Array Value} {below : List Frame} {meth : Method} {c : Code} {D : va_G} {cI cZ cO : ClassId} {ad : Nat → Nat} {gh : rC_gh} {de : Nat} (E : rC_X D cI cZ cO ad gh RX11 cX11_setFlags 6 (some .int) p l s m args meth c) (M : rv_Mem) (a1 : Int32) (a2 : Bool) (a3 : Bool) : rv_M (rC_G D cI cZ cO ad gh de) (rC_A ad gh s.heap.size) p l e rmx11_setFlags s m args below meth c 0 0 (qy11_setFlags D cI cZ cO ad gh de below args s) (f11_setFlags gh M a1 a2 a3) 0 [some (.ref (ad 0)), some (.int a1), some (.int (rv_i a2)), some (.int (rv_i a3)), none, none] [] M := by
  unfold f11_setFlags
  refine rv_aload_n (q := 1) E.1.x dX11_setFlags_0 rfl rfl ?_
  refine rv_iload_n (q := 2) E.1.x dX11_setFlags_1 rfl rfl ?_
  refine rv_x2r (fun r2 e1 => ?_) (fun w3 e4 => rC_yVrX11 E ⟨rfl, rfl⟩ (fun _ => c11_needChange_x E.2.1 E.1.2.2.1 e4) rfl gX11_91 hX11_needChange ⟨rfl, rfl⟩ ⟨Nat.le_of_ble_eq_true rfl, Nat.le_of_ble_eq_true rfl⟩ ⟨Nat.le_of_ble_eq_true rfl, Nat.le_of_ble_eq_true rfl⟩ rfl rfl rfl (Nat.le_of_ble_eq_true rfl) dX11_setFlags_2 ⟨Nat.le_of_ble_eq_true rfl, Nat.le_of_ble_eq_true rfl⟩)
  refine rC_xVrX11 (q := 5) E ⟨rfl, rfl⟩ (fun _ => c11_needChange E.2.1 E.1.2.2.1 e1) gX11_91 hX11_needChange ⟨rfl, rfl⟩ ⟨Nat.le_of_ble_eq_true rfl, Nat.le_of_ble_eq_true rfl⟩ ⟨Nat.le_of_ble_eq_true rfl, Nat.le_of_ble_eq_true rfl⟩ rfl rfl rfl (Nat.le_of_ble_eq_true rfl) dX11_setFlags_2 rfl ?_
  refine rv_astore (q := 7) (lv' := [_, _, _, _, _, _]) E.1.x dX11_setFlags_5 (Nat.le_of_ble_eq_true rfl) rfl rfl rfl ?_
  refine rv_aload (q := 9) E.1.x dX11_setFlags_7 rfl rfl ?_
  refine rv_g (fun g5 => ?_)
  refine rC_getX0 (q := 12) E.1 r2 5 wfX11_227 rfl (Nat.le_of_ble_eq_true rfl) (rC_at_of g5) rfl dX11_setFlags_9 rfl ?_
  refine rv_if_eq (q := 15) (tgt := 25) E.1.x dX11_setFlags_12 (by decide) rfl ?_ ?_
  · exact rC_throw (x := 3) E rfl (by decide +kernel) rC_xk3 rC_xi3 rC_xg3 rC_xn3 rC_xo3 E.2.2.2.2.2.2.2.2.1 (is := 241) (text := "the change is not open") (by decide +kernel) rfl rfl dX11_setFlags_15 dX11_setFlags_18 dX11_setFlags_19 dX11_setFlags_21 dX11_setFlags_24 (Nat.le_of_ble_eq_true rfl) (Nat.le_of_ble_eq_true rfl) ⟨Nat.le_of_ble_eq_true rfl, Nat.le_of_ble_eq_true rfl⟩ ⟨Nat.le_of_ble_eq_true rfl, Nat.le_of_ble_eq_true rfl⟩
  · refine rv_aload (q := 27) E.1.x dX11_setFlags_25 rfl rfl ?_
    refine rC_getX0 (q := 30) E.1 r2 6 wfX11_243 rfl (Nat.le_of_ble_eq_true rfl) (rC_at_of g5) rfl dX11_setFlags_27 rfl ?_
    refine rv_ifz_eq (q := 33) (tgt := 37) E.1.x dX11_setFlags_30 (by decide) rfl ?_ ?_
    · refine rv_iconst (q := 34) E.1.x dX11_setFlags_33 rv_ki1 rfl ?_
      refine rv_goto (q := 38) E.1.x dX11_setFlags_34 (by decide) ?_
      refine rv_wk [false, false, true, true, true, false] ?_
      exact bx11_setFlags_38 E M a2 a3 r2 true
    · refine rv_iconst (q := 38) E.1.x dX11_setFlags_37 rv_ki0 rfl ?_
      refine rv_wk [false, false, true, true, true, false] ?_
      exact bx11_setFlags_38 E M a2 a3 r2 false
theorem c11_setFlags_x {l : Launch} {D : va_G} {cI cZ cO : ClassId} {ad : Nat → Nat} {gh : rC_gh} {de : Nat} (hfl : l.stackTraces = false) (hI : rC_I ad gh) {sz : Nat} {M : rv_Mem} {a1 : Int32} {a2 : Bool} {a3 : Bool} {x : Nat} {M1 : rv_Mem} (h : f11_setFlags gh M a1 a2 a3 = some (.inr (x, M1))) : vx_Met l yX11_setFlags (rv_ws yX11_setFlags cX11_setFlags 6 (some .int)) rmx11_setFlags (rC_Px D cI cZ cO ad gh de sz [.ref (ad 0), .int a1, .int (rv_i a2), .int (rv_i a3)] M) (rC_fi (rC_A ad gh sz)) (rC_xc D cI cZ cO ad gh de (rC_A ad gh sz) x M1) 1 6 (rC_A ad gh sz) := rC_xmet (Qc := fun A => rC_fi A) (XC := fun A => rC_xc D cI cZ cO ad gh de A x M1) hfl hI rfl (by decide) (Nat.le_of_ble_eq_true rfl) (fun p e s m args below meth c E => ⟨(qy11_setFlags D cI cZ cO ad gh de below args s), rfl, bx11_setFlags E M a1 a2 a3⟩) h
abbrev rm11_setTopic : Room := { frames := 7, cells := 0, slots := 0, locals := 122 }
def qx11_setTopic (D : va_G) (cI cZ cO : ClassId) (ad : Nat → Nat) (gh : rC_gh) (de : Nat) (below : List Frame) (args : Array Value) (s : State) : (Int32 × rv_Mem) ⊕ (Nat × rv_Mem) → State → Prop := fun r => match r with
  | .inl r => vx_MQ below (rC_qi D cI cZ cO ad gh de (rC_A ad gh s.heap.size) r.1 r.2) (rC_fx (rC_A ad gh s.heap.size)) args s 0 0 (rC_A ad gh s.heap.size)
  | .inr _ => fun _ => True
set_option maxRecDepth 100000 in
theorem b11_setTopic {p : Program} {l : Launch} {e : Env} {s : State} {m : MethodId} {args : Array Value} {below : List Frame} {meth : Method} {c : Code} {D : va_G} {cI cZ cO : ClassId} {ad : Nat → Nat} {gh : rC_gh} {de : Nat} (E : rC_X D cI cZ cO ad gh RX11 cX11_setTopic 5 (some .int) p l s m args meth c) (M : rv_Mem) (a1 : Int32) (a2 : Int32) : rv_M (rC_G D cI cZ cO ad gh de) (rC_A ad gh s.heap.size) p l e rm11_setTopic s m args below meth c 0 0 (qx11_setTopic D cI cZ cO ad gh de below args s) (f11_setTopic gh M a1 a2) 0 [some (.ref (ad 0)), some (.int a1), some (.int a2), none, none] [] M := by
  unfold f11_setTopic
  refine rv_aload_n (q := 1) E.1.x dX11_setTopic_0 rfl rfl ?_
  refine rv_iload_n (q := 2) E.1.x dX11_setTopic_1 rfl rfl ?_
  refine rv_x2r (fun r2 e1 => ?_) (fun w3 e4 => rv_tr (fun _ => trivial))
  refine rC_xVrX11 (q := 5) E ⟨rfl, rfl⟩ (fun _ => c11_needChange E.2.1 E.1.2.2.1 e1) gX11_91 hX11_needChange ⟨rfl, rfl⟩ ⟨Nat.le_of_ble_eq_true rfl, Nat.le_of_ble_eq_true rfl⟩ ⟨Nat.le_of_ble_eq_true rfl, Nat.le_of_ble_eq_true rfl⟩ rfl rfl rfl (Nat.le_of_ble_eq_true rfl) dX11_setTopic_2 rfl ?_
  refine rv_astore_n (q := 6) (lv' := [_, _, _, _, _]) E.1.x dX11_setTopic_5 (Nat.le_of_ble_eq_true rfl) rfl rfl rfl ?_
  refine rv_iload_n (q := 7) E.1.x dX11_setTopic_6 rfl rfl ?_
  refine rv_iconst (q := 8) E.1.x dX11_setTopic_7 rv_kim1 rfl ?_
  refine rv_icmp_lt (q := 11) (tgt := 16) E.1.x dX11_setTopic_8 (by decide) rfl ?_ ?_
  · refine rv_iload_n (q := 12) E.1.x dX11_setTopic_11 rfl rfl ?_
    refine rv_iconst (q := 13) E.1.x dX11_setTopic_12 rv_ki4 rfl ?_
    refine rv_icmp_lt (q := 16) (tgt := 27) E.1.x dX11_setTopic_13 (by decide) rfl ?_ ?_
    · exact rv_tr (fun _ => trivial)
    · refine rv_aload_n (q := 28) E.1.x dX11_setTopic_27 rfl rfl ?_
      refine rv_g (fun g5 => ?_)
      refine rC_getX0 (q := 31) E.1 r2 8 wfX11_258 rfl (Nat.le_of_ble_eq_true rfl) (rC_at_of g5) rfl dX11_setTopic_28 rfl ?_
      refine rv_istore (q := 33) (lv' := [_, _, _, _, _]) E.1.x dX11_setTopic_31 (Nat.le_of_ble_eq_true rfl) rfl rfl rfl ?_
      refine rv_aload_n (q := 34) E.1.x dX11_setTopic_33 rfl rfl ?_
      refine rv_iload_n (q := 35) E.1.x dX11_setTopic_34 rfl rfl ?_
      refine rC_putX0 (q := 38) E.1 r2 8 wfX11_258 rfl (Nat.le_of_ble_eq_true rfl) (rC_at_of g5) rfl ⟨rfl, rfl⟩ dX11_setTopic_35 rfl ?_
      refine rv_ltm (fun M6 => ?_)
      refine rv_iload (q := 40) E.1.x dX11_setTopic_38 rfl rfl ?_
      exact rC_xiret E rfl ⟨Nat.le_of_ble_eq_true rfl, Nat.le_of_ble_eq_true rfl⟩ dX11_setTopic_40
  · exact rv_tr (fun _ => trivial)
theorem c11_setTopic {l : Launch} {D : va_G} {cI cZ cO : ClassId} {ad : Nat → Nat} {gh : rC_gh} {de : Nat} (hfl : l.stackTraces = false) (hI : rC_I ad gh) {sz : Nat} {M : rv_Mem} {a1 : Int32} {a2 : Int32} {r : Int32} {M1 : rv_Mem} (h : f11_setTopic gh M a1 a2 = some (.inl (r, M1))) : vx_Met l yX11_setTopic (rv_ws yX11_setTopic cX11_setTopic 5 (some .int)) rm11_setTopic (rC_Px D cI cZ cO ad gh de sz [.ref (ad 0), .int a1, .int a2] M) (rC_qi D cI cZ cO ad gh de (rC_A ad gh sz) r M1) (rC_fx (rC_A ad gh sz)) 0 0 (rC_A ad gh sz) := rC_xmet (Qc := fun A => rC_qi D cI cZ cO ad gh de A r M1) (XC := fun A => rC_fx A) hfl hI rfl (by decide) (Nat.le_of_ble_eq_true rfl) (fun p e s m args below meth c E => ⟨(qx11_setTopic D cI cZ cO ad gh de below args s), rfl, b11_setTopic E M a1 a2⟩) h
abbrev rmx11_setTopic : Room := { frames := 7, cells := 1, slots := 6, locals := 122 }
def qy11_setTopic (D : va_G) (cI cZ cO : ClassId) (ad : Nat → Nat) (gh : rC_gh) (de : Nat) (below : List Frame) (args : Array Value) (s : State) : (Int32 × rv_Mem) ⊕ (Nat × rv_Mem) → State → Prop := fun r => match r with
  | .inl _ => fun _ => True
  | .inr r => vx_MQ below (rC_fi (rC_A ad gh s.heap.size)) (rC_xc D cI cZ cO ad gh de (rC_A ad gh s.heap.size) r.1 r.2) args s 1 6 (rC_A ad gh s.heap.size)
set_option maxRecDepth 100000 in
theorem bx11_setTopic {p : Program} {l : Launch} {e : Env} {s : State} {m : MethodId} {args : Array Value} {below : List Frame} {meth : Method} {c : Code} {D : va_G} {cI cZ cO : ClassId} {ad : Nat → Nat} {gh : rC_gh} {de : Nat} (E : rC_X D cI cZ cO ad gh RX11 cX11_setTopic 5 (some .int) p l s m args meth c) (M : rv_Mem) (a1 : Int32) (a2 : Int32) : rv_M (rC_G D cI cZ cO ad gh de) (rC_A ad gh s.heap.size) p l e rmx11_setTopic s m args below meth c 0 0 (qy11_setTopic D cI cZ cO ad gh de below args s) (f11_setTopic gh M a1 a2) 0 [some (.ref (ad 0)), some (.int a1), some (.int a2), none, none] [] M := by
  unfold f11_setTopic
  refine rv_aload_n (q := 1) E.1.x dX11_setTopic_0 rfl rfl ?_
  refine rv_iload_n (q := 2) E.1.x dX11_setTopic_1 rfl rfl ?_
  refine rv_x2r (fun r2 e1 => ?_) (fun w3 e4 => rC_yVrX11 E ⟨rfl, rfl⟩ (fun _ => c11_needChange_x E.2.1 E.1.2.2.1 e4) rfl gX11_91 hX11_needChange ⟨rfl, rfl⟩ ⟨Nat.le_of_ble_eq_true rfl, Nat.le_of_ble_eq_true rfl⟩ ⟨Nat.le_of_ble_eq_true rfl, Nat.le_of_ble_eq_true rfl⟩ rfl rfl rfl (Nat.le_of_ble_eq_true rfl) dX11_setTopic_2 ⟨Nat.le_of_ble_eq_true rfl, Nat.le_of_ble_eq_true rfl⟩)
  refine rC_xVrX11 (q := 5) E ⟨rfl, rfl⟩ (fun _ => c11_needChange E.2.1 E.1.2.2.1 e1) gX11_91 hX11_needChange ⟨rfl, rfl⟩ ⟨Nat.le_of_ble_eq_true rfl, Nat.le_of_ble_eq_true rfl⟩ ⟨Nat.le_of_ble_eq_true rfl, Nat.le_of_ble_eq_true rfl⟩ rfl rfl rfl (Nat.le_of_ble_eq_true rfl) dX11_setTopic_2 rfl ?_
  refine rv_astore_n (q := 6) (lv' := [_, _, _, _, _]) E.1.x dX11_setTopic_5 (Nat.le_of_ble_eq_true rfl) rfl rfl rfl ?_
  refine rv_iload_n (q := 7) E.1.x dX11_setTopic_6 rfl rfl ?_
  refine rv_iconst (q := 8) E.1.x dX11_setTopic_7 rv_kim1 rfl ?_
  refine rv_icmp_lt (q := 11) (tgt := 16) E.1.x dX11_setTopic_8 (by decide) rfl ?_ ?_
  · refine rv_iload_n (q := 12) E.1.x dX11_setTopic_11 rfl rfl ?_
    refine rv_iconst (q := 13) E.1.x dX11_setTopic_12 rv_ki4 rfl ?_
    refine rv_icmp_lt (q := 16) (tgt := 27) E.1.x dX11_setTopic_13 (by decide) rfl ?_ ?_
    · exact rC_throwW (x := 2) E rfl (by decide +kernel) rC_xk2 rC_xi2 rC_xg2 rC_xn2 rC_xo2 E.2.2.2.2.2.2.2.1 (is := 256) (text := "no such topic") (by decide +kernel) rfl rfl dX11_setTopic_16 dX11_setTopic_19 dX11_setTopic_20 dX11_setTopic_23 dX11_setTopic_26 (Nat.le_of_ble_eq_true rfl) (Nat.le_of_ble_eq_true rfl) ⟨Nat.le_of_ble_eq_true rfl, Nat.le_of_ble_eq_true rfl⟩ ⟨Nat.le_of_ble_eq_true rfl, Nat.le_of_ble_eq_true rfl⟩
    · refine rv_aload_n (q := 28) E.1.x dX11_setTopic_27 rfl rfl ?_
      refine rv_g (fun g5 => ?_)
      refine rC_getX0 (q := 31) E.1 r2 8 wfX11_258 rfl (Nat.le_of_ble_eq_true rfl) (rC_at_of g5) rfl dX11_setTopic_28 rfl ?_
      refine rv_istore (q := 33) (lv' := [_, _, _, _, _]) E.1.x dX11_setTopic_31 (Nat.le_of_ble_eq_true rfl) rfl rfl rfl ?_
      refine rv_aload_n (q := 34) E.1.x dX11_setTopic_33 rfl rfl ?_
      refine rv_iload_n (q := 35) E.1.x dX11_setTopic_34 rfl rfl ?_
      refine rC_putX0 (q := 38) E.1 r2 8 wfX11_258 rfl (Nat.le_of_ble_eq_true rfl) (rC_at_of g5) rfl ⟨rfl, rfl⟩ dX11_setTopic_35 rfl ?_
      refine rv_ltm (fun M6 => ?_)
      refine rv_iload (q := 40) E.1.x dX11_setTopic_38 rfl rfl ?_
      exact rv_tr (fun _ => trivial)
  · exact rC_throwW (x := 2) E rfl (by decide +kernel) rC_xk2 rC_xi2 rC_xg2 rC_xn2 rC_xo2 E.2.2.2.2.2.2.2.1 (is := 256) (text := "no such topic") (by decide +kernel) rfl rfl dX11_setTopic_16 dX11_setTopic_19 dX11_setTopic_20 dX11_setTopic_23 dX11_setTopic_26 (Nat.le_of_ble_eq_true rfl) (Nat.le_of_ble_eq_true rfl) ⟨Nat.le_of_ble_eq_true rfl, Nat.le_of_ble_eq_true rfl⟩ ⟨Nat.le_of_ble_eq_true rfl, Nat.le_of_ble_eq_true rfl⟩
theorem c11_setTopic_x {l : Launch} {D : va_G} {cI cZ cO : ClassId} {ad : Nat → Nat} {gh : rC_gh} {de : Nat} (hfl : l.stackTraces = false) (hI : rC_I ad gh) {sz : Nat} {M : rv_Mem} {a1 : Int32} {a2 : Int32} {x : Nat} {M1 : rv_Mem} (h : f11_setTopic gh M a1 a2 = some (.inr (x, M1))) : vx_Met l yX11_setTopic (rv_ws yX11_setTopic cX11_setTopic 5 (some .int)) rmx11_setTopic (rC_Px D cI cZ cO ad gh de sz [.ref (ad 0), .int a1, .int a2] M) (rC_fi (rC_A ad gh sz)) (rC_xc D cI cZ cO ad gh de (rC_A ad gh sz) x M1) 1 6 (rC_A ad gh sz) := rC_xmet (Qc := fun A => rC_fi A) (XC := fun A => rC_xc D cI cZ cO ad gh de A x M1) hfl hI rfl (by decide) (Nat.le_of_ble_eq_true rfl) (fun p e s m args below meth c E => ⟨(qy11_setTopic D cI cZ cO ad gh de below args s), rfl, bx11_setTopic E M a1 a2⟩) h
abbrev rm11_changes : Room := { frames := 1, cells := 0, slots := 0, locals := 20 }
set_option maxRecDepth 100000 in
theorem b11_changes {p : Program} {l : Launch} {e : Env} {s : State} {m : MethodId} {args : Array Value} {below : List Frame} {meth : Method} {c : Code} {D : va_G} {cI cZ cO : ClassId} {ad : Nat → Nat} {gh : rC_gh} {de : Nat} (E : rC_E D cI cZ cO ad gh (rC_K ad gh) RX11 cX11_changes 1 (some .int) p s m args meth c) (M : rv_Mem)  : rv_M (rC_G D cI cZ cO ad gh de) (rC_K ad gh) p l e rm11_changes s m args below meth c 0 0 (rC_qI D cI cZ cO ad gh de below args s M) (f11_changes gh M) 0 [some (.ref (ad 0))] [] M := by
  unfold f11_changes
  refine rv_aload_n (q := 1) E.x dX11_changes_0 rfl rfl ?_
  refine rC_getX11 (q := 4) E 0 5 wfX11_49 rfl (Nat.le_of_ble_eq_true rfl) ⟨rfl, rfl⟩ rfl dX11_changes_1 rfl ?_
  refine rC_lsz (q := 7) E 0 (by decide) (cJ_size E.2.2.1 0) gX11_155 ⟨Nat.le_of_ble_eq_true rfl, Nat.le_of_ble_eq_true rfl⟩ ⟨Nat.le_of_ble_eq_true rfl, Nat.le_of_ble_eq_true rfl⟩ rfl (Nat.le_of_ble_eq_true rfl) dX11_changes_4 rfl ?_
  exact rC_iret E rfl dX11_changes_7
theorem c11_changes {l : Launch} {D : va_G} {cI cZ cO : ClassId} {ad : Nat → Nat} {gh : rC_gh} {de : Nat} (hI : rC_I ad gh) {M : rv_Mem} {r : Int32} (h : f11_changes gh M = some r) : Met l yX11_changes (rv_ws yX11_changes cX11_changes 1 (some .int)) rm11_changes (rC_Pc D cI cZ cO ad gh de [.ref (ad 0)] M) (rC_QI D cI cZ cO ad gh de r M) 0 0 (rC_K ad gh) := rC_met hI rfl (by decide) (Nat.le_of_ble_eq_true rfl) (fun p e s m args below meth c E => ⟨(rC_qI D cI cZ cO ad gh de below args s M), rfl, b11_changes E M ⟩) h
abbrev rm11_stateOf : Room := { frames := 7, cells := 0, slots := 0, locals := 122 }
def qx11_stateOf (D : va_G) (cI cZ cO : ClassId) (ad : Nat → Nat) (gh : rC_gh) (de : Nat) (below : List Frame) (args : Array Value) (s : State) (M : rv_Mem) : Int32 ⊕ Nat → State → Prop := fun r => match r with
  | .inl r => vx_MQ below (rC_qi D cI cZ cO ad gh de (rC_A ad gh s.heap.size) r M) (rC_fx (rC_A ad gh s.heap.size)) args s 0 0 (rC_A ad gh s.heap.size)
  | .inr _ => fun _ => True
set_option maxRecDepth 100000 in
theorem b11_stateOf {p : Program} {l : Launch} {e : Env} {s : State} {m : MethodId} {args : Array Value} {below : List Frame} {meth : Method} {c : Code} {D : va_G} {cI cZ cO : ClassId} {ad : Nat → Nat} {gh : rC_gh} {de : Nat} (E : rC_X D cI cZ cO ad gh RX11 cX11_stateOf 2 (some .int) p l s m args meth c) (M : rv_Mem) (a1 : Int32) : rv_M (rC_G D cI cZ cO ad gh de) (rC_A ad gh s.heap.size) p l e rm11_stateOf s m args below meth c 0 0 (qx11_stateOf D cI cZ cO ad gh de below args s M) (f11_stateOf gh M a1) 0 [some (.ref (ad 0)), some (.int a1)] [] M := by
  unfold f11_stateOf
  refine rv_aload_n (q := 1) E.1.x dX11_stateOf_0 rfl rfl ?_
  refine rv_iload_n (q := 2) E.1.x dX11_stateOf_1 rfl rfl ?_
  refine rv_x1r (fun r2 e1 => ?_) (fun w3 e4 => rv_tr (fun _ => trivial))
  refine rC_xVrX11 (q := 5) E ⟨rfl, rfl⟩ (fun _ => c11_needChange E.2.1 E.1.2.2.1 e1) gX11_91 hX11_needChange ⟨rfl, rfl⟩ ⟨Nat.le_of_ble_eq_true rfl, Nat.le_of_ble_eq_true rfl⟩ ⟨Nat.le_of_ble_eq_true rfl, Nat.le_of_ble_eq_true rfl⟩ rfl rfl rfl (Nat.le_of_ble_eq_true rfl) dX11_stateOf_2 rfl ?_
  refine rv_g (fun g5 => ?_)
  refine rC_getX0 (q := 8) E.1 r2 5 wfX11_227 rfl (Nat.le_of_ble_eq_true rfl) (rC_at_of g5) rfl dX11_stateOf_5 rfl ?_
  exact rC_xiret E rfl ⟨Nat.le_of_ble_eq_true rfl, Nat.le_of_ble_eq_true rfl⟩ dX11_stateOf_8
theorem c11_stateOf {l : Launch} {D : va_G} {cI cZ cO : ClassId} {ad : Nat → Nat} {gh : rC_gh} {de : Nat} (hfl : l.stackTraces = false) (hI : rC_I ad gh) {sz : Nat} {M : rv_Mem} {a1 : Int32} {r : Int32} (h : f11_stateOf gh M a1 = some (.inl r)) : vx_Met l yX11_stateOf (rv_ws yX11_stateOf cX11_stateOf 2 (some .int)) rm11_stateOf (rC_Px D cI cZ cO ad gh de sz [.ref (ad 0), .int a1] M) (rC_qi D cI cZ cO ad gh de (rC_A ad gh sz) r M) (rC_fx (rC_A ad gh sz)) 0 0 (rC_A ad gh sz) := rC_xmet (Qc := fun A => rC_qi D cI cZ cO ad gh de A r M) (XC := fun A => rC_fx A) hfl hI rfl (by decide) (Nat.le_of_ble_eq_true rfl) (fun p e s m args below meth c E => ⟨(qx11_stateOf D cI cZ cO ad gh de below args s M), rfl, b11_stateOf E M a1⟩) h
abbrev rmx11_stateOf : Room := { frames := 7, cells := 1, slots := 6, locals := 122 }
def qy11_stateOf (D : va_G) (cI cZ cO : ClassId) (ad : Nat → Nat) (gh : rC_gh) (de : Nat) (below : List Frame) (args : Array Value) (s : State) (M : rv_Mem) : Int32 ⊕ Nat → State → Prop := fun r => match r with
  | .inl _ => fun _ => True
  | .inr r => vx_MQ below (rC_fi (rC_A ad gh s.heap.size)) (rC_xc D cI cZ cO ad gh de (rC_A ad gh s.heap.size) r M) args s 1 6 (rC_A ad gh s.heap.size)
set_option maxRecDepth 100000 in
theorem bx11_stateOf {p : Program} {l : Launch} {e : Env} {s : State} {m : MethodId} {args : Array Value} {below : List Frame} {meth : Method} {c : Code} {D : va_G} {cI cZ cO : ClassId} {ad : Nat → Nat} {gh : rC_gh} {de : Nat} (E : rC_X D cI cZ cO ad gh RX11 cX11_stateOf 2 (some .int) p l s m args meth c) (M : rv_Mem) (a1 : Int32) : rv_M (rC_G D cI cZ cO ad gh de) (rC_A ad gh s.heap.size) p l e rmx11_stateOf s m args below meth c 0 0 (qy11_stateOf D cI cZ cO ad gh de below args s M) (f11_stateOf gh M a1) 0 [some (.ref (ad 0)), some (.int a1)] [] M := by
  unfold f11_stateOf
  refine rv_aload_n (q := 1) E.1.x dX11_stateOf_0 rfl rfl ?_
  refine rv_iload_n (q := 2) E.1.x dX11_stateOf_1 rfl rfl ?_
  refine rv_x1r (fun r2 e1 => ?_) (fun w3 e4 => rC_yVrX11 E ⟨rfl, rfl⟩ (fun _ => c11_needChange_x E.2.1 E.1.2.2.1 e4) rfl gX11_91 hX11_needChange ⟨rfl, rfl⟩ ⟨Nat.le_of_ble_eq_true rfl, Nat.le_of_ble_eq_true rfl⟩ ⟨Nat.le_of_ble_eq_true rfl, Nat.le_of_ble_eq_true rfl⟩ rfl rfl rfl (Nat.le_of_ble_eq_true rfl) dX11_stateOf_2 ⟨Nat.le_of_ble_eq_true rfl, Nat.le_of_ble_eq_true rfl⟩)
  refine rC_xVrX11 (q := 5) E ⟨rfl, rfl⟩ (fun _ => c11_needChange E.2.1 E.1.2.2.1 e1) gX11_91 hX11_needChange ⟨rfl, rfl⟩ ⟨Nat.le_of_ble_eq_true rfl, Nat.le_of_ble_eq_true rfl⟩ ⟨Nat.le_of_ble_eq_true rfl, Nat.le_of_ble_eq_true rfl⟩ rfl rfl rfl (Nat.le_of_ble_eq_true rfl) dX11_stateOf_2 rfl ?_
  refine rv_g (fun g5 => ?_)
  refine rC_getX0 (q := 8) E.1 r2 5 wfX11_227 rfl (Nat.le_of_ble_eq_true rfl) (rC_at_of g5) rfl dX11_stateOf_5 rfl ?_
  exact rv_tr (fun _ => trivial)
theorem c11_stateOf_x {l : Launch} {D : va_G} {cI cZ cO : ClassId} {ad : Nat → Nat} {gh : rC_gh} {de : Nat} (hfl : l.stackTraces = false) (hI : rC_I ad gh) {sz : Nat} {M : rv_Mem} {a1 : Int32} {x : Nat} (h : f11_stateOf gh M a1 = some (.inr x)) : vx_Met l yX11_stateOf (rv_ws yX11_stateOf cX11_stateOf 2 (some .int)) rmx11_stateOf (rC_Px D cI cZ cO ad gh de sz [.ref (ad 0), .int a1] M) (rC_fi (rC_A ad gh sz)) (rC_xc D cI cZ cO ad gh de (rC_A ad gh sz) x M) 1 6 (rC_A ad gh sz) := rC_xmet (Qc := fun A => rC_fi A) (XC := fun A => rC_xc D cI cZ cO ad gh de A x M) hfl hI rfl (by decide) (Nat.le_of_ble_eq_true rfl) (fun p e s m args below meth c E => ⟨(qy11_stateOf D cI cZ cO ad gh de below args s M), rfl, bx11_stateOf E M a1⟩) h
abbrev rm11_sets : Room := { frames := 7, cells := 0, slots := 0, locals := 122 }
def qx11_sets (D : va_G) (cI cZ cO : ClassId) (ad : Nat → Nat) (gh : rC_gh) (de : Nat) (below : List Frame) (args : Array Value) (s : State) (M : rv_Mem) : Int32 ⊕ Nat → State → Prop := fun r => match r with
  | .inl r => vx_MQ below (rC_qi D cI cZ cO ad gh de (rC_A ad gh s.heap.size) r M) (rC_fx (rC_A ad gh s.heap.size)) args s 0 0 (rC_A ad gh s.heap.size)
  | .inr _ => fun _ => True
set_option maxRecDepth 100000 in
theorem b11_sets {p : Program} {l : Launch} {e : Env} {s : State} {m : MethodId} {args : Array Value} {below : List Frame} {meth : Method} {c : Code} {D : va_G} {cI cZ cO : ClassId} {ad : Nat → Nat} {gh : rC_gh} {de : Nat} (E : rC_X D cI cZ cO ad gh RX11 cX11_sets 2 (some .int) p l s m args meth c) (M : rv_Mem) (a1 : Int32) : rv_M (rC_G D cI cZ cO ad gh de) (rC_A ad gh s.heap.size) p l e rm11_sets s m args below meth c 0 0 (qx11_sets D cI cZ cO ad gh de below args s M) (f11_sets gh M a1) 0 [some (.ref (ad 0)), some (.int a1)] [] M := by
  unfold f11_sets
  refine rv_aload_n (q := 1) E.1.x dX11_sets_0 rfl rfl ?_
  refine rv_iload_n (q := 2) E.1.x dX11_sets_1 rfl rfl ?_
  refine rv_x1r (fun r2 e1 => ?_) (fun w3 e4 => rv_tr (fun _ => trivial))
  refine rC_xVrX11 (q := 5) E ⟨rfl, rfl⟩ (fun _ => c11_needChange E.2.1 E.1.2.2.1 e1) gX11_91 hX11_needChange ⟨rfl, rfl⟩ ⟨Nat.le_of_ble_eq_true rfl, Nat.le_of_ble_eq_true rfl⟩ ⟨Nat.le_of_ble_eq_true rfl, Nat.le_of_ble_eq_true rfl⟩ rfl rfl rfl (Nat.le_of_ble_eq_true rfl) dX11_sets_2 rfl ?_
  refine rv_g (fun g5 => ?_)
  refine rC_getX0 (q := 8) E.1 r2 4 wfX11_238 rfl (Nat.le_of_ble_eq_true rfl) (rC_at_of g5) rfl dX11_sets_5 rfl ?_
  exact rC_xiret E rfl ⟨Nat.le_of_ble_eq_true rfl, Nat.le_of_ble_eq_true rfl⟩ dX11_sets_8
theorem c11_sets {l : Launch} {D : va_G} {cI cZ cO : ClassId} {ad : Nat → Nat} {gh : rC_gh} {de : Nat} (hfl : l.stackTraces = false) (hI : rC_I ad gh) {sz : Nat} {M : rv_Mem} {a1 : Int32} {r : Int32} (h : f11_sets gh M a1 = some (.inl r)) : vx_Met l yX11_sets (rv_ws yX11_sets cX11_sets 2 (some .int)) rm11_sets (rC_Px D cI cZ cO ad gh de sz [.ref (ad 0), .int a1] M) (rC_qi D cI cZ cO ad gh de (rC_A ad gh sz) r M) (rC_fx (rC_A ad gh sz)) 0 0 (rC_A ad gh sz) := rC_xmet (Qc := fun A => rC_qi D cI cZ cO ad gh de A r M) (XC := fun A => rC_fx A) hfl hI rfl (by decide) (Nat.le_of_ble_eq_true rfl) (fun p e s m args below meth c E => ⟨(qx11_sets D cI cZ cO ad gh de below args s M), rfl, b11_sets E M a1⟩) h
abbrev rmx11_sets : Room := { frames := 7, cells := 1, slots := 6, locals := 122 }
def qy11_sets (D : va_G) (cI cZ cO : ClassId) (ad : Nat → Nat) (gh : rC_gh) (de : Nat) (below : List Frame) (args : Array Value) (s : State) (M : rv_Mem) : Int32 ⊕ Nat → State → Prop := fun r => match r with
  | .inl _ => fun _ => True
  | .inr r => vx_MQ below (rC_fi (rC_A ad gh s.heap.size)) (rC_xc D cI cZ cO ad gh de (rC_A ad gh s.heap.size) r M) args s 1 6 (rC_A ad gh s.heap.size)
set_option maxRecDepth 100000 in
theorem bx11_sets {p : Program} {l : Launch} {e : Env} {s : State} {m : MethodId} {args : Array Value} {below : List Frame} {meth : Method} {c : Code} {D : va_G} {cI cZ cO : ClassId} {ad : Nat → Nat} {gh : rC_gh} {de : Nat} (E : rC_X D cI cZ cO ad gh RX11 cX11_sets 2 (some .int) p l s m args meth c) (M : rv_Mem) (a1 : Int32) : rv_M (rC_G D cI cZ cO ad gh de) (rC_A ad gh s.heap.size) p l e rmx11_sets s m args below meth c 0 0 (qy11_sets D cI cZ cO ad gh de below args s M) (f11_sets gh M a1) 0 [some (.ref (ad 0)), some (.int a1)] [] M := by
  unfold f11_sets
  refine rv_aload_n (q := 1) E.1.x dX11_sets_0 rfl rfl ?_
  refine rv_iload_n (q := 2) E.1.x dX11_sets_1 rfl rfl ?_
  refine rv_x1r (fun r2 e1 => ?_) (fun w3 e4 => rC_yVrX11 E ⟨rfl, rfl⟩ (fun _ => c11_needChange_x E.2.1 E.1.2.2.1 e4) rfl gX11_91 hX11_needChange ⟨rfl, rfl⟩ ⟨Nat.le_of_ble_eq_true rfl, Nat.le_of_ble_eq_true rfl⟩ ⟨Nat.le_of_ble_eq_true rfl, Nat.le_of_ble_eq_true rfl⟩ rfl rfl rfl (Nat.le_of_ble_eq_true rfl) dX11_sets_2 ⟨Nat.le_of_ble_eq_true rfl, Nat.le_of_ble_eq_true rfl⟩)
  refine rC_xVrX11 (q := 5) E ⟨rfl, rfl⟩ (fun _ => c11_needChange E.2.1 E.1.2.2.1 e1) gX11_91 hX11_needChange ⟨rfl, rfl⟩ ⟨Nat.le_of_ble_eq_true rfl, Nat.le_of_ble_eq_true rfl⟩ ⟨Nat.le_of_ble_eq_true rfl, Nat.le_of_ble_eq_true rfl⟩ rfl rfl rfl (Nat.le_of_ble_eq_true rfl) dX11_sets_2 rfl ?_
  refine rv_g (fun g5 => ?_)
  refine rC_getX0 (q := 8) E.1 r2 4 wfX11_238 rfl (Nat.le_of_ble_eq_true rfl) (rC_at_of g5) rfl dX11_sets_5 rfl ?_
  exact rv_tr (fun _ => trivial)
theorem c11_sets_x {l : Launch} {D : va_G} {cI cZ cO : ClassId} {ad : Nat → Nat} {gh : rC_gh} {de : Nat} (hfl : l.stackTraces = false) (hI : rC_I ad gh) {sz : Nat} {M : rv_Mem} {a1 : Int32} {x : Nat} (h : f11_sets gh M a1 = some (.inr x)) : vx_Met l yX11_sets (rv_ws yX11_sets cX11_sets 2 (some .int)) rmx11_sets (rC_Px D cI cZ cO ad gh de sz [.ref (ad 0), .int a1] M) (rC_fi (rC_A ad gh sz)) (rC_xc D cI cZ cO ad gh de (rC_A ad gh sz) x M) 1 6 (rC_A ad gh sz) := rC_xmet (Qc := fun A => rC_fi A) (XC := fun A => rC_xc D cI cZ cO ad gh de A x M) hfl hI rfl (by decide) (Nat.le_of_ble_eq_true rfl) (fun p e s m args below meth c E => ⟨(qy11_sets D cI cZ cO ad gh de below args s M), rfl, bx11_sets E M a1⟩) h
abbrev rm11_commitOf : Room := { frames := 7, cells := 0, slots := 0, locals := 122 }
def qx11_commitOf (D : va_G) (cI cZ cO : ClassId) (ad : Nat → Nat) (gh : rC_gh) (de : Nat) (below : List Frame) (args : Array Value) (s : State) (M : rv_Mem) : Int32 ⊕ Nat → State → Prop := fun r => match r with
  | .inl r => vx_MQ below (rC_qi D cI cZ cO ad gh de (rC_A ad gh s.heap.size) r M) (rC_fx (rC_A ad gh s.heap.size)) args s 0 0 (rC_A ad gh s.heap.size)
  | .inr _ => fun _ => True
set_option maxRecDepth 100000 in
theorem b11_commitOf {p : Program} {l : Launch} {e : Env} {s : State} {m : MethodId} {args : Array Value} {below : List Frame} {meth : Method} {c : Code} {D : va_G} {cI cZ cO : ClassId} {ad : Nat → Nat} {gh : rC_gh} {de : Nat} (E : rC_X D cI cZ cO ad gh RX11 cX11_commitOf 3 (some .int) p l s m args meth c) (M : rv_Mem) (a1 : Int32) (a2 : Int32) : rv_M (rC_G D cI cZ cO ad gh de) (rC_A ad gh s.heap.size) p l e rm11_commitOf s m args below meth c 0 0 (qx11_commitOf D cI cZ cO ad gh de below args s M) (f11_commitOf gh M a1 a2) 0 [some (.ref (ad 0)), some (.int a1), some (.int a2)] [] M := by
  unfold f11_commitOf
  refine rv_aload_n (q := 1) E.1.x dX11_commitOf_0 rfl rfl ?_
  refine rv_iload_n (q := 2) E.1.x dX11_commitOf_1 rfl rfl ?_
  refine rv_x1r (fun r2 e1 => ?_) (fun w3 e4 => rv_tr (fun _ => trivial))
  refine rC_xVrX11 (q := 5) E ⟨rfl, rfl⟩ (fun _ => c11_needChange E.2.1 E.1.2.2.1 e1) gX11_91 hX11_needChange ⟨rfl, rfl⟩ ⟨Nat.le_of_ble_eq_true rfl, Nat.le_of_ble_eq_true rfl⟩ ⟨Nat.le_of_ble_eq_true rfl, Nat.le_of_ble_eq_true rfl⟩ rfl rfl rfl (Nat.le_of_ble_eq_true rfl) dX11_commitOf_2 rfl ?_
  refine rv_iload_n (q := 6) E.1.x dX11_commitOf_5 rfl rfl ?_
  refine rv_x1r (fun r6 e5 => ?_) (fun w7 e8 => rv_tr (fun _ => trivial))
  refine rC_xSi (q := 9) E (fun _ => c11_needSet E.2.1 E.1.2.2.1 e5) gX11_95 hX11_needSet ⟨rfl, rfl⟩ ⟨Nat.le_of_ble_eq_true rfl, Nat.le_of_ble_eq_true rfl⟩ ⟨Nat.le_of_ble_eq_true rfl, Nat.le_of_ble_eq_true rfl⟩ rfl rfl rfl (Nat.le_of_ble_eq_true rfl) dX11_commitOf_6 rfl ?_
  exact rC_xiret E rfl ⟨Nat.le_of_ble_eq_true rfl, Nat.le_of_ble_eq_true rfl⟩ dX11_commitOf_9
theorem c11_commitOf {l : Launch} {D : va_G} {cI cZ cO : ClassId} {ad : Nat → Nat} {gh : rC_gh} {de : Nat} (hfl : l.stackTraces = false) (hI : rC_I ad gh) {sz : Nat} {M : rv_Mem} {a1 : Int32} {a2 : Int32} {r : Int32} (h : f11_commitOf gh M a1 a2 = some (.inl r)) : vx_Met l yX11_commitOf (rv_ws yX11_commitOf cX11_commitOf 3 (some .int)) rm11_commitOf (rC_Px D cI cZ cO ad gh de sz [.ref (ad 0), .int a1, .int a2] M) (rC_qi D cI cZ cO ad gh de (rC_A ad gh sz) r M) (rC_fx (rC_A ad gh sz)) 0 0 (rC_A ad gh sz) := rC_xmet (Qc := fun A => rC_qi D cI cZ cO ad gh de A r M) (XC := fun A => rC_fx A) hfl hI rfl (by decide) (Nat.le_of_ble_eq_true rfl) (fun p e s m args below meth c E => ⟨(qx11_commitOf D cI cZ cO ad gh de below args s M), rfl, b11_commitOf E M a1 a2⟩) h
abbrev rmx11_commitOf : Room := { frames := 7, cells := 1, slots := 6, locals := 122 }
def qy11_commitOf (D : va_G) (cI cZ cO : ClassId) (ad : Nat → Nat) (gh : rC_gh) (de : Nat) (below : List Frame) (args : Array Value) (s : State) (M : rv_Mem) : Int32 ⊕ Nat → State → Prop := fun r => match r with
  | .inl _ => fun _ => True
  | .inr r => vx_MQ below (rC_fi (rC_A ad gh s.heap.size)) (rC_xc D cI cZ cO ad gh de (rC_A ad gh s.heap.size) r M) args s 1 6 (rC_A ad gh s.heap.size)
set_option maxRecDepth 100000 in
theorem bx11_commitOf {p : Program} {l : Launch} {e : Env} {s : State} {m : MethodId} {args : Array Value} {below : List Frame} {meth : Method} {c : Code} {D : va_G} {cI cZ cO : ClassId} {ad : Nat → Nat} {gh : rC_gh} {de : Nat} (E : rC_X D cI cZ cO ad gh RX11 cX11_commitOf 3 (some .int) p l s m args meth c) (M : rv_Mem) (a1 : Int32) (a2 : Int32) : rv_M (rC_G D cI cZ cO ad gh de) (rC_A ad gh s.heap.size) p l e rmx11_commitOf s m args below meth c 0 0 (qy11_commitOf D cI cZ cO ad gh de below args s M) (f11_commitOf gh M a1 a2) 0 [some (.ref (ad 0)), some (.int a1), some (.int a2)] [] M := by
  unfold f11_commitOf
  refine rv_aload_n (q := 1) E.1.x dX11_commitOf_0 rfl rfl ?_
  refine rv_iload_n (q := 2) E.1.x dX11_commitOf_1 rfl rfl ?_
  refine rv_x1r (fun r2 e1 => ?_) (fun w3 e4 => rC_yVrX11 E ⟨rfl, rfl⟩ (fun _ => c11_needChange_x E.2.1 E.1.2.2.1 e4) rfl gX11_91 hX11_needChange ⟨rfl, rfl⟩ ⟨Nat.le_of_ble_eq_true rfl, Nat.le_of_ble_eq_true rfl⟩ ⟨Nat.le_of_ble_eq_true rfl, Nat.le_of_ble_eq_true rfl⟩ rfl rfl rfl (Nat.le_of_ble_eq_true rfl) dX11_commitOf_2 ⟨Nat.le_of_ble_eq_true rfl, Nat.le_of_ble_eq_true rfl⟩)
  refine rC_xVrX11 (q := 5) E ⟨rfl, rfl⟩ (fun _ => c11_needChange E.2.1 E.1.2.2.1 e1) gX11_91 hX11_needChange ⟨rfl, rfl⟩ ⟨Nat.le_of_ble_eq_true rfl, Nat.le_of_ble_eq_true rfl⟩ ⟨Nat.le_of_ble_eq_true rfl, Nat.le_of_ble_eq_true rfl⟩ rfl rfl rfl (Nat.le_of_ble_eq_true rfl) dX11_commitOf_2 rfl ?_
  refine rv_iload_n (q := 6) E.1.x dX11_commitOf_5 rfl rfl ?_
  refine rv_x1r (fun r6 e5 => ?_) (fun w7 e8 => rC_ySi E (fun _ => c11_needSet_x E.2.1 E.1.2.2.1 e8) rfl gX11_95 hX11_needSet ⟨rfl, rfl⟩ ⟨Nat.le_of_ble_eq_true rfl, Nat.le_of_ble_eq_true rfl⟩ ⟨Nat.le_of_ble_eq_true rfl, Nat.le_of_ble_eq_true rfl⟩ rfl rfl rfl (Nat.le_of_ble_eq_true rfl) dX11_commitOf_6 ⟨Nat.le_of_ble_eq_true rfl, Nat.le_of_ble_eq_true rfl⟩)
  refine rC_xSi (q := 9) E (fun _ => c11_needSet E.2.1 E.1.2.2.1 e5) gX11_95 hX11_needSet ⟨rfl, rfl⟩ ⟨Nat.le_of_ble_eq_true rfl, Nat.le_of_ble_eq_true rfl⟩ ⟨Nat.le_of_ble_eq_true rfl, Nat.le_of_ble_eq_true rfl⟩ rfl rfl rfl (Nat.le_of_ble_eq_true rfl) dX11_commitOf_6 rfl ?_
  exact rv_tr (fun _ => trivial)
theorem c11_commitOf_x {l : Launch} {D : va_G} {cI cZ cO : ClassId} {ad : Nat → Nat} {gh : rC_gh} {de : Nat} (hfl : l.stackTraces = false) (hI : rC_I ad gh) {sz : Nat} {M : rv_Mem} {a1 : Int32} {a2 : Int32} {x : Nat} (h : f11_commitOf gh M a1 a2 = some (.inr x)) : vx_Met l yX11_commitOf (rv_ws yX11_commitOf cX11_commitOf 3 (some .int)) rmx11_commitOf (rC_Px D cI cZ cO ad gh de sz [.ref (ad 0), .int a1, .int a2] M) (rC_fi (rC_A ad gh sz)) (rC_xc D cI cZ cO ad gh de (rC_A ad gh sz) x M) 1 6 (rC_A ad gh sz) := rC_xmet (Qc := fun A => rC_fi A) (XC := fun A => rC_xc D cI cZ cO ad gh de A x M) hfl hI rfl (by decide) (Nat.le_of_ble_eq_true rfl) (fun p e s m args below meth c E => ⟨(qy11_commitOf D cI cZ cO ad gh de below args s M), rfl, bx11_commitOf E M a1 a2⟩) h
abbrev rm11_kindOf : Room := { frames := 7, cells := 0, slots := 0, locals := 122 }
def qx11_kindOf (D : va_G) (cI cZ cO : ClassId) (ad : Nat → Nat) (gh : rC_gh) (de : Nat) (below : List Frame) (args : Array Value) (s : State) (M : rv_Mem) : Int32 ⊕ Nat → State → Prop := fun r => match r with
  | .inl r => vx_MQ below (rC_qi D cI cZ cO ad gh de (rC_A ad gh s.heap.size) r M) (rC_fx (rC_A ad gh s.heap.size)) args s 0 0 (rC_A ad gh s.heap.size)
  | .inr _ => fun _ => True
set_option maxRecDepth 100000 in
theorem b11_kindOf {p : Program} {l : Launch} {e : Env} {s : State} {m : MethodId} {args : Array Value} {below : List Frame} {meth : Method} {c : Code} {D : va_G} {cI cZ cO : ClassId} {ad : Nat → Nat} {gh : rC_gh} {de : Nat} (E : rC_X D cI cZ cO ad gh RX11 cX11_kindOf 3 (some .int) p l s m args meth c) (M : rv_Mem) (a1 : Int32) (a2 : Int32) : rv_M (rC_G D cI cZ cO ad gh de) (rC_A ad gh s.heap.size) p l e rm11_kindOf s m args below meth c 0 0 (qx11_kindOf D cI cZ cO ad gh de below args s M) (f11_kindOf gh M a1 a2) 0 [some (.ref (ad 0)), some (.int a1), some (.int a2)] [] M := by
  unfold f11_kindOf
  refine rv_aload_n (q := 1) E.1.x dX11_kindOf_0 rfl rfl ?_
  refine rC_getX11 (q := 4) E.1 0 0 wfX11_10 rfl (Nat.le_of_ble_eq_true rfl) ⟨rfl, rfl⟩ rfl dX11_kindOf_1 rfl ?_
  refine rv_aload_n (q := 5) E.1.x dX11_kindOf_4 rfl rfl ?_
  refine rv_iload_n (q := 6) E.1.x dX11_kindOf_5 rfl rfl ?_
  refine rv_x1r (fun r2 e1 => ?_) (fun w3 e4 => rv_tr (fun _ => trivial))
  refine rC_xVrX11 (q := 9) E ⟨rfl, rfl⟩ (fun _ => c11_needChange E.2.1 E.1.2.2.1 e1) gX11_91 hX11_needChange ⟨rfl, rfl⟩ ⟨Nat.le_of_ble_eq_true rfl, Nat.le_of_ble_eq_true rfl⟩ ⟨Nat.le_of_ble_eq_true rfl, Nat.le_of_ble_eq_true rfl⟩ rfl rfl rfl (Nat.le_of_ble_eq_true rfl) dX11_kindOf_6 rfl ?_
  refine rv_iload_n (q := 10) E.1.x dX11_kindOf_9 rfl rfl ?_
  refine rv_x1r (fun r6 e5 => ?_) (fun w7 e8 => rv_tr (fun _ => trivial))
  refine rC_xSi (q := 13) E (fun _ => c11_needSet E.2.1 E.1.2.2.1 e5) gX11_95 hX11_needSet ⟨rfl, rfl⟩ ⟨Nat.le_of_ble_eq_true rfl, Nat.le_of_ble_eq_true rfl⟩ ⟨Nat.le_of_ble_eq_true rfl, Nat.le_of_ble_eq_true rfl⟩ rfl rfl rfl (Nat.le_of_ble_eq_true rfl) dX11_kindOf_10 rfl ?_
  refine rv_b1 (fun r10 e9 => ?_)
  refine rC_calliX9 (q := 16) E.1 ⟨rfl, rfl⟩ (c9_kindAt E.1.2.2.1 e9) gX11_261 hX9_kindAt ⟨rfl, rfl⟩ ⟨Nat.le_of_ble_eq_true rfl, Nat.le_of_ble_eq_true rfl⟩ ⟨Nat.le_of_ble_eq_true rfl, Nat.le_of_ble_eq_true rfl⟩ rfl rfl rfl (Nat.le_of_ble_eq_true rfl) dX11_kindOf_13 rfl ?_
  exact rC_xiret E rfl ⟨Nat.le_of_ble_eq_true rfl, Nat.le_of_ble_eq_true rfl⟩ dX11_kindOf_16
theorem c11_kindOf {l : Launch} {D : va_G} {cI cZ cO : ClassId} {ad : Nat → Nat} {gh : rC_gh} {de : Nat} (hfl : l.stackTraces = false) (hI : rC_I ad gh) {sz : Nat} {M : rv_Mem} {a1 : Int32} {a2 : Int32} {r : Int32} (h : f11_kindOf gh M a1 a2 = some (.inl r)) : vx_Met l yX11_kindOf (rv_ws yX11_kindOf cX11_kindOf 3 (some .int)) rm11_kindOf (rC_Px D cI cZ cO ad gh de sz [.ref (ad 0), .int a1, .int a2] M) (rC_qi D cI cZ cO ad gh de (rC_A ad gh sz) r M) (rC_fx (rC_A ad gh sz)) 0 0 (rC_A ad gh sz) := rC_xmet (Qc := fun A => rC_qi D cI cZ cO ad gh de A r M) (XC := fun A => rC_fx A) hfl hI rfl (by decide) (Nat.le_of_ble_eq_true rfl) (fun p e s m args below meth c E => ⟨(qx11_kindOf D cI cZ cO ad gh de below args s M), rfl, b11_kindOf E M a1 a2⟩) h
abbrev rmx11_kindOf : Room := { frames := 7, cells := 1, slots := 6, locals := 122 }
def qy11_kindOf (D : va_G) (cI cZ cO : ClassId) (ad : Nat → Nat) (gh : rC_gh) (de : Nat) (below : List Frame) (args : Array Value) (s : State) (M : rv_Mem) : Int32 ⊕ Nat → State → Prop := fun r => match r with
  | .inl _ => fun _ => True
  | .inr r => vx_MQ below (rC_fi (rC_A ad gh s.heap.size)) (rC_xc D cI cZ cO ad gh de (rC_A ad gh s.heap.size) r M) args s 1 6 (rC_A ad gh s.heap.size)
set_option maxRecDepth 100000 in
theorem bx11_kindOf {p : Program} {l : Launch} {e : Env} {s : State} {m : MethodId} {args : Array Value} {below : List Frame} {meth : Method} {c : Code} {D : va_G} {cI cZ cO : ClassId} {ad : Nat → Nat} {gh : rC_gh} {de : Nat} (E : rC_X D cI cZ cO ad gh RX11 cX11_kindOf 3 (some .int) p l s m args meth c) (M : rv_Mem) (a1 : Int32) (a2 : Int32) : rv_M (rC_G D cI cZ cO ad gh de) (rC_A ad gh s.heap.size) p l e rmx11_kindOf s m args below meth c 0 0 (qy11_kindOf D cI cZ cO ad gh de below args s M) (f11_kindOf gh M a1 a2) 0 [some (.ref (ad 0)), some (.int a1), some (.int a2)] [] M := by
  unfold f11_kindOf
  refine rv_aload_n (q := 1) E.1.x dX11_kindOf_0 rfl rfl ?_
  refine rC_getX11 (q := 4) E.1 0 0 wfX11_10 rfl (Nat.le_of_ble_eq_true rfl) ⟨rfl, rfl⟩ rfl dX11_kindOf_1 rfl ?_
  refine rv_aload_n (q := 5) E.1.x dX11_kindOf_4 rfl rfl ?_
  refine rv_iload_n (q := 6) E.1.x dX11_kindOf_5 rfl rfl ?_
  refine rv_x1r (fun r2 e1 => ?_) (fun w3 e4 => rC_yVrX11 E ⟨rfl, rfl⟩ (fun _ => c11_needChange_x E.2.1 E.1.2.2.1 e4) rfl gX11_91 hX11_needChange ⟨rfl, rfl⟩ ⟨Nat.le_of_ble_eq_true rfl, Nat.le_of_ble_eq_true rfl⟩ ⟨Nat.le_of_ble_eq_true rfl, Nat.le_of_ble_eq_true rfl⟩ rfl rfl rfl (Nat.le_of_ble_eq_true rfl) dX11_kindOf_6 ⟨Nat.le_of_ble_eq_true rfl, Nat.le_of_ble_eq_true rfl⟩)
  refine rC_xVrX11 (q := 9) E ⟨rfl, rfl⟩ (fun _ => c11_needChange E.2.1 E.1.2.2.1 e1) gX11_91 hX11_needChange ⟨rfl, rfl⟩ ⟨Nat.le_of_ble_eq_true rfl, Nat.le_of_ble_eq_true rfl⟩ ⟨Nat.le_of_ble_eq_true rfl, Nat.le_of_ble_eq_true rfl⟩ rfl rfl rfl (Nat.le_of_ble_eq_true rfl) dX11_kindOf_6 rfl ?_
  refine rv_iload_n (q := 10) E.1.x dX11_kindOf_9 rfl rfl ?_
  refine rv_x1r (fun r6 e5 => ?_) (fun w7 e8 => rC_ySi E (fun _ => c11_needSet_x E.2.1 E.1.2.2.1 e8) rfl gX11_95 hX11_needSet ⟨rfl, rfl⟩ ⟨Nat.le_of_ble_eq_true rfl, Nat.le_of_ble_eq_true rfl⟩ ⟨Nat.le_of_ble_eq_true rfl, Nat.le_of_ble_eq_true rfl⟩ rfl rfl rfl (Nat.le_of_ble_eq_true rfl) dX11_kindOf_10 ⟨Nat.le_of_ble_eq_true rfl, Nat.le_of_ble_eq_true rfl⟩)
  refine rC_xSi (q := 13) E (fun _ => c11_needSet E.2.1 E.1.2.2.1 e5) gX11_95 hX11_needSet ⟨rfl, rfl⟩ ⟨Nat.le_of_ble_eq_true rfl, Nat.le_of_ble_eq_true rfl⟩ ⟨Nat.le_of_ble_eq_true rfl, Nat.le_of_ble_eq_true rfl⟩ rfl rfl rfl (Nat.le_of_ble_eq_true rfl) dX11_kindOf_10 rfl ?_
  refine rv_b1 (fun r10 e9 => ?_)
  refine rC_calliX9 (q := 16) E.1 ⟨rfl, rfl⟩ (c9_kindAt E.1.2.2.1 e9) gX11_261 hX9_kindAt ⟨rfl, rfl⟩ ⟨Nat.le_of_ble_eq_true rfl, Nat.le_of_ble_eq_true rfl⟩ ⟨Nat.le_of_ble_eq_true rfl, Nat.le_of_ble_eq_true rfl⟩ rfl rfl rfl (Nat.le_of_ble_eq_true rfl) dX11_kindOf_13 rfl ?_
  exact rv_tr (fun _ => trivial)
theorem c11_kindOf_x {l : Launch} {D : va_G} {cI cZ cO : ClassId} {ad : Nat → Nat} {gh : rC_gh} {de : Nat} (hfl : l.stackTraces = false) (hI : rC_I ad gh) {sz : Nat} {M : rv_Mem} {a1 : Int32} {a2 : Int32} {x : Nat} (h : f11_kindOf gh M a1 a2 = some (.inr x)) : vx_Met l yX11_kindOf (rv_ws yX11_kindOf cX11_kindOf 3 (some .int)) rmx11_kindOf (rC_Px D cI cZ cO ad gh de sz [.ref (ad 0), .int a1, .int a2] M) (rC_fi (rC_A ad gh sz)) (rC_xc D cI cZ cO ad gh de (rC_A ad gh sz) x M) 1 6 (rC_A ad gh sz) := rC_xmet (Qc := fun A => rC_fi A) (XC := fun A => rC_xc D cI cZ cO ad gh de A x M) hfl hI rfl (by decide) (Nat.le_of_ble_eq_true rfl) (fun p e s m args below meth c E => ⟨(qy11_kindOf D cI cZ cO ad gh de below args s M), rfl, bx11_kindOf E M a1 a2⟩) h
abbrev rm11_parentOf : Room := { frames := 7, cells := 0, slots := 0, locals := 122 }
def qx11_parentOf (D : va_G) (cI cZ cO : ClassId) (ad : Nat → Nat) (gh : rC_gh) (de : Nat) (below : List Frame) (args : Array Value) (s : State) (M : rv_Mem) : Int32 ⊕ Nat → State → Prop := fun r => match r with
  | .inl r => vx_MQ below (rC_qi D cI cZ cO ad gh de (rC_A ad gh s.heap.size) r M) (rC_fx (rC_A ad gh s.heap.size)) args s 0 0 (rC_A ad gh s.heap.size)
  | .inr _ => fun _ => True
set_option maxRecDepth 100000 in
theorem b11_parentOf_44 {p : Program} {l : Launch} {e : Env} {s : State} {m : MethodId} {args : Array Value} {below : List Frame} {meth : Method} {c : Code} {D : va_G} {cI cZ cO : ClassId} {ad : Nat → Nat} {gh : rC_gh} {de : Nat} (E : rC_X D cI cZ cO ad gh RX11 cX11_parentOf 3 (some .int) p l s m args meth c) (M : rv_Mem)   : ∀ (s0 : Int32) (s1 : Bool), rv_M (rC_G D cI cZ cO ad gh de) (rC_A ad gh s.heap.size) p l e rm11_parentOf s m args below meth c 0 0 (qx11_parentOf D cI cZ cO ad gh de below args s M) (f11_parentOf_44 gh M s0 s1) 44 [none, none, none] [.int (rv_i s1), .int s0] M := by
  intro s0 s1
  unfold f11_parentOf_44
  refine rv_iadd (q := 45) E.1.x dX11_parentOf_44 rfl ?_
  exact rC_xiret E rfl ⟨Nat.le_of_ble_eq_true rfl, Nat.le_of_ble_eq_true rfl⟩ dX11_parentOf_45
set_option maxRecDepth 100000 in
theorem b11_parentOf {p : Program} {l : Launch} {e : Env} {s : State} {m : MethodId} {args : Array Value} {below : List Frame} {meth : Method} {c : Code} {D : va_G} {cI cZ cO : ClassId} {ad : Nat → Nat} {gh : rC_gh} {de : Nat} (E : rC_X D cI cZ cO ad gh RX11 cX11_parentOf 3 (some .int) p l s m args meth c) (M : rv_Mem) (a1 : Int32) : rv_M (rC_G D cI cZ cO ad gh de) (rC_A ad gh s.heap.size) p l e rm11_parentOf s m args below meth c 0 0 (qx11_parentOf D cI cZ cO ad gh de below args s M) (f11_parentOf gh M a1) 0 [some (.ref (ad 0)), some (.int a1), none] [] M := by
  unfold f11_parentOf
  refine rv_aload_n (q := 1) E.1.x dX11_parentOf_0 rfl rfl ?_
  refine rv_iload_n (q := 2) E.1.x dX11_parentOf_1 rfl rfl ?_
  refine rv_x1r (fun r2 e1 => ?_) (fun w3 e4 => rv_tr (fun _ => trivial))
  refine rC_xVrX11 (q := 5) E ⟨rfl, rfl⟩ (fun _ => c11_needChange E.2.1 E.1.2.2.1 e1) gX11_91 hX11_needChange ⟨rfl, rfl⟩ ⟨Nat.le_of_ble_eq_true rfl, Nat.le_of_ble_eq_true rfl⟩ ⟨Nat.le_of_ble_eq_true rfl, Nat.le_of_ble_eq_true rfl⟩ rfl rfl rfl (Nat.le_of_ble_eq_true rfl) dX11_parentOf_2 rfl ?_
  refine rv_pop (q := 6) E.1.x dX11_parentOf_5 rfl rfl ?_
  refine rv_aload_n (q := 7) E.1.x dX11_parentOf_6 rfl rfl ?_
  refine rC_getX11 (q := 10) E.1 0 0 wfX11_10 rfl (Nat.le_of_ble_eq_true rfl) ⟨rfl, rfl⟩ rfl dX11_parentOf_7 rfl ?_
  refine rv_iload_n (q := 11) E.1.x dX11_parentOf_10 rfl rfl ?_
  refine rv_b1 (fun r6 e5 => ?_)
  refine rC_calliX9 (q := 14) E.1 ⟨rfl, rfl⟩ (c9_parentNumber E.1.2.2.1 e5) gX11_230 hX9_parentNumber ⟨rfl, rfl⟩ ⟨Nat.le_of_ble_eq_true rfl, Nat.le_of_ble_eq_true rfl⟩ ⟨Nat.le_of_ble_eq_true rfl, Nat.le_of_ble_eq_true rfl⟩ rfl rfl rfl (Nat.le_of_ble_eq_true rfl) dX11_parentOf_11 rfl ?_
  refine rv_istore_n (q := 15) (lv' := [_, _, _]) E.1.x dX11_parentOf_14 (Nat.le_of_ble_eq_true rfl) rfl rfl rfl ?_
  refine rv_iload_n (q := 16) E.1.x dX11_parentOf_15 rfl rfl ?_
  refine rv_iconst (q := 17) E.1.x dX11_parentOf_16 rv_kim1 rfl ?_
  refine rv_icmp_ne (q := 20) (tgt := 24) E.1.x dX11_parentOf_17 (by decide) rfl ?_ ?_
  · refine rv_iconst (q := 21) E.1.x dX11_parentOf_20 rv_kim1 rfl ?_
    refine rv_goto (q := 45) E.1.x dX11_parentOf_21 (by decide) ?_
    exact rC_xiret E rfl ⟨Nat.le_of_ble_eq_true rfl, Nat.le_of_ble_eq_true rfl⟩ dX11_parentOf_45
  · refine rv_bipush (q := 26) E.1.x dX11_parentOf_24 rv_kb10 rfl ?_
    refine rv_iload_n (q := 27) E.1.x dX11_parentOf_26 rfl rfl ?_
    refine rv_imul (q := 28) E.1.x dX11_parentOf_27 rfl ?_
    refine rv_aload_n (q := 29) E.1.x dX11_parentOf_28 rfl rfl ?_
    refine rC_getX11 (q := 32) E.1 0 0 wfX11_10 rfl (Nat.le_of_ble_eq_true rfl) ⟨rfl, rfl⟩ rfl dX11_parentOf_29 rfl ?_
    refine rv_iload_n (q := 33) E.1.x dX11_parentOf_32 rfl rfl ?_
    refine rv_b1 (fun r8 e7 => ?_)
    refine rC_calliX9 (q := 36) E.1 ⟨rfl, rfl⟩ (c9_isOutdated E.1.2.2.1 e7) gX11_264 hX9_isOutdated ⟨rfl, rfl⟩ ⟨Nat.le_of_ble_eq_true rfl, Nat.le_of_ble_eq_true rfl⟩ ⟨Nat.le_of_ble_eq_true rfl, Nat.le_of_ble_eq_true rfl⟩ rfl rfl rfl (Nat.le_of_ble_eq_true rfl) dX11_parentOf_33 rfl ?_
    refine rv_ifz_eq (q := 39) (tgt := 43) E.1.x dX11_parentOf_36 (by decide) rfl ?_ ?_
    · refine rv_iconst (q := 40) E.1.x dX11_parentOf_39 rv_ki1 rfl ?_
      refine rv_goto (q := 44) E.1.x dX11_parentOf_40 (by decide) ?_
      refine rv_wk [false, false, false] ?_
      exact b11_parentOf_44 E M (10 * r6) true
    · refine rv_iconst (q := 44) E.1.x dX11_parentOf_43 rv_ki0 rfl ?_
      refine rv_wk [false, false, false] ?_
      exact b11_parentOf_44 E M (10 * r6) false
theorem c11_parentOf {l : Launch} {D : va_G} {cI cZ cO : ClassId} {ad : Nat → Nat} {gh : rC_gh} {de : Nat} (hfl : l.stackTraces = false) (hI : rC_I ad gh) {sz : Nat} {M : rv_Mem} {a1 : Int32} {r : Int32} (h : f11_parentOf gh M a1 = some (.inl r)) : vx_Met l yX11_parentOf (rv_ws yX11_parentOf cX11_parentOf 3 (some .int)) rm11_parentOf (rC_Px D cI cZ cO ad gh de sz [.ref (ad 0), .int a1] M) (rC_qi D cI cZ cO ad gh de (rC_A ad gh sz) r M) (rC_fx (rC_A ad gh sz)) 0 0 (rC_A ad gh sz) := rC_xmet (Qc := fun A => rC_qi D cI cZ cO ad gh de A r M) (XC := fun A => rC_fx A) hfl hI rfl (by decide) (Nat.le_of_ble_eq_true rfl) (fun p e s m args below meth c E => ⟨(qx11_parentOf D cI cZ cO ad gh de below args s M), rfl, b11_parentOf E M a1⟩) h
abbrev rmx11_parentOf : Room := { frames := 7, cells := 1, slots := 6, locals := 122 }
def qy11_parentOf (D : va_G) (cI cZ cO : ClassId) (ad : Nat → Nat) (gh : rC_gh) (de : Nat) (below : List Frame) (args : Array Value) (s : State) (M : rv_Mem) : Int32 ⊕ Nat → State → Prop := fun r => match r with
  | .inl _ => fun _ => True
  | .inr r => vx_MQ below (rC_fi (rC_A ad gh s.heap.size)) (rC_xc D cI cZ cO ad gh de (rC_A ad gh s.heap.size) r M) args s 1 6 (rC_A ad gh s.heap.size)
set_option maxRecDepth 100000 in
theorem bx11_parentOf_44 {p : Program} {l : Launch} {e : Env} {s : State} {m : MethodId} {args : Array Value} {below : List Frame} {meth : Method} {c : Code} {D : va_G} {cI cZ cO : ClassId} {ad : Nat → Nat} {gh : rC_gh} {de : Nat} (E : rC_X D cI cZ cO ad gh RX11 cX11_parentOf 3 (some .int) p l s m args meth c) (M : rv_Mem)   : ∀ (s0 : Int32) (s1 : Bool), rv_M (rC_G D cI cZ cO ad gh de) (rC_A ad gh s.heap.size) p l e rmx11_parentOf s m args below meth c 0 0 (qy11_parentOf D cI cZ cO ad gh de below args s M) (f11_parentOf_44 gh M s0 s1) 44 [none, none, none] [.int (rv_i s1), .int s0] M := by
  intro s0 s1
  unfold f11_parentOf_44
  refine rv_iadd (q := 45) E.1.x dX11_parentOf_44 rfl ?_
  exact rv_tr (fun _ => trivial)
set_option maxRecDepth 100000 in
theorem bx11_parentOf {p : Program} {l : Launch} {e : Env} {s : State} {m : MethodId} {args : Array Value} {below : List Frame} {meth : Method} {c : Code} {D : va_G} {cI cZ cO : ClassId} {ad : Nat → Nat} {gh : rC_gh} {de : Nat} (E : rC_X D cI cZ cO ad gh RX11 cX11_parentOf 3 (some .int) p l s m args meth c) (M : rv_Mem) (a1 : Int32) : rv_M (rC_G D cI cZ cO ad gh de) (rC_A ad gh s.heap.size) p l e rmx11_parentOf s m args below meth c 0 0 (qy11_parentOf D cI cZ cO ad gh de below args s M) (f11_parentOf gh M a1) 0 [some (.ref (ad 0)), some (.int a1), none] [] M := by
  unfold f11_parentOf
  refine rv_aload_n (q := 1) E.1.x dX11_parentOf_0 rfl rfl ?_
  refine rv_iload_n (q := 2) E.1.x dX11_parentOf_1 rfl rfl ?_
  refine rv_x1r (fun r2 e1 => ?_) (fun w3 e4 => rC_yVrX11 E ⟨rfl, rfl⟩ (fun _ => c11_needChange_x E.2.1 E.1.2.2.1 e4) rfl gX11_91 hX11_needChange ⟨rfl, rfl⟩ ⟨Nat.le_of_ble_eq_true rfl, Nat.le_of_ble_eq_true rfl⟩ ⟨Nat.le_of_ble_eq_true rfl, Nat.le_of_ble_eq_true rfl⟩ rfl rfl rfl (Nat.le_of_ble_eq_true rfl) dX11_parentOf_2 ⟨Nat.le_of_ble_eq_true rfl, Nat.le_of_ble_eq_true rfl⟩)
  refine rC_xVrX11 (q := 5) E ⟨rfl, rfl⟩ (fun _ => c11_needChange E.2.1 E.1.2.2.1 e1) gX11_91 hX11_needChange ⟨rfl, rfl⟩ ⟨Nat.le_of_ble_eq_true rfl, Nat.le_of_ble_eq_true rfl⟩ ⟨Nat.le_of_ble_eq_true rfl, Nat.le_of_ble_eq_true rfl⟩ rfl rfl rfl (Nat.le_of_ble_eq_true rfl) dX11_parentOf_2 rfl ?_
  refine rv_pop (q := 6) E.1.x dX11_parentOf_5 rfl rfl ?_
  refine rv_aload_n (q := 7) E.1.x dX11_parentOf_6 rfl rfl ?_
  refine rC_getX11 (q := 10) E.1 0 0 wfX11_10 rfl (Nat.le_of_ble_eq_true rfl) ⟨rfl, rfl⟩ rfl dX11_parentOf_7 rfl ?_
  refine rv_iload_n (q := 11) E.1.x dX11_parentOf_10 rfl rfl ?_
  refine rv_b1 (fun r6 e5 => ?_)
  refine rC_calliX9 (q := 14) E.1 ⟨rfl, rfl⟩ (c9_parentNumber E.1.2.2.1 e5) gX11_230 hX9_parentNumber ⟨rfl, rfl⟩ ⟨Nat.le_of_ble_eq_true rfl, Nat.le_of_ble_eq_true rfl⟩ ⟨Nat.le_of_ble_eq_true rfl, Nat.le_of_ble_eq_true rfl⟩ rfl rfl rfl (Nat.le_of_ble_eq_true rfl) dX11_parentOf_11 rfl ?_
  refine rv_istore_n (q := 15) (lv' := [_, _, _]) E.1.x dX11_parentOf_14 (Nat.le_of_ble_eq_true rfl) rfl rfl rfl ?_
  refine rv_iload_n (q := 16) E.1.x dX11_parentOf_15 rfl rfl ?_
  refine rv_iconst (q := 17) E.1.x dX11_parentOf_16 rv_kim1 rfl ?_
  refine rv_icmp_ne (q := 20) (tgt := 24) E.1.x dX11_parentOf_17 (by decide) rfl ?_ ?_
  · refine rv_iconst (q := 21) E.1.x dX11_parentOf_20 rv_kim1 rfl ?_
    refine rv_goto (q := 45) E.1.x dX11_parentOf_21 (by decide) ?_
    exact rv_tr (fun _ => trivial)
  · refine rv_bipush (q := 26) E.1.x dX11_parentOf_24 rv_kb10 rfl ?_
    refine rv_iload_n (q := 27) E.1.x dX11_parentOf_26 rfl rfl ?_
    refine rv_imul (q := 28) E.1.x dX11_parentOf_27 rfl ?_
    refine rv_aload_n (q := 29) E.1.x dX11_parentOf_28 rfl rfl ?_
    refine rC_getX11 (q := 32) E.1 0 0 wfX11_10 rfl (Nat.le_of_ble_eq_true rfl) ⟨rfl, rfl⟩ rfl dX11_parentOf_29 rfl ?_
    refine rv_iload_n (q := 33) E.1.x dX11_parentOf_32 rfl rfl ?_
    refine rv_b1 (fun r8 e7 => ?_)
    refine rC_calliX9 (q := 36) E.1 ⟨rfl, rfl⟩ (c9_isOutdated E.1.2.2.1 e7) gX11_264 hX9_isOutdated ⟨rfl, rfl⟩ ⟨Nat.le_of_ble_eq_true rfl, Nat.le_of_ble_eq_true rfl⟩ ⟨Nat.le_of_ble_eq_true rfl, Nat.le_of_ble_eq_true rfl⟩ rfl rfl rfl (Nat.le_of_ble_eq_true rfl) dX11_parentOf_33 rfl ?_
    refine rv_ifz_eq (q := 39) (tgt := 43) E.1.x dX11_parentOf_36 (by decide) rfl ?_ ?_
    · refine rv_iconst (q := 40) E.1.x dX11_parentOf_39 rv_ki1 rfl ?_
      refine rv_goto (q := 44) E.1.x dX11_parentOf_40 (by decide) ?_
      refine rv_wk [false, false, false] ?_
      exact bx11_parentOf_44 E M (10 * r6) true
    · refine rv_iconst (q := 44) E.1.x dX11_parentOf_43 rv_ki0 rfl ?_
      refine rv_wk [false, false, false] ?_
      exact bx11_parentOf_44 E M (10 * r6) false
theorem c11_parentOf_x {l : Launch} {D : va_G} {cI cZ cO : ClassId} {ad : Nat → Nat} {gh : rC_gh} {de : Nat} (hfl : l.stackTraces = false) (hI : rC_I ad gh) {sz : Nat} {M : rv_Mem} {a1 : Int32} {x : Nat} (h : f11_parentOf gh M a1 = some (.inr x)) : vx_Met l yX11_parentOf (rv_ws yX11_parentOf cX11_parentOf 3 (some .int)) rmx11_parentOf (rC_Px D cI cZ cO ad gh de sz [.ref (ad 0), .int a1] M) (rC_fi (rC_A ad gh sz)) (rC_xc D cI cZ cO ad gh de (rC_A ad gh sz) x M) 1 6 (rC_A ad gh sz) := rC_xmet (Qc := fun A => rC_fi A) (XC := fun A => rC_xc D cI cZ cO ad gh de A x M) hfl hI rfl (by decide) (Nat.le_of_ble_eq_true rfl) (fun p e s m args below meth c E => ⟨(qy11_parentOf D cI cZ cO ad gh de below args s M), rfl, bx11_parentOf E M a1⟩) h
abbrev rm11_findDifference : Room := { frames := 7, cells := 0, slots := 0, locals := 122 }
def qx11_findDifference (D : va_G) (cI cZ cO : ClassId) (ad : Nat → Nat) (gh : rC_gh) (de : Nat) (below : List Frame) (args : Array Value) (s : State) : (Int32 × rv_Mem) ⊕ (Nat × rv_Mem) → State → Prop := fun r => match r with
  | .inl r => vx_MQ below (rC_qi D cI cZ cO ad gh de (rC_A ad gh s.heap.size) r.1 r.2) (rC_fx (rC_A ad gh s.heap.size)) args s 0 0 (rC_A ad gh s.heap.size)
  | .inr _ => fun _ => True
set_option maxRecDepth 100000 in
theorem b11_findDifference {p : Program} {l : Launch} {e : Env} {s : State} {m : MethodId} {args : Array Value} {below : List Frame} {meth : Method} {c : Code} {D : va_G} {cI cZ cO : ClassId} {ad : Nat → Nat} {gh : rC_gh} {de : Nat} (E : rC_X D cI cZ cO ad gh RX11 cX11_findDifference 9 (some .int) p l s m args meth c) (M : rv_Mem) (a1 : Int32) (a2 : Int32) (a3 : Int32) (a4 : Int32) (a5 : Bool) : rv_M (rC_G D cI cZ cO ad gh de) (rC_A ad gh s.heap.size) p l e rm11_findDifference s m args below meth c 0 0 (qx11_findDifference D cI cZ cO ad gh de below args s) (f11_findDifference gh M a1 a2 a3 a4 a5) 0 [some (.ref (ad 0)), some (.int a1), some (.int a2), some (.int a3), some (.int a4), some (.int (rv_i a5)), none, none, none] [] M := by
  unfold f11_findDifference
  refine rv_aload_n (q := 1) E.1.x dX11_findDifference_0 rfl rfl ?_
  refine rv_iload_n (q := 2) E.1.x dX11_findDifference_1 rfl rfl ?_
  refine rv_x2r (fun r2 e1 => ?_) (fun w3 e4 => rv_tr (fun _ => trivial))
  refine rC_xVrX11 (q := 5) E ⟨rfl, rfl⟩ (fun _ => c11_needChange E.2.1 E.1.2.2.1 e1) gX11_91 hX11_needChange ⟨rfl, rfl⟩ ⟨Nat.le_of_ble_eq_true rfl, Nat.le_of_ble_eq_true rfl⟩ ⟨Nat.le_of_ble_eq_true rfl, Nat.le_of_ble_eq_true rfl⟩ rfl rfl rfl (Nat.le_of_ble_eq_true rfl) dX11_findDifference_2 rfl ?_
  refine rv_astore (q := 7) (lv' := [_, _, _, _, _, _, _, _, _]) E.1.x dX11_findDifference_5 (Nat.le_of_ble_eq_true rfl) rfl rfl rfl ?_
  refine rv_aload (q := 9) E.1.x dX11_findDifference_7 rfl rfl ?_
  refine rv_iload_n (q := 10) E.1.x dX11_findDifference_9 rfl rfl ?_
  refine rv_x2r (fun r6 e5 => ?_) (fun w7 e8 => rv_tr (fun _ => trivial))
  refine rC_xSi (q := 13) E (fun _ => c11_needSet E.2.1 E.1.2.2.1 e5) gX11_95 hX11_needSet ⟨rfl, rfl⟩ ⟨Nat.le_of_ble_eq_true rfl, Nat.le_of_ble_eq_true rfl⟩ ⟨Nat.le_of_ble_eq_true rfl, Nat.le_of_ble_eq_true rfl⟩ rfl rfl rfl (Nat.le_of_ble_eq_true rfl) dX11_findDifference_10 rfl ?_
  refine rv_istore (q := 15) (lv' := [_, _, _, _, _, _, _, _, _]) E.1.x dX11_findDifference_13 (Nat.le_of_ble_eq_true rfl) rfl rfl rfl ?_
  refine rv_aload (q := 17) E.1.x dX11_findDifference_15 rfl rfl ?_
  refine rv_iload_n (q := 18) E.1.x dX11_findDifference_17 rfl rfl ?_
  refine rv_x2r (fun r10 e9 => ?_) (fun w11 e12 => rv_tr (fun _ => trivial))
  refine rC_xSi (q := 21) E (fun _ => c11_needSet E.2.1 E.1.2.2.1 e9) gX11_95 hX11_needSet ⟨rfl, rfl⟩ ⟨Nat.le_of_ble_eq_true rfl, Nat.le_of_ble_eq_true rfl⟩ ⟨Nat.le_of_ble_eq_true rfl, Nat.le_of_ble_eq_true rfl⟩ rfl rfl rfl (Nat.le_of_ble_eq_true rfl) dX11_findDifference_18 rfl ?_
  refine rv_istore (q := 23) (lv' := [_, _, _, _, _, _, _, _, _]) E.1.x dX11_findDifference_21 (Nat.le_of_ble_eq_true rfl) rfl rfl rfl ?_
  refine rv_iload (q := 25) E.1.x dX11_findDifference_23 rfl rfl ?_
  refine rv_x2r (fun r14 e13 => ?_) (fun w15 e16 => rv_tr (fun _ => trivial))
  refine rC_xSv (q := 28) E (fun _ => c11_needFile E.2.1 E.1.2.2.1 e13) gX11_102 hX11_needFile ⟨rfl, rfl⟩ ⟨Nat.le_of_ble_eq_true rfl, Nat.le_of_ble_eq_true rfl⟩ ⟨Nat.le_of_ble_eq_true rfl, Nat.le_of_ble_eq_true rfl⟩ rfl rfl rfl (Nat.le_of_ble_eq_true rfl) dX11_findDifference_25 rfl ?_
  refine rv_aload_n (q := 29) E.1.x dX11_findDifference_28 rfl rfl ?_
  refine rC_getX11 (q := 32) E.1 0 1 wfX11_21 rfl (Nat.le_of_ble_eq_true rfl) ⟨rfl, rfl⟩ rfl dX11_findDifference_29 rfl ?_
  refine rv_iload (q := 34) E.1.x dX11_findDifference_32 rfl rfl ?_
  refine rv_iload (q := 36) E.1.x dX11_findDifference_34 rfl rfl ?_
  refine rv_iload (q := 38) E.1.x dX11_findDifference_36 rfl rfl ?_
  refine rv_iload (q := 40) E.1.x dX11_findDifference_38 rfl rfl ?_
  refine rv_b2 (fun r18 M19 e17 => ?_)
  refine rC_calliX2 (q := 43) E.1 ⟨rfl, rfl⟩ (c2_findLeft E.1.2.2.1 e17) gX11_532 hX2_findLeft ⟨rfl, rfl⟩ ⟨Nat.le_of_ble_eq_true rfl, Nat.le_of_ble_eq_true rfl⟩ ⟨Nat.le_of_ble_eq_true rfl, Nat.le_of_ble_eq_true rfl⟩ rfl rfl rfl (Nat.le_of_ble_eq_true rfl) dX11_findDifference_40 rfl ?_
  exact rC_xiret E rfl ⟨Nat.le_of_ble_eq_true rfl, Nat.le_of_ble_eq_true rfl⟩ dX11_findDifference_43
theorem c11_findDifference {l : Launch} {D : va_G} {cI cZ cO : ClassId} {ad : Nat → Nat} {gh : rC_gh} {de : Nat} (hfl : l.stackTraces = false) (hI : rC_I ad gh) {sz : Nat} {M : rv_Mem} {a1 : Int32} {a2 : Int32} {a3 : Int32} {a4 : Int32} {a5 : Bool} {r : Int32} {M1 : rv_Mem} (h : f11_findDifference gh M a1 a2 a3 a4 a5 = some (.inl (r, M1))) : vx_Met l yX11_findDifference (rv_ws yX11_findDifference cX11_findDifference 9 (some .int)) rm11_findDifference (rC_Px D cI cZ cO ad gh de sz [.ref (ad 0), .int a1, .int a2, .int a3, .int a4, .int (rv_i a5)] M) (rC_qi D cI cZ cO ad gh de (rC_A ad gh sz) r M1) (rC_fx (rC_A ad gh sz)) 0 0 (rC_A ad gh sz) := rC_xmet (Qc := fun A => rC_qi D cI cZ cO ad gh de A r M1) (XC := fun A => rC_fx A) hfl hI rfl (by decide) (Nat.le_of_ble_eq_true rfl) (fun p e s m args below meth c E => ⟨(qx11_findDifference D cI cZ cO ad gh de below args s), rfl, b11_findDifference E M a1 a2 a3 a4 a5⟩) h
abbrev rmx11_findDifference : Room := { frames := 7, cells := 1, slots := 6, locals := 122 }
def qy11_findDifference (D : va_G) (cI cZ cO : ClassId) (ad : Nat → Nat) (gh : rC_gh) (de : Nat) (below : List Frame) (args : Array Value) (s : State) : (Int32 × rv_Mem) ⊕ (Nat × rv_Mem) → State → Prop := fun r => match r with
  | .inl _ => fun _ => True
  | .inr r => vx_MQ below (rC_fi (rC_A ad gh s.heap.size)) (rC_xc D cI cZ cO ad gh de (rC_A ad gh s.heap.size) r.1 r.2) args s 1 6 (rC_A ad gh s.heap.size)
set_option maxRecDepth 100000 in
theorem bx11_findDifference {p : Program} {l : Launch} {e : Env} {s : State} {m : MethodId} {args : Array Value} {below : List Frame} {meth : Method} {c : Code} {D : va_G} {cI cZ cO : ClassId} {ad : Nat → Nat} {gh : rC_gh} {de : Nat} (E : rC_X D cI cZ cO ad gh RX11 cX11_findDifference 9 (some .int) p l s m args meth c) (M : rv_Mem) (a1 : Int32) (a2 : Int32) (a3 : Int32) (a4 : Int32) (a5 : Bool) : rv_M (rC_G D cI cZ cO ad gh de) (rC_A ad gh s.heap.size) p l e rmx11_findDifference s m args below meth c 0 0 (qy11_findDifference D cI cZ cO ad gh de below args s) (f11_findDifference gh M a1 a2 a3 a4 a5) 0 [some (.ref (ad 0)), some (.int a1), some (.int a2), some (.int a3), some (.int a4), some (.int (rv_i a5)), none, none, none] [] M := by
  unfold f11_findDifference
  refine rv_aload_n (q := 1) E.1.x dX11_findDifference_0 rfl rfl ?_
  refine rv_iload_n (q := 2) E.1.x dX11_findDifference_1 rfl rfl ?_
  refine rv_x2r (fun r2 e1 => ?_) (fun w3 e4 => rC_yVrX11 E ⟨rfl, rfl⟩ (fun _ => c11_needChange_x E.2.1 E.1.2.2.1 e4) rfl gX11_91 hX11_needChange ⟨rfl, rfl⟩ ⟨Nat.le_of_ble_eq_true rfl, Nat.le_of_ble_eq_true rfl⟩ ⟨Nat.le_of_ble_eq_true rfl, Nat.le_of_ble_eq_true rfl⟩ rfl rfl rfl (Nat.le_of_ble_eq_true rfl) dX11_findDifference_2 ⟨Nat.le_of_ble_eq_true rfl, Nat.le_of_ble_eq_true rfl⟩)
  refine rC_xVrX11 (q := 5) E ⟨rfl, rfl⟩ (fun _ => c11_needChange E.2.1 E.1.2.2.1 e1) gX11_91 hX11_needChange ⟨rfl, rfl⟩ ⟨Nat.le_of_ble_eq_true rfl, Nat.le_of_ble_eq_true rfl⟩ ⟨Nat.le_of_ble_eq_true rfl, Nat.le_of_ble_eq_true rfl⟩ rfl rfl rfl (Nat.le_of_ble_eq_true rfl) dX11_findDifference_2 rfl ?_
  refine rv_astore (q := 7) (lv' := [_, _, _, _, _, _, _, _, _]) E.1.x dX11_findDifference_5 (Nat.le_of_ble_eq_true rfl) rfl rfl rfl ?_
  refine rv_aload (q := 9) E.1.x dX11_findDifference_7 rfl rfl ?_
  refine rv_iload_n (q := 10) E.1.x dX11_findDifference_9 rfl rfl ?_
  refine rv_x2r (fun r6 e5 => ?_) (fun w7 e8 => rC_ySi E (fun _ => c11_needSet_x E.2.1 E.1.2.2.1 e8) rfl gX11_95 hX11_needSet ⟨rfl, rfl⟩ ⟨Nat.le_of_ble_eq_true rfl, Nat.le_of_ble_eq_true rfl⟩ ⟨Nat.le_of_ble_eq_true rfl, Nat.le_of_ble_eq_true rfl⟩ rfl rfl rfl (Nat.le_of_ble_eq_true rfl) dX11_findDifference_10 ⟨Nat.le_of_ble_eq_true rfl, Nat.le_of_ble_eq_true rfl⟩)
  refine rC_xSi (q := 13) E (fun _ => c11_needSet E.2.1 E.1.2.2.1 e5) gX11_95 hX11_needSet ⟨rfl, rfl⟩ ⟨Nat.le_of_ble_eq_true rfl, Nat.le_of_ble_eq_true rfl⟩ ⟨Nat.le_of_ble_eq_true rfl, Nat.le_of_ble_eq_true rfl⟩ rfl rfl rfl (Nat.le_of_ble_eq_true rfl) dX11_findDifference_10 rfl ?_
  refine rv_istore (q := 15) (lv' := [_, _, _, _, _, _, _, _, _]) E.1.x dX11_findDifference_13 (Nat.le_of_ble_eq_true rfl) rfl rfl rfl ?_
  refine rv_aload (q := 17) E.1.x dX11_findDifference_15 rfl rfl ?_
  refine rv_iload_n (q := 18) E.1.x dX11_findDifference_17 rfl rfl ?_
  refine rv_x2r (fun r10 e9 => ?_) (fun w11 e12 => rC_ySi E (fun _ => c11_needSet_x E.2.1 E.1.2.2.1 e12) rfl gX11_95 hX11_needSet ⟨rfl, rfl⟩ ⟨Nat.le_of_ble_eq_true rfl, Nat.le_of_ble_eq_true rfl⟩ ⟨Nat.le_of_ble_eq_true rfl, Nat.le_of_ble_eq_true rfl⟩ rfl rfl rfl (Nat.le_of_ble_eq_true rfl) dX11_findDifference_18 ⟨Nat.le_of_ble_eq_true rfl, Nat.le_of_ble_eq_true rfl⟩)
  refine rC_xSi (q := 21) E (fun _ => c11_needSet E.2.1 E.1.2.2.1 e9) gX11_95 hX11_needSet ⟨rfl, rfl⟩ ⟨Nat.le_of_ble_eq_true rfl, Nat.le_of_ble_eq_true rfl⟩ ⟨Nat.le_of_ble_eq_true rfl, Nat.le_of_ble_eq_true rfl⟩ rfl rfl rfl (Nat.le_of_ble_eq_true rfl) dX11_findDifference_18 rfl ?_
  refine rv_istore (q := 23) (lv' := [_, _, _, _, _, _, _, _, _]) E.1.x dX11_findDifference_21 (Nat.le_of_ble_eq_true rfl) rfl rfl rfl ?_
  refine rv_iload (q := 25) E.1.x dX11_findDifference_23 rfl rfl ?_
  refine rv_x2r (fun r14 e13 => ?_) (fun w15 e16 => rC_ySv E (fun _ => c11_needFile_x E.2.1 E.1.2.2.1 e16) rfl gX11_102 hX11_needFile ⟨rfl, rfl⟩ ⟨Nat.le_of_ble_eq_true rfl, Nat.le_of_ble_eq_true rfl⟩ ⟨Nat.le_of_ble_eq_true rfl, Nat.le_of_ble_eq_true rfl⟩ rfl rfl rfl (Nat.le_of_ble_eq_true rfl) dX11_findDifference_25 ⟨Nat.le_of_ble_eq_true rfl, Nat.le_of_ble_eq_true rfl⟩)
  refine rC_xSv (q := 28) E (fun _ => c11_needFile E.2.1 E.1.2.2.1 e13) gX11_102 hX11_needFile ⟨rfl, rfl⟩ ⟨Nat.le_of_ble_eq_true rfl, Nat.le_of_ble_eq_true rfl⟩ ⟨Nat.le_of_ble_eq_true rfl, Nat.le_of_ble_eq_true rfl⟩ rfl rfl rfl (Nat.le_of_ble_eq_true rfl) dX11_findDifference_25 rfl ?_
  refine rv_aload_n (q := 29) E.1.x dX11_findDifference_28 rfl rfl ?_
  refine rC_getX11 (q := 32) E.1 0 1 wfX11_21 rfl (Nat.le_of_ble_eq_true rfl) ⟨rfl, rfl⟩ rfl dX11_findDifference_29 rfl ?_
  refine rv_iload (q := 34) E.1.x dX11_findDifference_32 rfl rfl ?_
  refine rv_iload (q := 36) E.1.x dX11_findDifference_34 rfl rfl ?_
  refine rv_iload (q := 38) E.1.x dX11_findDifference_36 rfl rfl ?_
  refine rv_iload (q := 40) E.1.x dX11_findDifference_38 rfl rfl ?_
  refine rv_b2 (fun r18 M19 e17 => ?_)
  refine rC_calliX2 (q := 43) E.1 ⟨rfl, rfl⟩ (c2_findLeft E.1.2.2.1 e17) gX11_532 hX2_findLeft ⟨rfl, rfl⟩ ⟨Nat.le_of_ble_eq_true rfl, Nat.le_of_ble_eq_true rfl⟩ ⟨Nat.le_of_ble_eq_true rfl, Nat.le_of_ble_eq_true rfl⟩ rfl rfl rfl (Nat.le_of_ble_eq_true rfl) dX11_findDifference_40 rfl ?_
  exact rv_tr (fun _ => trivial)
theorem c11_findDifference_x {l : Launch} {D : va_G} {cI cZ cO : ClassId} {ad : Nat → Nat} {gh : rC_gh} {de : Nat} (hfl : l.stackTraces = false) (hI : rC_I ad gh) {sz : Nat} {M : rv_Mem} {a1 : Int32} {a2 : Int32} {a3 : Int32} {a4 : Int32} {a5 : Bool} {x : Nat} {M1 : rv_Mem} (h : f11_findDifference gh M a1 a2 a3 a4 a5 = some (.inr (x, M1))) : vx_Met l yX11_findDifference (rv_ws yX11_findDifference cX11_findDifference 9 (some .int)) rmx11_findDifference (rC_Px D cI cZ cO ad gh de sz [.ref (ad 0), .int a1, .int a2, .int a3, .int a4, .int (rv_i a5)] M) (rC_fi (rC_A ad gh sz)) (rC_xc D cI cZ cO ad gh de (rC_A ad gh sz) x M1) 1 6 (rC_A ad gh sz) := rC_xmet (Qc := fun A => rC_fi A) (XC := fun A => rC_xc D cI cZ cO ad gh de A x M1) hfl hI rfl (by decide) (Nat.le_of_ble_eq_true rfl) (fun p e s m args below meth c E => ⟨(qy11_findDifference D cI cZ cO ad gh de below args s), rfl, bx11_findDifference E M a1 a2 a3 a4 a5⟩) h
abbrev rm11_hunks : Room := { frames := 8, cells := 0, slots := 0, locals := 150 }
def qx11_hunks (D : va_G) (cI cZ cO : ClassId) (ad : Nat → Nat) (gh : rC_gh) (de : Nat) (below : List Frame) (args : Array Value) (s : State) : (Int32 × rv_Mem) ⊕ (Nat × rv_Mem) → State → Prop := fun r => match r with
  | .inl r => vx_MQ below (rC_qi D cI cZ cO ad gh de (rC_A ad gh s.heap.size) r.1 r.2) (rC_fx (rC_A ad gh s.heap.size)) args s 0 0 (rC_A ad gh s.heap.size)
  | .inr _ => fun _ => True
set_option maxRecDepth 100000 in
theorem b11_hunks {p : Program} {l : Launch} {e : Env} {s : State} {m : MethodId} {args : Array Value} {below : List Frame} {meth : Method} {c : Code} {D : va_G} {cI cZ cO : ClassId} {ad : Nat → Nat} {gh : rC_gh} {de : Nat} (E : rC_X D cI cZ cO ad gh RX11 cX11_hunks 6 (some .int) p l s m args meth c) (M : rv_Mem) (a1 : Int32) (a2 : Int32) (a3 : Int32) (a4 : Int32) (a5 : Bool) : rv_M (rC_G D cI cZ cO ad gh de) (rC_A ad gh s.heap.size) p l e rm11_hunks s m args below meth c 0 0 (qx11_hunks D cI cZ cO ad gh de below args s) (f11_hunks gh M a1 a2 a3 a4 a5) 0 [some (.ref (ad 0)), some (.int a1), some (.int a2), some (.int a3), some (.int a4), some (.int (rv_i a5))] [] M := by
  unfold f11_hunks
  refine rv_aload_n (q := 1) E.1.x dX11_hunks_0 rfl rfl ?_
  refine rv_iload_n (q := 2) E.1.x dX11_hunks_1 rfl rfl ?_
  refine rv_iload_n (q := 3) E.1.x dX11_hunks_2 rfl rfl ?_
  refine rv_iload_n (q := 4) E.1.x dX11_hunks_3 rfl rfl ?_
  refine rv_iload (q := 6) E.1.x dX11_hunks_4 rfl rfl ?_
  refine rv_iload (q := 8) E.1.x dX11_hunks_6 rfl rfl ?_
  refine rv_x3r (fun r2 M5 e1 => ?_) (fun w3 M6 e4 => rv_tr (fun _ => trivial))
  refine rC_xViX11 (q := 11) E ⟨rfl, rfl⟩ (fun _ => c11_findDifference E.2.1 E.1.2.2.1 e1) gX11_268 hX11_findDifference ⟨rfl, rfl⟩ ⟨Nat.le_of_ble_eq_true rfl, Nat.le_of_ble_eq_true rfl⟩ ⟨Nat.le_of_ble_eq_true rfl, Nat.le_of_ble_eq_true rfl⟩ rfl rfl rfl (Nat.le_of_ble_eq_true rfl) dX11_hunks_8 rfl ?_
  exact rC_xiret E rfl ⟨Nat.le_of_ble_eq_true rfl, Nat.le_of_ble_eq_true rfl⟩ dX11_hunks_11
theorem c11_hunks {l : Launch} {D : va_G} {cI cZ cO : ClassId} {ad : Nat → Nat} {gh : rC_gh} {de : Nat} (hfl : l.stackTraces = false) (hI : rC_I ad gh) {sz : Nat} {M : rv_Mem} {a1 : Int32} {a2 : Int32} {a3 : Int32} {a4 : Int32} {a5 : Bool} {r : Int32} {M1 : rv_Mem} (h : f11_hunks gh M a1 a2 a3 a4 a5 = some (.inl (r, M1))) : vx_Met l yX11_hunks (rv_ws yX11_hunks cX11_hunks 6 (some .int)) rm11_hunks (rC_Px D cI cZ cO ad gh de sz [.ref (ad 0), .int a1, .int a2, .int a3, .int a4, .int (rv_i a5)] M) (rC_qi D cI cZ cO ad gh de (rC_A ad gh sz) r M1) (rC_fx (rC_A ad gh sz)) 0 0 (rC_A ad gh sz) := rC_xmet (Qc := fun A => rC_qi D cI cZ cO ad gh de A r M1) (XC := fun A => rC_fx A) hfl hI rfl (by decide) (Nat.le_of_ble_eq_true rfl) (fun p e s m args below meth c E => ⟨(qx11_hunks D cI cZ cO ad gh de below args s), rfl, b11_hunks E M a1 a2 a3 a4 a5⟩) h
abbrev rmx11_hunks : Room := { frames := 8, cells := 1, slots := 6, locals := 150 }
def qy11_hunks (D : va_G) (cI cZ cO : ClassId) (ad : Nat → Nat) (gh : rC_gh) (de : Nat) (below : List Frame) (args : Array Value) (s : State) : (Int32 × rv_Mem) ⊕ (Nat × rv_Mem) → State → Prop := fun r => match r with
  | .inl _ => fun _ => True
  | .inr r => vx_MQ below (rC_fi (rC_A ad gh s.heap.size)) (rC_xc D cI cZ cO ad gh de (rC_A ad gh s.heap.size) r.1 r.2) args s 1 6 (rC_A ad gh s.heap.size)
set_option maxRecDepth 100000 in
theorem bx11_hunks {p : Program} {l : Launch} {e : Env} {s : State} {m : MethodId} {args : Array Value} {below : List Frame} {meth : Method} {c : Code} {D : va_G} {cI cZ cO : ClassId} {ad : Nat → Nat} {gh : rC_gh} {de : Nat} (E : rC_X D cI cZ cO ad gh RX11 cX11_hunks 6 (some .int) p l s m args meth c) (M : rv_Mem) (a1 : Int32) (a2 : Int32) (a3 : Int32) (a4 : Int32) (a5 : Bool) : rv_M (rC_G D cI cZ cO ad gh de) (rC_A ad gh s.heap.size) p l e rmx11_hunks s m args below meth c 0 0 (qy11_hunks D cI cZ cO ad gh de below args s) (f11_hunks gh M a1 a2 a3 a4 a5) 0 [some (.ref (ad 0)), some (.int a1), some (.int a2), some (.int a3), some (.int a4), some (.int (rv_i a5))] [] M := by
  unfold f11_hunks
  refine rv_aload_n (q := 1) E.1.x dX11_hunks_0 rfl rfl ?_
  refine rv_iload_n (q := 2) E.1.x dX11_hunks_1 rfl rfl ?_
  refine rv_iload_n (q := 3) E.1.x dX11_hunks_2 rfl rfl ?_
  refine rv_iload_n (q := 4) E.1.x dX11_hunks_3 rfl rfl ?_
  refine rv_iload (q := 6) E.1.x dX11_hunks_4 rfl rfl ?_
  refine rv_iload (q := 8) E.1.x dX11_hunks_6 rfl rfl ?_
  refine rv_x3r (fun r2 M5 e1 => ?_) (fun w3 M6 e4 => rC_yViX11 E ⟨rfl, rfl⟩ (fun _ => c11_findDifference_x E.2.1 E.1.2.2.1 e4) rfl gX11_268 hX11_findDifference ⟨rfl, rfl⟩ ⟨Nat.le_of_ble_eq_true rfl, Nat.le_of_ble_eq_true rfl⟩ ⟨Nat.le_of_ble_eq_true rfl, Nat.le_of_ble_eq_true rfl⟩ rfl rfl rfl (Nat.le_of_ble_eq_true rfl) dX11_hunks_8 ⟨Nat.le_of_ble_eq_true rfl, Nat.le_of_ble_eq_true rfl⟩)
  refine rC_xViX11 (q := 11) E ⟨rfl, rfl⟩ (fun _ => c11_findDifference E.2.1 E.1.2.2.1 e1) gX11_268 hX11_findDifference ⟨rfl, rfl⟩ ⟨Nat.le_of_ble_eq_true rfl, Nat.le_of_ble_eq_true rfl⟩ ⟨Nat.le_of_ble_eq_true rfl, Nat.le_of_ble_eq_true rfl⟩ rfl rfl rfl (Nat.le_of_ble_eq_true rfl) dX11_hunks_8 rfl ?_
  exact rv_tr (fun _ => trivial)
theorem c11_hunks_x {l : Launch} {D : va_G} {cI cZ cO : ClassId} {ad : Nat → Nat} {gh : rC_gh} {de : Nat} (hfl : l.stackTraces = false) (hI : rC_I ad gh) {sz : Nat} {M : rv_Mem} {a1 : Int32} {a2 : Int32} {a3 : Int32} {a4 : Int32} {a5 : Bool} {x : Nat} {M1 : rv_Mem} (h : f11_hunks gh M a1 a2 a3 a4 a5 = some (.inr (x, M1))) : vx_Met l yX11_hunks (rv_ws yX11_hunks cX11_hunks 6 (some .int)) rmx11_hunks (rC_Px D cI cZ cO ad gh de sz [.ref (ad 0), .int a1, .int a2, .int a3, .int a4, .int (rv_i a5)] M) (rC_fi (rC_A ad gh sz)) (rC_xc D cI cZ cO ad gh de (rC_A ad gh sz) x M1) 1 6 (rC_A ad gh sz) := rC_xmet (Qc := fun A => rC_fi A) (XC := fun A => rC_xc D cI cZ cO ad gh de A x M1) hfl hI rfl (by decide) (Nat.le_of_ble_eq_true rfl) (fun p e s m args below meth c E => ⟨(qy11_hunks D cI cZ cO ad gh de below args s), rfl, bx11_hunks E M a1 a2 a3 a4 a5⟩) h
abbrev rm11_hunkAt : Room := { frames := 8, cells := 0, slots := 0, locals := 150 }
def qx11_hunkAt (D : va_G) (cI cZ cO : ClassId) (ad : Nat → Nat) (gh : rC_gh) (de : Nat) (below : List Frame) (args : Array Value) (s : State) : (Int32 × rv_Mem) ⊕ (Nat × rv_Mem) → State → Prop := fun r => match r with
  | .inl r => vx_MQ below (rC_qi D cI cZ cO ad gh de (rC_A ad gh s.heap.size) r.1 r.2) (rC_fx (rC_A ad gh s.heap.size)) args s 0 0 (rC_A ad gh s.heap.size)
  | .inr _ => fun _ => True
set_option maxRecDepth 100000 in
theorem b11_hunkAt {p : Program} {l : Launch} {e : Env} {s : State} {m : MethodId} {args : Array Value} {below : List Frame} {meth : Method} {c : Code} {D : va_G} {cI cZ cO : ClassId} {ad : Nat → Nat} {gh : rC_gh} {de : Nat} (E : rC_X D cI cZ cO ad gh RX11 cX11_hunkAt 8 (some .int) p l s m args meth c) (M : rv_Mem) (a1 : Int32) (a2 : Int32) (a3 : Int32) (a4 : Int32) (a5 : Bool) (a6 : Int32) : rv_M (rC_G D cI cZ cO ad gh de) (rC_A ad gh s.heap.size) p l e rm11_hunkAt s m args below meth c 0 0 (qx11_hunkAt D cI cZ cO ad gh de below args s) (f11_hunkAt gh M a1 a2 a3 a4 a5 a6) 0 [some (.ref (ad 0)), some (.int a1), some (.int a2), some (.int a3), some (.int a4), some (.int (rv_i a5)), some (.int a6), none] [] M := by
  unfold f11_hunkAt
  refine rv_aload_n (q := 1) E.1.x dX11_hunkAt_0 rfl rfl ?_
  refine rv_iload_n (q := 2) E.1.x dX11_hunkAt_1 rfl rfl ?_
  refine rv_iload_n (q := 3) E.1.x dX11_hunkAt_2 rfl rfl ?_
  refine rv_iload_n (q := 4) E.1.x dX11_hunkAt_3 rfl rfl ?_
  refine rv_iload (q := 6) E.1.x dX11_hunkAt_4 rfl rfl ?_
  refine rv_iload (q := 8) E.1.x dX11_hunkAt_6 rfl rfl ?_
  refine rv_x3r (fun r2 M5 e1 => ?_) (fun w3 M6 e4 => rv_tr (fun _ => trivial))
  refine rC_xViX11 (q := 11) E ⟨rfl, rfl⟩ (fun _ => c11_findDifference E.2.1 E.1.2.2.1 e1) gX11_268 hX11_findDifference ⟨rfl, rfl⟩ ⟨Nat.le_of_ble_eq_true rfl, Nat.le_of_ble_eq_true rfl⟩ ⟨Nat.le_of_ble_eq_true rfl, Nat.le_of_ble_eq_true rfl⟩ rfl rfl rfl (Nat.le_of_ble_eq_true rfl) dX11_hunkAt_8 rfl ?_
  refine rv_istore (q := 13) (lv' := [_, _, _, _, _, _, _, _]) E.1.x dX11_hunkAt_11 (Nat.le_of_ble_eq_true rfl) rfl rfl rfl ?_
  refine rv_iload (q := 15) E.1.x dX11_hunkAt_13 rfl rfl ?_
  refine rv_if_ge (q := 18) (tgt := 29) E.1.x dX11_hunkAt_15 (by decide) rfl ?_ ?_
  · exact rv_tr (fun _ => trivial)
  · refine rv_iload (q := 31) E.1.x dX11_hunkAt_29 rfl rfl ?_
    refine rv_iload (q := 33) E.1.x dX11_hunkAt_31 rfl rfl ?_
    refine rv_icmp_ge (q := 36) (tgt := 48) E.1.x dX11_hunkAt_33 (by decide) rfl ?_ ?_
    · refine rv_aload_n (q := 37) E.1.x dX11_hunkAt_36 rfl rfl ?_
      refine rC_getX11 (q := 40) E.1 0 1 wfX11_21 rfl (Nat.le_of_ble_eq_true rfl) ⟨rfl, rfl⟩ rfl dX11_hunkAt_37 rfl ?_
      refine rv_iload (q := 42) E.1.x dX11_hunkAt_40 rfl rfl ?_
      refine rv_b1 (fun r8 e7 => ?_)
      refine rC_calliX2 (q := 45) E.1 ⟨rfl, rfl⟩ (c2_tellLeft E.1.2.2.1 e7) gX11_274 hX2_tellLeft ⟨rfl, rfl⟩ ⟨Nat.le_of_ble_eq_true rfl, Nat.le_of_ble_eq_true rfl⟩ ⟨Nat.le_of_ble_eq_true rfl, Nat.le_of_ble_eq_true rfl⟩ rfl rfl rfl (Nat.le_of_ble_eq_true rfl) dX11_hunkAt_42 rfl ?_
      refine rv_goto (q := 49) E.1.x dX11_hunkAt_45 (by decide) ?_
      exact rC_xiret E rfl ⟨Nat.le_of_ble_eq_true rfl, Nat.le_of_ble_eq_true rfl⟩ dX11_hunkAt_49
    · refine rv_iconst (q := 49) E.1.x dX11_hunkAt_48 rv_kim1 rfl ?_
      exact rC_xiret E rfl ⟨Nat.le_of_ble_eq_true rfl, Nat.le_of_ble_eq_true rfl⟩ dX11_hunkAt_49
theorem c11_hunkAt {l : Launch} {D : va_G} {cI cZ cO : ClassId} {ad : Nat → Nat} {gh : rC_gh} {de : Nat} (hfl : l.stackTraces = false) (hI : rC_I ad gh) {sz : Nat} {M : rv_Mem} {a1 : Int32} {a2 : Int32} {a3 : Int32} {a4 : Int32} {a5 : Bool} {a6 : Int32} {r : Int32} {M1 : rv_Mem} (h : f11_hunkAt gh M a1 a2 a3 a4 a5 a6 = some (.inl (r, M1))) : vx_Met l yX11_hunkAt (rv_ws yX11_hunkAt cX11_hunkAt 8 (some .int)) rm11_hunkAt (rC_Px D cI cZ cO ad gh de sz [.ref (ad 0), .int a1, .int a2, .int a3, .int a4, .int (rv_i a5), .int a6] M) (rC_qi D cI cZ cO ad gh de (rC_A ad gh sz) r M1) (rC_fx (rC_A ad gh sz)) 0 0 (rC_A ad gh sz) := rC_xmet (Qc := fun A => rC_qi D cI cZ cO ad gh de A r M1) (XC := fun A => rC_fx A) hfl hI rfl (by decide) (Nat.le_of_ble_eq_true rfl) (fun p e s m args below meth c E => ⟨(qx11_hunkAt D cI cZ cO ad gh de below args s), rfl, b11_hunkAt E M a1 a2 a3 a4 a5 a6⟩) h
abbrev rmx11_hunkAt : Room := { frames := 8, cells := 1, slots := 6, locals := 150 }
def qy11_hunkAt (D : va_G) (cI cZ cO : ClassId) (ad : Nat → Nat) (gh : rC_gh) (de : Nat) (below : List Frame) (args : Array Value) (s : State) : (Int32 × rv_Mem) ⊕ (Nat × rv_Mem) → State → Prop := fun r => match r with
  | .inl _ => fun _ => True
  | .inr r => vx_MQ below (rC_fi (rC_A ad gh s.heap.size)) (rC_xc D cI cZ cO ad gh de (rC_A ad gh s.heap.size) r.1 r.2) args s 1 6 (rC_A ad gh s.heap.size)
set_option maxRecDepth 100000 in
theorem bx11_hunkAt {p : Program} {l : Launch} {e : Env} {s : State} {m : MethodId} {args : Array Value} {below : List Frame} {meth : Method} {c : Code} {D : va_G} {cI cZ cO : ClassId} {ad : Nat → Nat} {gh : rC_gh} {de : Nat} (E : rC_X D cI cZ cO ad gh RX11 cX11_hunkAt 8 (some .int) p l s m args meth c) (M : rv_Mem) (a1 : Int32) (a2 : Int32) (a3 : Int32) (a4 : Int32) (a5 : Bool) (a6 : Int32) : rv_M (rC_G D cI cZ cO ad gh de) (rC_A ad gh s.heap.size) p l e rmx11_hunkAt s m args below meth c 0 0 (qy11_hunkAt D cI cZ cO ad gh de below args s) (f11_hunkAt gh M a1 a2 a3 a4 a5 a6) 0 [some (.ref (ad 0)), some (.int a1), some (.int a2), some (.int a3), some (.int a4), some (.int (rv_i a5)), some (.int a6), none] [] M := by
  unfold f11_hunkAt
  refine rv_aload_n (q := 1) E.1.x dX11_hunkAt_0 rfl rfl ?_
  refine rv_iload_n (q := 2) E.1.x dX11_hunkAt_1 rfl rfl ?_
  refine rv_iload_n (q := 3) E.1.x dX11_hunkAt_2 rfl rfl ?_
  refine rv_iload_n (q := 4) E.1.x dX11_hunkAt_3 rfl rfl ?_
  refine rv_iload (q := 6) E.1.x dX11_hunkAt_4 rfl rfl ?_
  refine rv_iload (q := 8) E.1.x dX11_hunkAt_6 rfl rfl ?_
  refine rv_x3r (fun r2 M5 e1 => ?_) (fun w3 M6 e4 => rC_yViX11 E ⟨rfl, rfl⟩ (fun _ => c11_findDifference_x E.2.1 E.1.2.2.1 e4) rfl gX11_268 hX11_findDifference ⟨rfl, rfl⟩ ⟨Nat.le_of_ble_eq_true rfl, Nat.le_of_ble_eq_true rfl⟩ ⟨Nat.le_of_ble_eq_true rfl, Nat.le_of_ble_eq_true rfl⟩ rfl rfl rfl (Nat.le_of_ble_eq_true rfl) dX11_hunkAt_8 ⟨Nat.le_of_ble_eq_true rfl, Nat.le_of_ble_eq_true rfl⟩)
  refine rC_xViX11 (q := 11) E ⟨rfl, rfl⟩ (fun _ => c11_findDifference E.2.1 E.1.2.2.1 e1) gX11_268 hX11_findDifference ⟨rfl, rfl⟩ ⟨Nat.le_of_ble_eq_true rfl, Nat.le_of_ble_eq_true rfl⟩ ⟨Nat.le_of_ble_eq_true rfl, Nat.le_of_ble_eq_true rfl⟩ rfl rfl rfl (Nat.le_of_ble_eq_true rfl) dX11_hunkAt_8 rfl ?_
  refine rv_istore (q := 13) (lv' := [_, _, _, _, _, _, _, _]) E.1.x dX11_hunkAt_11 (Nat.le_of_ble_eq_true rfl) rfl rfl rfl ?_
  refine rv_iload (q := 15) E.1.x dX11_hunkAt_13 rfl rfl ?_
  refine rv_if_ge (q := 18) (tgt := 29) E.1.x dX11_hunkAt_15 (by decide) rfl ?_ ?_
  · exact rC_throwW (x := 1) E rfl (by decide +kernel) rC_xk1 rC_xi1 rC_xg1 rC_xn1 rC_xo1 E.2.2.2.2.2.2.1 (is := 272) (text := "no such hunk") (by decide +kernel) rfl rfl dX11_hunkAt_18 dX11_hunkAt_21 dX11_hunkAt_22 dX11_hunkAt_25 dX11_hunkAt_28 (Nat.le_of_ble_eq_true rfl) (Nat.le_of_ble_eq_true rfl) ⟨Nat.le_of_ble_eq_true rfl, Nat.le_of_ble_eq_true rfl⟩ ⟨Nat.le_of_ble_eq_true rfl, Nat.le_of_ble_eq_true rfl⟩
  · refine rv_iload (q := 31) E.1.x dX11_hunkAt_29 rfl rfl ?_
    refine rv_iload (q := 33) E.1.x dX11_hunkAt_31 rfl rfl ?_
    refine rv_icmp_ge (q := 36) (tgt := 48) E.1.x dX11_hunkAt_33 (by decide) rfl ?_ ?_
    · refine rv_aload_n (q := 37) E.1.x dX11_hunkAt_36 rfl rfl ?_
      refine rC_getX11 (q := 40) E.1 0 1 wfX11_21 rfl (Nat.le_of_ble_eq_true rfl) ⟨rfl, rfl⟩ rfl dX11_hunkAt_37 rfl ?_
      refine rv_iload (q := 42) E.1.x dX11_hunkAt_40 rfl rfl ?_
      refine rv_b1 (fun r8 e7 => ?_)
      refine rC_calliX2 (q := 45) E.1 ⟨rfl, rfl⟩ (c2_tellLeft E.1.2.2.1 e7) gX11_274 hX2_tellLeft ⟨rfl, rfl⟩ ⟨Nat.le_of_ble_eq_true rfl, Nat.le_of_ble_eq_true rfl⟩ ⟨Nat.le_of_ble_eq_true rfl, Nat.le_of_ble_eq_true rfl⟩ rfl rfl rfl (Nat.le_of_ble_eq_true rfl) dX11_hunkAt_42 rfl ?_
      refine rv_goto (q := 49) E.1.x dX11_hunkAt_45 (by decide) ?_
      exact rv_tr (fun _ => trivial)
    · refine rv_iconst (q := 49) E.1.x dX11_hunkAt_48 rv_kim1 rfl ?_
      exact rv_tr (fun _ => trivial)
theorem c11_hunkAt_x {l : Launch} {D : va_G} {cI cZ cO : ClassId} {ad : Nat → Nat} {gh : rC_gh} {de : Nat} (hfl : l.stackTraces = false) (hI : rC_I ad gh) {sz : Nat} {M : rv_Mem} {a1 : Int32} {a2 : Int32} {a3 : Int32} {a4 : Int32} {a5 : Bool} {a6 : Int32} {x : Nat} {M1 : rv_Mem} (h : f11_hunkAt gh M a1 a2 a3 a4 a5 a6 = some (.inr (x, M1))) : vx_Met l yX11_hunkAt (rv_ws yX11_hunkAt cX11_hunkAt 8 (some .int)) rmx11_hunkAt (rC_Px D cI cZ cO ad gh de sz [.ref (ad 0), .int a1, .int a2, .int a3, .int a4, .int (rv_i a5), .int a6] M) (rC_fi (rC_A ad gh sz)) (rC_xc D cI cZ cO ad gh de (rC_A ad gh sz) x M1) 1 6 (rC_A ad gh sz) := rC_xmet (Qc := fun A => rC_fi A) (XC := fun A => rC_xc D cI cZ cO ad gh de A x M1) hfl hI rfl (by decide) (Nat.le_of_ble_eq_true rfl) (fun p e s m args below meth c E => ⟨(qy11_hunkAt D cI cZ cO ad gh de below args s), rfl, bx11_hunkAt E M a1 a2 a3 a4 a5 a6⟩) h
abbrev rm11_publish : Room := { frames := 7, cells := 0, slots := 0, locals := 122 }
def qx11_publish (D : va_G) (cI cZ cO : ClassId) (ad : Nat → Nat) (gh : rC_gh) (de : Nat) (below : List Frame) (args : Array Value) (s : State) : (Int32 × rv_Mem) ⊕ (Nat × rv_Mem) → State → Prop := fun r => match r with
  | .inl r => vx_MQ below (rC_qi D cI cZ cO ad gh de (rC_A ad gh s.heap.size) r.1 r.2) (rC_fx (rC_A ad gh s.heap.size)) args s 0 0 (rC_A ad gh s.heap.size)
  | .inr _ => fun _ => True
set_option maxRecDepth 100000 in
theorem b11_publish_85 {p : Program} {l : Launch} {e : Env} {s : State} {m : MethodId} {args : Array Value} {below : List Frame} {meth : Method} {c : Code} {D : va_G} {cI cZ cO : ClassId} {ad : Nat → Nat} {gh : rC_gh} {de : Nat} (E : rC_X D cI cZ cO ad gh RX11 cX11_publish 7 (some .int) p l s m args meth c) (k21 : rv_Mem → Int32 → Int32 → Nat → Int32 → Int32 → Option ((Int32 × rv_Mem) ⊕ (Nat × rv_Mem))) (h21 : ∀ (M : rv_Mem) (x1 : Int32) (x2 : Int32) (x3 : Nat) (x4 : Int32) (x5 : Int32), rv_M (rC_G D cI cZ cO ad gh de) (rC_A ad gh s.heap.size) p l e rm11_publish s m args below meth c 0 0 (qx11_publish D cI cZ cO ad gh de below args s) (k21 M x1 x2 x3 x4 x5) 21 [some (.ref (ad 0)), some (.int x1), some (.int x2), some (.ref (ad x3)), some (.int x4), some (.int x5), none] [] M) : ∀ (M : rv_Mem) (x1 : Int32) (x2 : Int32) (x3 : Nat) (x4 : Int32) (x5 : Int32), rv_M (rC_G D cI cZ cO ad gh de) (rC_A ad gh s.heap.size) p l e rm11_publish s m args below meth c 0 0 (qx11_publish D cI cZ cO ad gh de below args s) (f11_publish_85 gh k21 M x1 x2 x3 x4 x5) 85 [some (.ref (ad 0)), some (.int x1), some (.int x2), some (.ref (ad x3)), some (.int x4), some (.int x5), none] [] M := by
  intro M x1 x2 x3 x4 x5
  unfold f11_publish_85
  refine rv_iinc (q := 88) (lv' := [_, _, _, _, _, _, _]) E.1.x dX11_publish_85 rv_ki1 rfl rfl rfl rfl ?_
  refine rv_goto (q := 21) E.1.x dX11_publish_88 (by decide) ?_
  refine rv_wk [true, true, true, true, true, true, false] ?_
  exact h21 M x1 x2 x3 x4 (x5 + 1)
set_option maxRecDepth 100000 in
theorem b11_publish_21_s {p : Program} {l : Launch} {e : Env} {s : State} {m : MethodId} {args : Array Value} {below : List Frame} {meth : Method} {c : Code} {D : va_G} {cI cZ cO : ClassId} {ad : Nat → Nat} {gh : rC_gh} {de : Nat} (E : rC_X D cI cZ cO ad gh RX11 cX11_publish 7 (some .int) p l s m args meth c)   (k21 : rv_Mem → Int32 → Int32 → Nat → Int32 → Int32 → Option ((Int32 × rv_Mem) ⊕ (Nat × rv_Mem))) (h21 : ∀ (M : rv_Mem) (x1 : Int32) (x2 : Int32) (x3 : Nat) (x4 : Int32) (x5 : Int32), rv_M (rC_G D cI cZ cO ad gh de) (rC_A ad gh s.heap.size) p l e rm11_publish s m args below meth c 0 0 (qx11_publish D cI cZ cO ad gh de below args s) (k21 M x1 x2 x3 x4 x5) 21 [some (.ref (ad 0)), some (.int x1), some (.int x2), some (.ref (ad x3)), some (.int x4), some (.int x5), none] [] M) : ∀ (M : rv_Mem) (x1 : Int32) (x2 : Int32) (x3 : Nat) (x4 : Int32) (x5 : Int32), rv_M (rC_G D cI cZ cO ad gh de) (rC_A ad gh s.heap.size) p l e rm11_publish s m args below meth c 0 0 (qx11_publish D cI cZ cO ad gh de below args s) (f11_publish_21_s gh k21 M x1 x2 x3 x4 x5) 21 [some (.ref (ad 0)), some (.int x1), some (.int x2), some (.ref (ad x3)), some (.int x4), some (.int x5), none] [] M := by
  intro M x1 x2 x3 x4 x5
  unfold f11_publish_21_s
  refine rv_iload (q := 23) E.1.x dX11_publish_21 rfl rfl ?_
  refine rv_aload_n (q := 24) E.1.x dX11_publish_23 rfl rfl ?_
  refine rC_getX11 (q := 27) E.1 0 6 wfX11_53 rfl (Nat.le_of_ble_eq_true rfl) ⟨rfl, rfl⟩ rfl dX11_publish_24 rfl ?_
  refine rC_lsz (q := 30) E.1 1 (by decide) (cJ_size E.1.2.2.1 1) gX11_155 ⟨Nat.le_of_ble_eq_true rfl, Nat.le_of_ble_eq_true rfl⟩ ⟨Nat.le_of_ble_eq_true rfl, Nat.le_of_ble_eq_true rfl⟩ rfl (Nat.le_of_ble_eq_true rfl) dX11_publish_27 rfl ?_
  refine rv_icmp_ge (q := 33) (tgt := 91) E.1.x dX11_publish_30 (by decide) rfl ?_ ?_
  · refine rv_aload_n (q := 34) E.1.x dX11_publish_33 rfl rfl ?_
    refine rC_getX11 (q := 37) E.1 0 6 wfX11_53 rfl (Nat.le_of_ble_eq_true rfl) ⟨rfl, rfl⟩ rfl dX11_publish_34 rfl ?_
    refine rv_iload (q := 39) E.1.x dX11_publish_37 rfl rfl ?_
    refine rC_lgt (q := 42) E.1 1 (by decide) (cJ_get E.1.2.2.1 1) ⟨rfl, rfl⟩ gX11_223 ⟨Nat.le_of_ble_eq_true rfl, Nat.le_of_ble_eq_true rfl⟩ ⟨Nat.le_of_ble_eq_true rfl, Nat.le_of_ble_eq_true rfl⟩ rfl (Nat.le_of_ble_eq_true rfl) dX11_publish_39 rfl ?_
    refine rv_g (fun g1 => ?_)
    refine rC_cstX1 (q := 45) E.1 (rC_at_of g1) wxX11_289 dX11_publish_42 rfl ?_
    refine rv_astore (q := 47) (lv' := [_, _, _, _, _, _, _]) E.1.x dX11_publish_45 (Nat.le_of_ble_eq_true rfl) rfl rfl rfl ?_
    refine rv_aload (q := 49) E.1.x dX11_publish_47 rfl rfl ?_
    refine rC_getX1 (q := 52) E.1 (200 + (x5).toNatClampNeg) 4 wfX11_303 rfl (Nat.le_of_ble_eq_true rfl) (rC_at_of g1) rfl dX11_publish_49 rfl ?_
    refine rv_ifz_ne (q := 55) (tgt := 85) E.1.x dX11_publish_52 (by decide) rfl ?_ ?_
    · refine rv_aload (q := 57) E.1.x dX11_publish_55 rfl rfl ?_
      refine rC_getX1 (q := 60) E.1 (200 + (x5).toNatClampNeg) 0 wfX11_318 rfl (Nat.le_of_ble_eq_true rfl) (rC_at_of g1) rfl dX11_publish_57 rfl ?_
      refine rv_iload_n (q := 61) E.1.x dX11_publish_60 rfl rfl ?_
      refine rv_icmp_ne (q := 64) (tgt := 85) E.1.x dX11_publish_61 (by decide) rfl ?_ ?_
      · refine rv_aload (q := 66) E.1.x dX11_publish_64 rfl rfl ?_
        refine rC_getX1 (q := 69) E.1 (200 + (x5).toNatClampNeg) 3 wfX11_311 rfl (Nat.le_of_ble_eq_true rfl) (rC_at_of g1) rfl dX11_publish_66 rfl ?_
        refine rv_g (fun g2 => ?_)
        refine rC_getX7 (q := 72) E.1 (gh.2 (200 + (x5).toNatClampNeg)) 0 wfX11_315 rfl (Nat.le_of_ble_eq_true rfl) (rC_at_of g2) rfl dX11_publish_69 rfl ?_
        refine rv_iload_n (q := 73) E.1.x dX11_publish_72 rfl rfl ?_
        refine rv_icmp_ne (q := 76) (tgt := 85) E.1.x dX11_publish_73 (by decide) rfl ?_ ?_
        · refine rv_aload (q := 78) E.1.x dX11_publish_76 rfl rfl ?_
          refine rv_iconst (q := 79) E.1.x dX11_publish_78 rv_ki1 rfl ?_
          refine rC_putzX1 (q := 82) E.1 (200 + (x5).toNatClampNeg) 4 true wfX11_303 rfl (Nat.le_of_ble_eq_true rfl) (rC_at_of g1) rfl ⟨rfl, rfl⟩ dX11_publish_79 rfl ?_
          refine rv_ltm (fun M3 => ?_)
          refine rv_iinc (q := 85) (lv' := [_, _, _, _, _, _, _]) E.1.x dX11_publish_82 rv_ki1 rfl rfl rfl rfl ?_
          refine rv_wk [true, true, true, true, true, true, false] ?_
          exact b11_publish_85 E k21 h21 M3 x1 x2 x3 (x4 + 1) x5
        · refine rv_wk [true, true, true, true, true, true, false] ?_
          exact b11_publish_85 E k21 h21 M x1 x2 x3 x4 x5
      · refine rv_wk [true, true, true, true, true, true, false] ?_
        exact b11_publish_85 E k21 h21 M x1 x2 x3 x4 x5
    · refine rv_wk [true, true, true, true, true, true, false] ?_
      exact b11_publish_85 E k21 h21 M x1 x2 x3 x4 x5
  · refine rv_iload (q := 93) E.1.x dX11_publish_91 rfl rfl ?_
    refine rv_if_ne (q := 96) (tgt := 107) E.1.x dX11_publish_93 (by decide) rfl ?_ ?_
    · exact rv_tr (fun _ => trivial)
    · refine rv_aload_n (q := 108) E.1.x dX11_publish_107 rfl rfl ?_
      refine rv_iload_n (q := 109) E.1.x dX11_publish_108 rfl rfl ?_
      refine rv_g (fun g4 => ?_)
      refine rv_b1 (fun M6 e5 => ?_)
      refine rC_callvX0 (q := 112) E.1 (rC_at_of g4) (c0_takePart E.1.2.2.1 e5) gX11_323 hX0_takePart ⟨rfl, rfl⟩ ⟨Nat.le_of_ble_eq_true rfl, Nat.le_of_ble_eq_true rfl⟩ ⟨Nat.le_of_ble_eq_true rfl, Nat.le_of_ble_eq_true rfl⟩ rfl rfl rfl (Nat.le_of_ble_eq_true rfl) dX11_publish_109 rfl ?_
      refine rv_aload_n (q := 113) E.1.x dX11_publish_112 rfl rfl ?_
      refine rv_iload_n (q := 114) E.1.x dX11_publish_113 rfl rfl ?_
      refine rv_aload_n (q := 115) E.1.x dX11_publish_114 rfl rfl ?_
      refine rv_iconst (q := 116) E.1.x dX11_publish_115 rv_ki1 rfl ?_
      refine rv_b1 (fun M8 e7 => ?_)
      refine rC_callvX11 (q := 119) E.1 ⟨rfl, rfl⟩ (c11_passTurns E.1.2.2.1 e7) gX11_326 hX11_passTurns ⟨rfl, rfl⟩ ⟨Nat.le_of_ble_eq_true rfl, Nat.le_of_ble_eq_true rfl⟩ ⟨Nat.le_of_ble_eq_true rfl, Nat.le_of_ble_eq_true rfl⟩ rfl rfl rfl (Nat.le_of_ble_eq_true rfl) dX11_publish_116 rfl ?_
      refine rv_aload_n (q := 120) E.1.x dX11_publish_119 rfl rfl ?_
      refine rv_iload_n (q := 121) E.1.x dX11_publish_120 rfl rfl ?_
      refine rv_aload_n (q := 122) E.1.x dX11_publish_121 rfl rfl ?_
      refine rv_b1 (fun M10 e9 => ?_)
      refine rC_callvX11 (q := 125) E.1 ⟨rfl, rfl⟩ (c11_noteAct E.1.2.2.1 e9) gX11_330 hX11_noteAct ⟨rfl, rfl⟩ ⟨Nat.le_of_ble_eq_true rfl, Nat.le_of_ble_eq_true rfl⟩ ⟨Nat.le_of_ble_eq_true rfl, Nat.le_of_ble_eq_true rfl⟩ rfl rfl rfl (Nat.le_of_ble_eq_true rfl) dX11_publish_122 rfl ?_
      refine rv_iload (q := 127) E.1.x dX11_publish_125 rfl rfl ?_
      exact rC_xiret E rfl ⟨Nat.le_of_ble_eq_true rfl, Nat.le_of_ble_eq_true rfl⟩ dX11_publish_127
theorem b11_publish_21 {p : Program} {l : Launch} {e : Env} {s : State} {m : MethodId} {args : Array Value} {below : List Frame} {meth : Method} {c : Code} {D : va_G} {cI cZ cO : ClassId} {ad : Nat → Nat} {gh : rC_gh} {de : Nat} (E : rC_X D cI cZ cO ad gh RX11 cX11_publish 7 (some .int) p l s m args meth c)   : ∀ (n : Nat), ∀ (M : rv_Mem) (x1 : Int32) (x2 : Int32) (x3 : Nat) (x4 : Int32) (x5 : Int32), rv_M (rC_G D cI cZ cO ad gh de) (rC_A ad gh s.heap.size) p l e rm11_publish s m args below meth c 0 0 (qx11_publish D cI cZ cO ad gh de below args s) (f11_publish_21 gh n M x1 x2 x3 x4 x5) 21 [some (.ref (ad 0)), some (.int x1), some (.int x2), some (.ref (ad x3)), some (.int x4), some (.int x5), none] [] M := by
  intro n
  induction n with
  | zero => exact fun _ _ _ _ _ _ => rv_stuck
  | succ n ih => exact b11_publish_21_s E  (f11_publish_21 gh n) ih
set_option maxRecDepth 100000 in
theorem b11_publish {p : Program} {l : Launch} {e : Env} {s : State} {m : MethodId} {args : Array Value} {below : List Frame} {meth : Method} {c : Code} {D : va_G} {cI cZ cO : ClassId} {ad : Nat → Nat} {gh : rC_gh} {de : Nat} (E : rC_X D cI cZ cO ad gh RX11 cX11_publish 7 (some .int) p l s m args meth c) (M : rv_Mem) (a1 : Int32) (a2 : Int32) : rv_M (rC_G D cI cZ cO ad gh de) (rC_A ad gh s.heap.size) p l e rm11_publish s m args below meth c 0 0 (qx11_publish D cI cZ cO ad gh de below args s) (f11_publish gh M a1 a2) 0 [some (.ref (ad 0)), some (.int a1), some (.int a2), none, none, none, none] [] M := by
  unfold f11_publish
  refine rv_iload_n (q := 1) E.1.x dX11_publish_0 rfl rfl ?_
  refine rv_x2r (fun r2 e1 => ?_) (fun w3 e4 => rv_tr (fun _ => trivial))
  refine rC_xSv (q := 4) E (fun _ => c11_needPerson E.2.1 E.1.2.2.1 e1) gX11_152 hX11_needPerson ⟨rfl, rfl⟩ ⟨Nat.le_of_ble_eq_true rfl, Nat.le_of_ble_eq_true rfl⟩ ⟨Nat.le_of_ble_eq_true rfl, Nat.le_of_ble_eq_true rfl⟩ rfl rfl rfl (Nat.le_of_ble_eq_true rfl) dX11_publish_1 rfl ?_
  refine rv_aload_n (q := 5) E.1.x dX11_publish_4 rfl rfl ?_
  refine rv_iload_n (q := 6) E.1.x dX11_publish_5 rfl rfl ?_
  refine rv_x2r (fun r6 e5 => ?_) (fun w7 e8 => rv_tr (fun _ => trivial))
  refine rC_xVrX11 (q := 9) E ⟨rfl, rfl⟩ (fun _ => c11_needChange E.2.1 E.1.2.2.1 e5) gX11_91 hX11_needChange ⟨rfl, rfl⟩ ⟨Nat.le_of_ble_eq_true rfl, Nat.le_of_ble_eq_true rfl⟩ ⟨Nat.le_of_ble_eq_true rfl, Nat.le_of_ble_eq_true rfl⟩ rfl rfl rfl (Nat.le_of_ble_eq_true rfl) dX11_publish_6 rfl ?_
  refine rv_astore_n (q := 10) (lv' := [_, _, _, _, _, _, _]) E.1.x dX11_publish_9 (Nat.le_of_ble_eq_true rfl) rfl rfl rfl ?_
  refine rv_iload_n (q := 11) E.1.x dX11_publish_10 rfl rfl ?_
  refine rv_aload_n (q := 12) E.1.x dX11_publish_11 rfl rfl ?_
  refine rv_x2r (fun r10 e9 => ?_) (fun w11 e12 => rv_tr (fun _ => trivial))
  refine rC_xSv (q := 15) E (fun _ => c11_needSeen E.2.1 E.1.2.2.1 e9) gX11_283 hX11_needSeen ⟨rfl, rfl⟩ ⟨Nat.le_of_ble_eq_true rfl, Nat.le_of_ble_eq_true rfl⟩ ⟨Nat.le_of_ble_eq_true rfl, Nat.le_of_ble_eq_true rfl⟩ rfl rfl rfl (Nat.le_of_ble_eq_true rfl) dX11_publish_12 rfl ?_
  refine rv_iconst (q := 16) E.1.x dX11_publish_15 rv_ki0 rfl ?_
  refine rv_istore (q := 18) (lv' := [_, _, _, _, _, _, _]) E.1.x dX11_publish_16 (Nat.le_of_ble_eq_true rfl) rfl rfl rfl ?_
  refine rv_iconst (q := 19) E.1.x dX11_publish_18 rv_ki0 rfl ?_
  refine rv_istore (q := 21) (lv' := [_, _, _, _, _, _, _]) E.1.x dX11_publish_19 (Nat.le_of_ble_eq_true rfl) rfl rfl rfl ?_
  refine rv_wk [true, true, true, true, true, true, false] ?_
  exact b11_publish_21 E rv_FU M a1 a2 r6 0 0
theorem c11_publish {l : Launch} {D : va_G} {cI cZ cO : ClassId} {ad : Nat → Nat} {gh : rC_gh} {de : Nat} (hfl : l.stackTraces = false) (hI : rC_I ad gh) {sz : Nat} {M : rv_Mem} {a1 : Int32} {a2 : Int32} {r : Int32} {M1 : rv_Mem} (h : f11_publish gh M a1 a2 = some (.inl (r, M1))) : vx_Met l yX11_publish (rv_ws yX11_publish cX11_publish 7 (some .int)) rm11_publish (rC_Px D cI cZ cO ad gh de sz [.ref (ad 0), .int a1, .int a2] M) (rC_qi D cI cZ cO ad gh de (rC_A ad gh sz) r M1) (rC_fx (rC_A ad gh sz)) 0 0 (rC_A ad gh sz) := rC_xmet (Qc := fun A => rC_qi D cI cZ cO ad gh de A r M1) (XC := fun A => rC_fx A) hfl hI rfl (by decide) (Nat.le_of_ble_eq_true rfl) (fun p e s m args below meth c E => ⟨(qx11_publish D cI cZ cO ad gh de below args s), rfl, b11_publish E M a1 a2⟩) h
abbrev rmx11_publish : Room := { frames := 7, cells := 1, slots := 6, locals := 122 }
def qy11_publish (D : va_G) (cI cZ cO : ClassId) (ad : Nat → Nat) (gh : rC_gh) (de : Nat) (below : List Frame) (args : Array Value) (s : State) : (Int32 × rv_Mem) ⊕ (Nat × rv_Mem) → State → Prop := fun r => match r with
  | .inl _ => fun _ => True
  | .inr r => vx_MQ below (rC_fi (rC_A ad gh s.heap.size)) (rC_xc D cI cZ cO ad gh de (rC_A ad gh s.heap.size) r.1 r.2) args s 1 6 (rC_A ad gh s.heap.size)
set_option maxRecDepth 100000 in
theorem bx11_publish_85 {p : Program} {l : Launch} {e : Env} {s : State} {m : MethodId} {args : Array Value} {below : List Frame} {meth : Method} {c : Code} {D : va_G} {cI cZ cO : ClassId} {ad : Nat → Nat} {gh : rC_gh} {de : Nat} (E : rC_X D cI cZ cO ad gh RX11 cX11_publish 7 (some .int) p l s m args meth c) (k21 : rv_Mem → Int32 → Int32 → Nat → Int32 → Int32 → Option ((Int32 × rv_Mem) ⊕ (Nat × rv_Mem))) (h21 : ∀ (M : rv_Mem) (x1 : Int32) (x2 : Int32) (x3 : Nat) (x4 : Int32) (x5 : Int32), rv_M (rC_G D cI cZ cO ad gh de) (rC_A ad gh s.heap.size) p l e rmx11_publish s m args below meth c 0 0 (qy11_publish D cI cZ cO ad gh de below args s) (k21 M x1 x2 x3 x4 x5) 21 [some (.ref (ad 0)), some (.int x1), some (.int x2), some (.ref (ad x3)), some (.int x4), some (.int x5), none] [] M) : ∀ (M : rv_Mem) (x1 : Int32) (x2 : Int32) (x3 : Nat) (x4 : Int32) (x5 : Int32), rv_M (rC_G D cI cZ cO ad gh de) (rC_A ad gh s.heap.size) p l e rmx11_publish s m args below meth c 0 0 (qy11_publish D cI cZ cO ad gh de below args s) (f11_publish_85 gh k21 M x1 x2 x3 x4 x5) 85 [some (.ref (ad 0)), some (.int x1), some (.int x2), some (.ref (ad x3)), some (.int x4), some (.int x5), none] [] M := by
  intro M x1 x2 x3 x4 x5
  unfold f11_publish_85
  refine rv_iinc (q := 88) (lv' := [_, _, _, _, _, _, _]) E.1.x dX11_publish_85 rv_ki1 rfl rfl rfl rfl ?_
  refine rv_goto (q := 21) E.1.x dX11_publish_88 (by decide) ?_
  refine rv_wk [true, true, true, true, true, true, false] ?_
  exact h21 M x1 x2 x3 x4 (x5 + 1)
set_option maxRecDepth 100000 in
theorem bx11_publish_21_s {p : Program} {l : Launch} {e : Env} {s : State} {m : MethodId} {args : Array Value} {below : List Frame} {meth : Method} {c : Code} {D : va_G} {cI cZ cO : ClassId} {ad : Nat → Nat} {gh : rC_gh} {de : Nat} (E : rC_X D cI cZ cO ad gh RX11 cX11_publish 7 (some .int) p l s m args meth c)   (k21 : rv_Mem → Int32 → Int32 → Nat → Int32 → Int32 → Option ((Int32 × rv_Mem) ⊕ (Nat × rv_Mem))) (h21 : ∀ (M : rv_Mem) (x1 : Int32) (x2 : Int32) (x3 : Nat) (x4 : Int32) (x5 : Int32), rv_M (rC_G D cI cZ cO ad gh de) (rC_A ad gh s.heap.size) p l e rmx11_publish s m args below meth c 0 0 (qy11_publish D cI cZ cO ad gh de below args s) (k21 M x1 x2 x3 x4 x5) 21 [some (.ref (ad 0)), some (.int x1), some (.int x2), some (.ref (ad x3)), some (.int x4), some (.int x5), none] [] M) : ∀ (M : rv_Mem) (x1 : Int32) (x2 : Int32) (x3 : Nat) (x4 : Int32) (x5 : Int32), rv_M (rC_G D cI cZ cO ad gh de) (rC_A ad gh s.heap.size) p l e rmx11_publish s m args below meth c 0 0 (qy11_publish D cI cZ cO ad gh de below args s) (f11_publish_21_s gh k21 M x1 x2 x3 x4 x5) 21 [some (.ref (ad 0)), some (.int x1), some (.int x2), some (.ref (ad x3)), some (.int x4), some (.int x5), none] [] M := by
  intro M x1 x2 x3 x4 x5
  unfold f11_publish_21_s
  refine rv_iload (q := 23) E.1.x dX11_publish_21 rfl rfl ?_
  refine rv_aload_n (q := 24) E.1.x dX11_publish_23 rfl rfl ?_
  refine rC_getX11 (q := 27) E.1 0 6 wfX11_53 rfl (Nat.le_of_ble_eq_true rfl) ⟨rfl, rfl⟩ rfl dX11_publish_24 rfl ?_
  refine rC_lsz (q := 30) E.1 1 (by decide) (cJ_size E.1.2.2.1 1) gX11_155 ⟨Nat.le_of_ble_eq_true rfl, Nat.le_of_ble_eq_true rfl⟩ ⟨Nat.le_of_ble_eq_true rfl, Nat.le_of_ble_eq_true rfl⟩ rfl (Nat.le_of_ble_eq_true rfl) dX11_publish_27 rfl ?_
  refine rv_icmp_ge (q := 33) (tgt := 91) E.1.x dX11_publish_30 (by decide) rfl ?_ ?_
  · refine rv_aload_n (q := 34) E.1.x dX11_publish_33 rfl rfl ?_
    refine rC_getX11 (q := 37) E.1 0 6 wfX11_53 rfl (Nat.le_of_ble_eq_true rfl) ⟨rfl, rfl⟩ rfl dX11_publish_34 rfl ?_
    refine rv_iload (q := 39) E.1.x dX11_publish_37 rfl rfl ?_
    refine rC_lgt (q := 42) E.1 1 (by decide) (cJ_get E.1.2.2.1 1) ⟨rfl, rfl⟩ gX11_223 ⟨Nat.le_of_ble_eq_true rfl, Nat.le_of_ble_eq_true rfl⟩ ⟨Nat.le_of_ble_eq_true rfl, Nat.le_of_ble_eq_true rfl⟩ rfl (Nat.le_of_ble_eq_true rfl) dX11_publish_39 rfl ?_
    refine rv_g (fun g1 => ?_)
    refine rC_cstX1 (q := 45) E.1 (rC_at_of g1) wxX11_289 dX11_publish_42 rfl ?_
    refine rv_astore (q := 47) (lv' := [_, _, _, _, _, _, _]) E.1.x dX11_publish_45 (Nat.le_of_ble_eq_true rfl) rfl rfl rfl ?_
    refine rv_aload (q := 49) E.1.x dX11_publish_47 rfl rfl ?_
    refine rC_getX1 (q := 52) E.1 (200 + (x5).toNatClampNeg) 4 wfX11_303 rfl (Nat.le_of_ble_eq_true rfl) (rC_at_of g1) rfl dX11_publish_49 rfl ?_
    refine rv_ifz_ne (q := 55) (tgt := 85) E.1.x dX11_publish_52 (by decide) rfl ?_ ?_
    · refine rv_aload (q := 57) E.1.x dX11_publish_55 rfl rfl ?_
      refine rC_getX1 (q := 60) E.1 (200 + (x5).toNatClampNeg) 0 wfX11_318 rfl (Nat.le_of_ble_eq_true rfl) (rC_at_of g1) rfl dX11_publish_57 rfl ?_
      refine rv_iload_n (q := 61) E.1.x dX11_publish_60 rfl rfl ?_
      refine rv_icmp_ne (q := 64) (tgt := 85) E.1.x dX11_publish_61 (by decide) rfl ?_ ?_
      · refine rv_aload (q := 66) E.1.x dX11_publish_64 rfl rfl ?_
        refine rC_getX1 (q := 69) E.1 (200 + (x5).toNatClampNeg) 3 wfX11_311 rfl (Nat.le_of_ble_eq_true rfl) (rC_at_of g1) rfl dX11_publish_66 rfl ?_
        refine rv_g (fun g2 => ?_)
        refine rC_getX7 (q := 72) E.1 (gh.2 (200 + (x5).toNatClampNeg)) 0 wfX11_315 rfl (Nat.le_of_ble_eq_true rfl) (rC_at_of g2) rfl dX11_publish_69 rfl ?_
        refine rv_iload_n (q := 73) E.1.x dX11_publish_72 rfl rfl ?_
        refine rv_icmp_ne (q := 76) (tgt := 85) E.1.x dX11_publish_73 (by decide) rfl ?_ ?_
        · refine rv_aload (q := 78) E.1.x dX11_publish_76 rfl rfl ?_
          refine rv_iconst (q := 79) E.1.x dX11_publish_78 rv_ki1 rfl ?_
          refine rC_putzX1 (q := 82) E.1 (200 + (x5).toNatClampNeg) 4 true wfX11_303 rfl (Nat.le_of_ble_eq_true rfl) (rC_at_of g1) rfl ⟨rfl, rfl⟩ dX11_publish_79 rfl ?_
          refine rv_ltm (fun M3 => ?_)
          refine rv_iinc (q := 85) (lv' := [_, _, _, _, _, _, _]) E.1.x dX11_publish_82 rv_ki1 rfl rfl rfl rfl ?_
          refine rv_wk [true, true, true, true, true, true, false] ?_
          exact bx11_publish_85 E k21 h21 M3 x1 x2 x3 (x4 + 1) x5
        · refine rv_wk [true, true, true, true, true, true, false] ?_
          exact bx11_publish_85 E k21 h21 M x1 x2 x3 x4 x5
      · refine rv_wk [true, true, true, true, true, true, false] ?_
        exact bx11_publish_85 E k21 h21 M x1 x2 x3 x4 x5
    · refine rv_wk [true, true, true, true, true, true, false] ?_
      exact bx11_publish_85 E k21 h21 M x1 x2 x3 x4 x5
  · refine rv_iload (q := 93) E.1.x dX11_publish_91 rfl rfl ?_
    refine rv_if_ne (q := 96) (tgt := 107) E.1.x dX11_publish_93 (by decide) rfl ?_ ?_
    · exact rC_throwW (x := 3) E rfl (by decide +kernel) rC_xk3 rC_xi3 rC_xg3 rC_xn3 rC_xo3 E.2.2.2.2.2.2.2.2.1 (is := 321) (text := "no drafts") (by decide +kernel) rfl rfl dX11_publish_96 dX11_publish_99 dX11_publish_100 dX11_publish_103 dX11_publish_106 (Nat.le_of_ble_eq_true rfl) (Nat.le_of_ble_eq_true rfl) ⟨Nat.le_of_ble_eq_true rfl, Nat.le_of_ble_eq_true rfl⟩ ⟨Nat.le_of_ble_eq_true rfl, Nat.le_of_ble_eq_true rfl⟩
    · refine rv_aload_n (q := 108) E.1.x dX11_publish_107 rfl rfl ?_
      refine rv_iload_n (q := 109) E.1.x dX11_publish_108 rfl rfl ?_
      refine rv_g (fun g4 => ?_)
      refine rv_b1 (fun M6 e5 => ?_)
      refine rC_callvX0 (q := 112) E.1 (rC_at_of g4) (c0_takePart E.1.2.2.1 e5) gX11_323 hX0_takePart ⟨rfl, rfl⟩ ⟨Nat.le_of_ble_eq_true rfl, Nat.le_of_ble_eq_true rfl⟩ ⟨Nat.le_of_ble_eq_true rfl, Nat.le_of_ble_eq_true rfl⟩ rfl rfl rfl (Nat.le_of_ble_eq_true rfl) dX11_publish_109 rfl ?_
      refine rv_aload_n (q := 113) E.1.x dX11_publish_112 rfl rfl ?_
      refine rv_iload_n (q := 114) E.1.x dX11_publish_113 rfl rfl ?_
      refine rv_aload_n (q := 115) E.1.x dX11_publish_114 rfl rfl ?_
      refine rv_iconst (q := 116) E.1.x dX11_publish_115 rv_ki1 rfl ?_
      refine rv_b1 (fun M8 e7 => ?_)
      refine rC_callvX11 (q := 119) E.1 ⟨rfl, rfl⟩ (c11_passTurns E.1.2.2.1 e7) gX11_326 hX11_passTurns ⟨rfl, rfl⟩ ⟨Nat.le_of_ble_eq_true rfl, Nat.le_of_ble_eq_true rfl⟩ ⟨Nat.le_of_ble_eq_true rfl, Nat.le_of_ble_eq_true rfl⟩ rfl rfl rfl (Nat.le_of_ble_eq_true rfl) dX11_publish_116 rfl ?_
      refine rv_aload_n (q := 120) E.1.x dX11_publish_119 rfl rfl ?_
      refine rv_iload_n (q := 121) E.1.x dX11_publish_120 rfl rfl ?_
      refine rv_aload_n (q := 122) E.1.x dX11_publish_121 rfl rfl ?_
      refine rv_b1 (fun M10 e9 => ?_)
      refine rC_callvX11 (q := 125) E.1 ⟨rfl, rfl⟩ (c11_noteAct E.1.2.2.1 e9) gX11_330 hX11_noteAct ⟨rfl, rfl⟩ ⟨Nat.le_of_ble_eq_true rfl, Nat.le_of_ble_eq_true rfl⟩ ⟨Nat.le_of_ble_eq_true rfl, Nat.le_of_ble_eq_true rfl⟩ rfl rfl rfl (Nat.le_of_ble_eq_true rfl) dX11_publish_122 rfl ?_
      refine rv_iload (q := 127) E.1.x dX11_publish_125 rfl rfl ?_
      exact rv_tr (fun _ => trivial)
theorem bx11_publish_21 {p : Program} {l : Launch} {e : Env} {s : State} {m : MethodId} {args : Array Value} {below : List Frame} {meth : Method} {c : Code} {D : va_G} {cI cZ cO : ClassId} {ad : Nat → Nat} {gh : rC_gh} {de : Nat} (E : rC_X D cI cZ cO ad gh RX11 cX11_publish 7 (some .int) p l s m args meth c)   : ∀ (n : Nat), ∀ (M : rv_Mem) (x1 : Int32) (x2 : Int32) (x3 : Nat) (x4 : Int32) (x5 : Int32), rv_M (rC_G D cI cZ cO ad gh de) (rC_A ad gh s.heap.size) p l e rmx11_publish s m args below meth c 0 0 (qy11_publish D cI cZ cO ad gh de below args s) (f11_publish_21 gh n M x1 x2 x3 x4 x5) 21 [some (.ref (ad 0)), some (.int x1), some (.int x2), some (.ref (ad x3)), some (.int x4), some (.int x5), none] [] M := by
  intro n
  induction n with
  | zero => exact fun _ _ _ _ _ _ => rv_stuck
  | succ n ih => exact bx11_publish_21_s E  (f11_publish_21 gh n) ih
set_option maxRecDepth 100000 in
theorem bx11_publish {p : Program} {l : Launch} {e : Env} {s : State} {m : MethodId} {args : Array Value} {below : List Frame} {meth : Method} {c : Code} {D : va_G} {cI cZ cO : ClassId} {ad : Nat → Nat} {gh : rC_gh} {de : Nat} (E : rC_X D cI cZ cO ad gh RX11 cX11_publish 7 (some .int) p l s m args meth c) (M : rv_Mem) (a1 : Int32) (a2 : Int32) : rv_M (rC_G D cI cZ cO ad gh de) (rC_A ad gh s.heap.size) p l e rmx11_publish s m args below meth c 0 0 (qy11_publish D cI cZ cO ad gh de below args s) (f11_publish gh M a1 a2) 0 [some (.ref (ad 0)), some (.int a1), some (.int a2), none, none, none, none] [] M := by
  unfold f11_publish
  refine rv_iload_n (q := 1) E.1.x dX11_publish_0 rfl rfl ?_
  refine rv_x2r (fun r2 e1 => ?_) (fun w3 e4 => rC_ySv E (fun _ => c11_needPerson_x E.2.1 E.1.2.2.1 e4) rfl gX11_152 hX11_needPerson ⟨rfl, rfl⟩ ⟨Nat.le_of_ble_eq_true rfl, Nat.le_of_ble_eq_true rfl⟩ ⟨Nat.le_of_ble_eq_true rfl, Nat.le_of_ble_eq_true rfl⟩ rfl rfl rfl (Nat.le_of_ble_eq_true rfl) dX11_publish_1 ⟨Nat.le_of_ble_eq_true rfl, Nat.le_of_ble_eq_true rfl⟩)
  refine rC_xSv (q := 4) E (fun _ => c11_needPerson E.2.1 E.1.2.2.1 e1) gX11_152 hX11_needPerson ⟨rfl, rfl⟩ ⟨Nat.le_of_ble_eq_true rfl, Nat.le_of_ble_eq_true rfl⟩ ⟨Nat.le_of_ble_eq_true rfl, Nat.le_of_ble_eq_true rfl⟩ rfl rfl rfl (Nat.le_of_ble_eq_true rfl) dX11_publish_1 rfl ?_
  refine rv_aload_n (q := 5) E.1.x dX11_publish_4 rfl rfl ?_
  refine rv_iload_n (q := 6) E.1.x dX11_publish_5 rfl rfl ?_
  refine rv_x2r (fun r6 e5 => ?_) (fun w7 e8 => rC_yVrX11 E ⟨rfl, rfl⟩ (fun _ => c11_needChange_x E.2.1 E.1.2.2.1 e8) rfl gX11_91 hX11_needChange ⟨rfl, rfl⟩ ⟨Nat.le_of_ble_eq_true rfl, Nat.le_of_ble_eq_true rfl⟩ ⟨Nat.le_of_ble_eq_true rfl, Nat.le_of_ble_eq_true rfl⟩ rfl rfl rfl (Nat.le_of_ble_eq_true rfl) dX11_publish_6 ⟨Nat.le_of_ble_eq_true rfl, Nat.le_of_ble_eq_true rfl⟩)
  refine rC_xVrX11 (q := 9) E ⟨rfl, rfl⟩ (fun _ => c11_needChange E.2.1 E.1.2.2.1 e5) gX11_91 hX11_needChange ⟨rfl, rfl⟩ ⟨Nat.le_of_ble_eq_true rfl, Nat.le_of_ble_eq_true rfl⟩ ⟨Nat.le_of_ble_eq_true rfl, Nat.le_of_ble_eq_true rfl⟩ rfl rfl rfl (Nat.le_of_ble_eq_true rfl) dX11_publish_6 rfl ?_
  refine rv_astore_n (q := 10) (lv' := [_, _, _, _, _, _, _]) E.1.x dX11_publish_9 (Nat.le_of_ble_eq_true rfl) rfl rfl rfl ?_
  refine rv_iload_n (q := 11) E.1.x dX11_publish_10 rfl rfl ?_
  refine rv_aload_n (q := 12) E.1.x dX11_publish_11 rfl rfl ?_
  refine rv_x2r (fun r10 e9 => ?_) (fun w11 e12 => rC_ySv E (fun _ => c11_needSeen_x E.2.1 E.1.2.2.1 e12) rfl gX11_283 hX11_needSeen ⟨rfl, rfl⟩ ⟨Nat.le_of_ble_eq_true rfl, Nat.le_of_ble_eq_true rfl⟩ ⟨Nat.le_of_ble_eq_true rfl, Nat.le_of_ble_eq_true rfl⟩ rfl rfl rfl (Nat.le_of_ble_eq_true rfl) dX11_publish_12 ⟨Nat.le_of_ble_eq_true rfl, Nat.le_of_ble_eq_true rfl⟩)
  refine rC_xSv (q := 15) E (fun _ => c11_needSeen E.2.1 E.1.2.2.1 e9) gX11_283 hX11_needSeen ⟨rfl, rfl⟩ ⟨Nat.le_of_ble_eq_true rfl, Nat.le_of_ble_eq_true rfl⟩ ⟨Nat.le_of_ble_eq_true rfl, Nat.le_of_ble_eq_true rfl⟩ rfl rfl rfl (Nat.le_of_ble_eq_true rfl) dX11_publish_12 rfl ?_
  refine rv_iconst (q := 16) E.1.x dX11_publish_15 rv_ki0 rfl ?_
  refine rv_istore (q := 18) (lv' := [_, _, _, _, _, _, _]) E.1.x dX11_publish_16 (Nat.le_of_ble_eq_true rfl) rfl rfl rfl ?_
  refine rv_iconst (q := 19) E.1.x dX11_publish_18 rv_ki0 rfl ?_
  refine rv_istore (q := 21) (lv' := [_, _, _, _, _, _, _]) E.1.x dX11_publish_19 (Nat.le_of_ble_eq_true rfl) rfl rfl rfl ?_
  refine rv_wk [true, true, true, true, true, true, false] ?_
  exact bx11_publish_21 E rv_FU M a1 a2 r6 0 0
theorem c11_publish_x {l : Launch} {D : va_G} {cI cZ cO : ClassId} {ad : Nat → Nat} {gh : rC_gh} {de : Nat} (hfl : l.stackTraces = false) (hI : rC_I ad gh) {sz : Nat} {M : rv_Mem} {a1 : Int32} {a2 : Int32} {x : Nat} {M1 : rv_Mem} (h : f11_publish gh M a1 a2 = some (.inr (x, M1))) : vx_Met l yX11_publish (rv_ws yX11_publish cX11_publish 7 (some .int)) rmx11_publish (rC_Px D cI cZ cO ad gh de sz [.ref (ad 0), .int a1, .int a2] M) (rC_fi (rC_A ad gh sz)) (rC_xc D cI cZ cO ad gh de (rC_A ad gh sz) x M1) 1 6 (rC_A ad gh sz) := rC_xmet (Qc := fun A => rC_fi A) (XC := fun A => rC_xc D cI cZ cO ad gh de A x M1) hfl hI rfl (by decide) (Nat.le_of_ble_eq_true rfl) (fun p e s m args below meth c E => ⟨(qy11_publish D cI cZ cO ad gh de below args s), rfl, bx11_publish E M a1 a2⟩) h
abbrev rm11_needComment : Room := { frames := 6, cells := 0, slots := 0, locals := 101 }
def qx11_needComment (D : va_G) (cI cZ cO : ClassId) (ad : Nat → Nat) (gh : rC_gh) (de : Nat) (below : List Frame) (args : Array Value) (s : State) (M : rv_Mem) : Nat ⊕ Nat → State → Prop := fun r => match r with
  | .inl r => vx_MQ below (rC_qr D cI cZ cO ad gh de (rC_A ad gh s.heap.size) r M) (rC_fx (rC_A ad gh s.heap.size)) args s 0 0 (rC_A ad gh s.heap.size)
  | .inr _ => fun _ => True
set_option maxRecDepth 100000 in
theorem b11_needComment {p : Program} {l : Launch} {e : Env} {s : State} {m : MethodId} {args : Array Value} {below : List Frame} {meth : Method} {c : Code} {D : va_G} {cI cZ cO : ClassId} {ad : Nat → Nat} {gh : rC_gh} {de : Nat} (E : rC_X D cI cZ cO ad gh RX11 cX11_needComment 2 (some (.object "ReviewForge$Comment")) p l s m args meth c) (M : rv_Mem) (a1 : Int32) : rv_M (rC_G D cI cZ cO ad gh de) (rC_A ad gh s.heap.size) p l e rm11_needComment s m args below meth c 0 0 (qx11_needComment D cI cZ cO ad gh de below args s M) (f11_needComment gh M a1) 0 [some (.ref (ad 0)), some (.int a1)] [] M := by
  unfold f11_needComment
  refine rv_iload_n (q := 1) E.1.x dX11_needComment_0 rfl rfl ?_
  refine rv_if_lt (q := 4) (tgt := 15) E.1.x dX11_needComment_1 (by decide) rfl ?_ ?_
  · refine rv_iload_n (q := 5) E.1.x dX11_needComment_4 rfl rfl ?_
    refine rv_aload_n (q := 6) E.1.x dX11_needComment_5 rfl rfl ?_
    refine rC_getX11 (q := 9) E.1 0 6 wfX11_53 rfl (Nat.le_of_ble_eq_true rfl) ⟨rfl, rfl⟩ rfl dX11_needComment_6 rfl ?_
    refine rC_lsz (q := 12) E.1 1 (by decide) (cJ_size E.1.2.2.1 1) gX11_155 ⟨Nat.le_of_ble_eq_true rfl, Nat.le_of_ble_eq_true rfl⟩ ⟨Nat.le_of_ble_eq_true rfl, Nat.le_of_ble_eq_true rfl⟩ rfl (Nat.le_of_ble_eq_true rfl) dX11_needComment_9 rfl ?_
    refine rv_icmp_lt (q := 15) (tgt := 26) E.1.x dX11_needComment_12 (by decide) rfl ?_ ?_
    · exact rv_tr (fun _ => trivial)
    · refine rv_aload_n (q := 27) E.1.x dX11_needComment_26 rfl rfl ?_
      refine rC_getX11 (q := 30) E.1 0 6 wfX11_53 rfl (Nat.le_of_ble_eq_true rfl) ⟨rfl, rfl⟩ rfl dX11_needComment_27 rfl ?_
      refine rv_iload_n (q := 31) E.1.x dX11_needComment_30 rfl rfl ?_
      refine rC_lgt (q := 34) E.1 1 (by decide) (cJ_get E.1.2.2.1 1) ⟨rfl, rfl⟩ gX11_223 ⟨Nat.le_of_ble_eq_true rfl, Nat.le_of_ble_eq_true rfl⟩ ⟨Nat.le_of_ble_eq_true rfl, Nat.le_of_ble_eq_true rfl⟩ rfl (Nat.le_of_ble_eq_true rfl) dX11_needComment_31 rfl ?_
      refine rv_g (fun g1 => ?_)
      refine rC_cstX1 (q := 37) E.1 (rC_at_of g1) wxX11_289 dX11_needComment_34 rfl ?_
      exact rC_xaret E rfl rfl ⟨Nat.le_of_ble_eq_true rfl, Nat.le_of_ble_eq_true rfl⟩ dX11_needComment_37
  · exact rv_tr (fun _ => trivial)
theorem c11_needComment {l : Launch} {D : va_G} {cI cZ cO : ClassId} {ad : Nat → Nat} {gh : rC_gh} {de : Nat} (hfl : l.stackTraces = false) (hI : rC_I ad gh) {sz : Nat} {M : rv_Mem} {a1 : Int32} {r : Nat} (h : f11_needComment gh M a1 = some (.inl r)) : vx_Met l yX11_needComment (rv_ws yX11_needComment cX11_needComment 2 (some (.object "ReviewForge$Comment"))) rm11_needComment (rC_Px D cI cZ cO ad gh de sz [.ref (ad 0), .int a1] M) (rC_qr D cI cZ cO ad gh de (rC_A ad gh sz) r M) (rC_fx (rC_A ad gh sz)) 0 0 (rC_A ad gh sz) := rC_xmet (Qc := fun A => rC_qr D cI cZ cO ad gh de A r M) (XC := fun A => rC_fx A) hfl hI rfl (by decide) (Nat.le_of_ble_eq_true rfl) (fun p e s m args below meth c E => ⟨(qx11_needComment D cI cZ cO ad gh de below args s M), rfl, b11_needComment E M a1⟩) h
abbrev rmx11_needComment : Room := { frames := 6, cells := 1, slots := 6, locals := 101 }
def qy11_needComment (D : va_G) (cI cZ cO : ClassId) (ad : Nat → Nat) (gh : rC_gh) (de : Nat) (below : List Frame) (args : Array Value) (s : State) (M : rv_Mem) : Nat ⊕ Nat → State → Prop := fun r => match r with
  | .inl _ => fun _ => True
  | .inr r => vx_MQ below (rC_fr (rC_A ad gh s.heap.size)) (rC_xc D cI cZ cO ad gh de (rC_A ad gh s.heap.size) r M) args s 1 6 (rC_A ad gh s.heap.size)
set_option maxRecDepth 100000 in
theorem bx11_needComment {p : Program} {l : Launch} {e : Env} {s : State} {m : MethodId} {args : Array Value} {below : List Frame} {meth : Method} {c : Code} {D : va_G} {cI cZ cO : ClassId} {ad : Nat → Nat} {gh : rC_gh} {de : Nat} (E : rC_X D cI cZ cO ad gh RX11 cX11_needComment 2 (some (.object "ReviewForge$Comment")) p l s m args meth c) (M : rv_Mem) (a1 : Int32) : rv_M (rC_G D cI cZ cO ad gh de) (rC_A ad gh s.heap.size) p l e rmx11_needComment s m args below meth c 0 0 (qy11_needComment D cI cZ cO ad gh de below args s M) (f11_needComment gh M a1) 0 [some (.ref (ad 0)), some (.int a1)] [] M := by
  unfold f11_needComment
  refine rv_iload_n (q := 1) E.1.x dX11_needComment_0 rfl rfl ?_
  refine rv_if_lt (q := 4) (tgt := 15) E.1.x dX11_needComment_1 (by decide) rfl ?_ ?_
  · refine rv_iload_n (q := 5) E.1.x dX11_needComment_4 rfl rfl ?_
    refine rv_aload_n (q := 6) E.1.x dX11_needComment_5 rfl rfl ?_
    refine rC_getX11 (q := 9) E.1 0 6 wfX11_53 rfl (Nat.le_of_ble_eq_true rfl) ⟨rfl, rfl⟩ rfl dX11_needComment_6 rfl ?_
    refine rC_lsz (q := 12) E.1 1 (by decide) (cJ_size E.1.2.2.1 1) gX11_155 ⟨Nat.le_of_ble_eq_true rfl, Nat.le_of_ble_eq_true rfl⟩ ⟨Nat.le_of_ble_eq_true rfl, Nat.le_of_ble_eq_true rfl⟩ rfl (Nat.le_of_ble_eq_true rfl) dX11_needComment_9 rfl ?_
    refine rv_icmp_lt (q := 15) (tgt := 26) E.1.x dX11_needComment_12 (by decide) rfl ?_ ?_
    · exact rC_throwW (x := 1) E rfl (by decide +kernel) rC_xk1 rC_xi1 rC_xg1 rC_xn1 rC_xo1 E.2.2.2.2.2.2.1 (is := 499) (text := "no such comment") (by decide +kernel) rfl rfl dX11_needComment_15 dX11_needComment_18 dX11_needComment_19 dX11_needComment_22 dX11_needComment_25 (Nat.le_of_ble_eq_true rfl) (Nat.le_of_ble_eq_true rfl) ⟨Nat.le_of_ble_eq_true rfl, Nat.le_of_ble_eq_true rfl⟩ ⟨Nat.le_of_ble_eq_true rfl, Nat.le_of_ble_eq_true rfl⟩
    · refine rv_aload_n (q := 27) E.1.x dX11_needComment_26 rfl rfl ?_
      refine rC_getX11 (q := 30) E.1 0 6 wfX11_53 rfl (Nat.le_of_ble_eq_true rfl) ⟨rfl, rfl⟩ rfl dX11_needComment_27 rfl ?_
      refine rv_iload_n (q := 31) E.1.x dX11_needComment_30 rfl rfl ?_
      refine rC_lgt (q := 34) E.1 1 (by decide) (cJ_get E.1.2.2.1 1) ⟨rfl, rfl⟩ gX11_223 ⟨Nat.le_of_ble_eq_true rfl, Nat.le_of_ble_eq_true rfl⟩ ⟨Nat.le_of_ble_eq_true rfl, Nat.le_of_ble_eq_true rfl⟩ rfl (Nat.le_of_ble_eq_true rfl) dX11_needComment_31 rfl ?_
      refine rv_g (fun g1 => ?_)
      refine rC_cstX1 (q := 37) E.1 (rC_at_of g1) wxX11_289 dX11_needComment_34 rfl ?_
      exact rv_tr (fun _ => trivial)
  · exact rC_throwW (x := 1) E rfl (by decide +kernel) rC_xk1 rC_xi1 rC_xg1 rC_xn1 rC_xo1 E.2.2.2.2.2.2.1 (is := 499) (text := "no such comment") (by decide +kernel) rfl rfl dX11_needComment_15 dX11_needComment_18 dX11_needComment_19 dX11_needComment_22 dX11_needComment_25 (Nat.le_of_ble_eq_true rfl) (Nat.le_of_ble_eq_true rfl) ⟨Nat.le_of_ble_eq_true rfl, Nat.le_of_ble_eq_true rfl⟩ ⟨Nat.le_of_ble_eq_true rfl, Nat.le_of_ble_eq_true rfl⟩
theorem c11_needComment_x {l : Launch} {D : va_G} {cI cZ cO : ClassId} {ad : Nat → Nat} {gh : rC_gh} {de : Nat} (hfl : l.stackTraces = false) (hI : rC_I ad gh) {sz : Nat} {M : rv_Mem} {a1 : Int32} {x : Nat} (h : f11_needComment gh M a1 = some (.inr x)) : vx_Met l yX11_needComment (rv_ws yX11_needComment cX11_needComment 2 (some (.object "ReviewForge$Comment"))) rmx11_needComment (rC_Px D cI cZ cO ad gh de sz [.ref (ad 0), .int a1] M) (rC_fr (rC_A ad gh sz)) (rC_xc D cI cZ cO ad gh de (rC_A ad gh sz) x M) 1 6 (rC_A ad gh sz) := rC_xmet (Qc := fun A => rC_fr A) (XC := fun A => rC_xc D cI cZ cO ad gh de A x M) hfl hI rfl (by decide) (Nat.le_of_ble_eq_true rfl) (fun p e s m args below meth c E => ⟨(qy11_needComment D cI cZ cO ad gh de below args s M), rfl, bx11_needComment E M a1⟩) h
abbrev rm11_shown : Room := { frames := 7, cells := 0, slots := 0, locals := 122 }
def qx11_shown (D : va_G) (cI cZ cO : ClassId) (ad : Nat → Nat) (gh : rC_gh) (de : Nat) (below : List Frame) (args : Array Value) (s : State) : (Int32 × rv_Mem) ⊕ (Nat × rv_Mem) → State → Prop := fun r => match r with
  | .inl r => vx_MQ below (rC_qi D cI cZ cO ad gh de (rC_A ad gh s.heap.size) r.1 r.2) (rC_fx (rC_A ad gh s.heap.size)) args s 0 0 (rC_A ad gh s.heap.size)
  | .inr _ => fun _ => True
set_option maxRecDepth 100000 in
theorem b11_shown_130 {p : Program} {l : Launch} {e : Env} {s : State} {m : MethodId} {args : Array Value} {below : List Frame} {meth : Method} {c : Code} {D : va_G} {cI cZ cO : ClassId} {ad : Nat → Nat} {gh : rC_gh} {de : Nat} (E : rC_X D cI cZ cO ad gh RX11 cX11_shown 9 (some .int) p l s m args meth c) (k70 : rv_Mem → Int32 → Nat → Nat → Int32 → Int32 → Int32 → Option ((Int32 × rv_Mem) ⊕ (Nat × rv_Mem))) (h70 : ∀ (M : rv_Mem) (x2 : Int32) (x3 : Nat) (x4 : Nat) (x5 : Int32) (x6 : Int32) (x7 : Int32), rv_M (rC_G D cI cZ cO ad gh de) (rC_A ad gh s.heap.size) p l e rm11_shown s m args below meth c 0 0 (qx11_shown D cI cZ cO ad gh de below args s) (k70 M x2 x3 x4 x5 x6 x7) 70 [some (.ref (ad 0)), none, some (.int x2), some (.ref (ad x3)), some (.ref (ad x4)), some (.int x5), some (.int x6), some (.int x7), none] [] M) : ∀ (M : rv_Mem) (x2 : Int32) (x3 : Nat) (x4 : Nat) (x5 : Int32) (x6 : Int32) (x7 : Int32), rv_M (rC_G D cI cZ cO ad gh de) (rC_A ad gh s.heap.size) p l e rm11_shown s m args below meth c 0 0 (qx11_shown D cI cZ cO ad gh de below args s) (f11_shown_130 gh k70 M x2 x3 x4 x5 x6 x7) 130 [some (.ref (ad 0)), none, some (.int x2), some (.ref (ad x3)), some (.ref (ad x4)), some (.int x5), some (.int x6), some (.int x7), none] [] M := by
  intro M x2 x3 x4 x5 x6 x7
  unfold f11_shown_130
  refine rv_iinc (q := 133) (lv' := [_, _, _, _, _, _, _, _, _]) E.1.x dX11_shown_130 rv_ki1 rfl rfl rfl rfl ?_
  refine rv_goto (q := 70) E.1.x dX11_shown_133 (by decide) ?_
  refine rv_wk [true, false, true, true, true, true, true, true, false] ?_
  exact h70 M x2 x3 x4 x5 x6 (x7 + 1)
set_option maxRecDepth 100000 in
theorem b11_shown_70_s {p : Program} {l : Launch} {e : Env} {s : State} {m : MethodId} {args : Array Value} {below : List Frame} {meth : Method} {c : Code} {D : va_G} {cI cZ cO : ClassId} {ad : Nat → Nat} {gh : rC_gh} {de : Nat} (E : rC_X D cI cZ cO ad gh RX11 cX11_shown 9 (some .int) p l s m args meth c)   (k70 : rv_Mem → Int32 → Nat → Nat → Int32 → Int32 → Int32 → Option ((Int32 × rv_Mem) ⊕ (Nat × rv_Mem))) (h70 : ∀ (M : rv_Mem) (x2 : Int32) (x3 : Nat) (x4 : Nat) (x5 : Int32) (x6 : Int32) (x7 : Int32), rv_M (rC_G D cI cZ cO ad gh de) (rC_A ad gh s.heap.size) p l e rm11_shown s m args below meth c 0 0 (qx11_shown D cI cZ cO ad gh de below args s) (k70 M x2 x3 x4 x5 x6 x7) 70 [some (.ref (ad 0)), none, some (.int x2), some (.ref (ad x3)), some (.ref (ad x4)), some (.int x5), some (.int x6), some (.int x7), none] [] M) : ∀ (M : rv_Mem) (x2 : Int32) (x3 : Nat) (x4 : Nat) (x5 : Int32) (x6 : Int32) (x7 : Int32), rv_M (rC_G D cI cZ cO ad gh de) (rC_A ad gh s.heap.size) p l e rm11_shown s m args below meth c 0 0 (qx11_shown D cI cZ cO ad gh de below args s) (f11_shown_70_s gh k70 M x2 x3 x4 x5 x6 x7) 70 [some (.ref (ad 0)), none, some (.int x2), some (.ref (ad x3)), some (.ref (ad x4)), some (.int x5), some (.int x6), some (.int x7), none] [] M := by
  intro M x2 x3 x4 x5 x6 x7
  unfold f11_shown_70_s
  refine rv_iload (q := 72) E.1.x dX11_shown_70 rfl rfl ?_
  refine rv_iload_n (q := 73) E.1.x dX11_shown_72 rfl rfl ?_
  refine rv_icmp_gt (q := 76) (tgt := 136) E.1.x dX11_shown_73 (by decide) rfl ?_ ?_
  · refine rv_aload (q := 78) E.1.x dX11_shown_76 rfl rfl ?_
    refine rv_iload (q := 80) E.1.x dX11_shown_78 rfl rfl ?_
    refine rv_g (fun g1 => ?_)
    refine rv_b1 (fun r3 e2 => ?_)
    refine rC_calliX0 (q := 83) E.1 (rC_at_of g1) (c0_commitAt E.1.2.2.1 e2) gX11_336 hX0_commitAt ⟨rfl, rfl⟩ ⟨Nat.le_of_ble_eq_true rfl, Nat.le_of_ble_eq_true rfl⟩ ⟨Nat.le_of_ble_eq_true rfl, Nat.le_of_ble_eq_true rfl⟩ rfl rfl rfl (Nat.le_of_ble_eq_true rfl) dX11_shown_80 rfl ?_
    refine rv_istore (q := 85) (lv' := [_, _, _, _, _, _, _, _, _]) E.1.x dX11_shown_83 (Nat.le_of_ble_eq_true rfl) rfl rfl rfl ?_
    refine rv_aload_n (q := 86) E.1.x dX11_shown_85 rfl rfl ?_
    refine rC_getX11 (q := 89) E.1 0 1 wfX11_21 rfl (Nat.le_of_ble_eq_true rfl) ⟨rfl, rfl⟩ rfl dX11_shown_86 rfl ?_
    refine rv_iload (q := 91) E.1.x dX11_shown_89 rfl rfl ?_
    refine rv_aload (q := 93) E.1.x dX11_shown_91 rfl rfl ?_
    refine rv_iload (q := 95) E.1.x dX11_shown_93 rfl rfl ?_
    refine rv_iconst (q := 96) E.1.x dX11_shown_95 rv_ki1 rfl ?_
    refine rv_isub (q := 97) E.1.x dX11_shown_96 rfl ?_
    refine rv_b1 (fun r5 e4 => ?_)
    refine rC_calliX0 (q := 100) E.1 (rC_at_of g1) (c0_commitAt E.1.2.2.1 e4) gX11_336 hX0_commitAt ⟨rfl, rfl⟩ ⟨Nat.le_of_ble_eq_true rfl, Nat.le_of_ble_eq_true rfl⟩ ⟨Nat.le_of_ble_eq_true rfl, Nat.le_of_ble_eq_true rfl⟩ rfl rfl rfl (Nat.le_of_ble_eq_true rfl) dX11_shown_97 rfl ?_
    refine rv_iload (q := 102) E.1.x dX11_shown_100 rfl rfl ?_
    refine rv_aload_n (q := 103) E.1.x dX11_shown_102 rfl rfl ?_
    refine rv_g (fun g6 => ?_)
    refine rC_getX7 (q := 106) E.1 x3 2 wfX11_345 rfl (Nat.le_of_ble_eq_true rfl) (rC_at_of g6) rfl dX11_shown_103 rfl ?_
    refine rv_b2 (fun r8 M9 e7 => ?_)
    refine rC_calliX2 (q := 109) E.1 ⟨rfl, rfl⟩ (c2_follow E.1.2.2.1 e7) gX11_348 hX2_follow ⟨rfl, rfl⟩ ⟨Nat.le_of_ble_eq_true rfl, Nat.le_of_ble_eq_true rfl⟩ ⟨Nat.le_of_ble_eq_true rfl, Nat.le_of_ble_eq_true rfl⟩ rfl rfl rfl (Nat.le_of_ble_eq_true rfl) dX11_shown_106 rfl ?_
    refine rv_istore (q := 111) (lv' := [_, _, _, _, _, _, _, _, _]) E.1.x dX11_shown_109 (Nat.le_of_ble_eq_true rfl) rfl rfl rfl ?_
    refine rv_iload (q := 113) E.1.x dX11_shown_111 rfl rfl ?_
    refine rv_if_ne (q := 116) (tgt := 130) E.1.x dX11_shown_113 (by decide) rfl ?_ ?_
    · refine rv_aload_n (q := 117) E.1.x dX11_shown_116 rfl rfl ?_
      refine rC_getX11 (q := 120) E.1 0 0 wfX11_10 rfl (Nat.le_of_ble_eq_true rfl) ⟨rfl, rfl⟩ rfl dX11_shown_117 rfl ?_
      refine rv_aload_n (q := 121) E.1.x dX11_shown_120 rfl rfl ?_
      refine rv_iload (q := 123) E.1.x dX11_shown_121 rfl rfl ?_
      refine rv_iload (q := 125) E.1.x dX11_shown_123 rfl rfl ?_
      refine rv_b1 (fun r11 e10 => ?_)
      refine rC_calliX9 (q := 128) E.1 ⟨rfl, rfl⟩ (c9_lookFor E.1.2.2.1 e10) gX11_352 hX9_lookFor ⟨rfl, rfl⟩ ⟨Nat.le_of_ble_eq_true rfl, Nat.le_of_ble_eq_true rfl⟩ ⟨Nat.le_of_ble_eq_true rfl, Nat.le_of_ble_eq_true rfl⟩ rfl rfl rfl (Nat.le_of_ble_eq_true rfl) dX11_shown_125 rfl ?_
      refine rv_istore (q := 130) (lv' := [_, _, _, _, _, _, _, _, _]) E.1.x dX11_shown_128 (Nat.le_of_ble_eq_true rfl) rfl rfl rfl ?_
      refine rv_wk [true, false, true, true, true, true, true, true, false] ?_
      exact b11_shown_130 E k70 h70 M9 x2 x3 x4 x5 r11 x7
    · refine rv_wk [true, false, true, true, true, true, true, true, false] ?_
      exact b11_shown_130 E k70 h70 M9 x2 x3 x4 x5 r8 x7
  · refine rv_iload (q := 138) E.1.x dX11_shown_136 rfl rfl ?_
    exact rC_xiret E rfl ⟨Nat.le_of_ble_eq_true rfl, Nat.le_of_ble_eq_true rfl⟩ dX11_shown_138
theorem b11_shown_70 {p : Program} {l : Launch} {e : Env} {s : State} {m : MethodId} {args : Array Value} {below : List Frame} {meth : Method} {c : Code} {D : va_G} {cI cZ cO : ClassId} {ad : Nat → Nat} {gh : rC_gh} {de : Nat} (E : rC_X D cI cZ cO ad gh RX11 cX11_shown 9 (some .int) p l s m args meth c)   : ∀ (n : Nat), ∀ (M : rv_Mem) (x2 : Int32) (x3 : Nat) (x4 : Nat) (x5 : Int32) (x6 : Int32) (x7 : Int32), rv_M (rC_G D cI cZ cO ad gh de) (rC_A ad gh s.heap.size) p l e rm11_shown s m args below meth c 0 0 (qx11_shown D cI cZ cO ad gh de below args s) (f11_shown_70 gh n M x2 x3 x4 x5 x6 x7) 70 [some (.ref (ad 0)), none, some (.int x2), some (.ref (ad x3)), some (.ref (ad x4)), some (.int x5), some (.int x6), some (.int x7), none] [] M := by
  intro n
  induction n with
  | zero => exact fun _ _ _ _ _ _ _ => rv_stuck
  | succ n ih => exact b11_shown_70_s E  (f11_shown_70 gh n) ih
set_option maxRecDepth 100000 in
theorem b11_shown {p : Program} {l : Launch} {e : Env} {s : State} {m : MethodId} {args : Array Value} {below : List Frame} {meth : Method} {c : Code} {D : va_G} {cI cZ cO : ClassId} {ad : Nat → Nat} {gh : rC_gh} {de : Nat} (E : rC_X D cI cZ cO ad gh RX11 cX11_shown 9 (some .int) p l s m args meth c) (M : rv_Mem) (a1 : Int32) (a2 : Int32) : rv_M (rC_G D cI cZ cO ad gh de) (rC_A ad gh s.heap.size) p l e rm11_shown s m args below meth c 0 0 (qx11_shown D cI cZ cO ad gh de below args s) (f11_shown gh M a1 a2) 0 [some (.ref (ad 0)), some (.int a1), some (.int a2), none, none, none, none, none, none] [] M := by
  unfold f11_shown
  refine rv_aload_n (q := 1) E.1.x dX11_shown_0 rfl rfl ?_
  refine rv_iload_n (q := 2) E.1.x dX11_shown_1 rfl rfl ?_
  refine rv_x2r (fun r2 e1 => ?_) (fun w3 e4 => rv_tr (fun _ => trivial))
  refine rC_xVrX11 (q := 5) E ⟨rfl, rfl⟩ (fun _ => c11_needComment E.2.1 E.1.2.2.1 e1) gX11_299 hX11_needComment ⟨rfl, rfl⟩ ⟨Nat.le_of_ble_eq_true rfl, Nat.le_of_ble_eq_true rfl⟩ ⟨Nat.le_of_ble_eq_true rfl, Nat.le_of_ble_eq_true rfl⟩ rfl rfl rfl (Nat.le_of_ble_eq_true rfl) dX11_shown_2 rfl ?_
  refine rv_g (fun g5 => ?_)
  refine rC_getX1 (q := 8) E.1 r2 3 wfX11_311 rfl (Nat.le_of_ble_eq_true rfl) (rC_at_of g5) rfl dX11_shown_5 rfl ?_
  refine rv_astore_n (q := 9) (lv' := [_, _, _, _, _, _, _, _, _]) E.1.x dX11_shown_8 (Nat.le_of_ble_eq_true rfl) rfl rfl rfl ?_
  refine rv_aload_n (q := 10) E.1.x dX11_shown_9 rfl rfl ?_
  refine rv_aload_n (q := 11) E.1.x dX11_shown_10 rfl rfl ?_
  refine rv_g (fun g6 => ?_)
  refine rC_getX7 (q := 14) E.1 (gh.2 r2) 0 wfX11_315 rfl (Nat.le_of_ble_eq_true rfl) (rC_at_of g6) rfl dX11_shown_11 rfl ?_
  refine rv_x2r (fun r8 e7 => ?_) (fun w9 e10 => rv_tr (fun _ => trivial))
  refine rC_xVrX11 (q := 17) E ⟨rfl, rfl⟩ (fun _ => c11_needChange E.2.1 E.1.2.2.1 e7) gX11_91 hX11_needChange ⟨rfl, rfl⟩ ⟨Nat.le_of_ble_eq_true rfl, Nat.le_of_ble_eq_true rfl⟩ ⟨Nat.le_of_ble_eq_true rfl, Nat.le_of_ble_eq_true rfl⟩ rfl rfl rfl (Nat.le_of_ble_eq_true rfl) dX11_shown_14 rfl ?_
  refine rv_astore (q := 19) (lv' := [_, _, _, _, _, _, _, _, _]) E.1.x dX11_shown_17 (Nat.le_of_ble_eq_true rfl) rfl rfl rfl ?_
  refine rv_aload (q := 21) E.1.x dX11_shown_19 rfl rfl ?_
  refine rv_iload_n (q := 22) E.1.x dX11_shown_21 rfl rfl ?_
  refine rv_x2r (fun r12 e11 => ?_) (fun w13 e14 => rv_tr (fun _ => trivial))
  refine rC_xSi (q := 25) E (fun _ => c11_needSet E.2.1 E.1.2.2.1 e11) gX11_95 hX11_needSet ⟨rfl, rfl⟩ ⟨Nat.le_of_ble_eq_true rfl, Nat.le_of_ble_eq_true rfl⟩ ⟨Nat.le_of_ble_eq_true rfl, Nat.le_of_ble_eq_true rfl⟩ rfl rfl rfl (Nat.le_of_ble_eq_true rfl) dX11_shown_22 rfl ?_
  refine rv_pop (q := 26) E.1.x dX11_shown_25 rfl rfl ?_
  refine rv_iload_n (q := 27) E.1.x dX11_shown_26 rfl rfl ?_
  refine rv_aload_n (q := 28) E.1.x dX11_shown_27 rfl rfl ?_
  refine rC_getX7 (q := 31) E.1 (gh.2 r2) 1 wfX11_333 rfl (Nat.le_of_ble_eq_true rfl) (rC_at_of g6) rfl dX11_shown_28 rfl ?_
  refine rv_icmp_ge (q := 34) (tgt := 36) E.1.x dX11_shown_31 (by decide) rfl ?_ ?_
  · refine rv_iconst (q := 35) E.1.x dX11_shown_34 rv_ki0 rfl ?_
    exact rC_xiret E rfl ⟨Nat.le_of_ble_eq_true rfl, Nat.le_of_ble_eq_true rfl⟩ dX11_shown_35
  · refine rv_aload (q := 38) E.1.x dX11_shown_36 rfl rfl ?_
    refine rv_aload_n (q := 39) E.1.x dX11_shown_38 rfl rfl ?_
    refine rC_getX7 (q := 42) E.1 (gh.2 r2) 1 wfX11_333 rfl (Nat.le_of_ble_eq_true rfl) (rC_at_of g6) rfl dX11_shown_39 rfl ?_
    refine rv_g (fun g15 => ?_)
    refine rv_b1 (fun r17 e16 => ?_)
    refine rC_calliX0 (q := 45) E.1 (rC_at_of g15) (c0_commitAt E.1.2.2.1 e16) gX11_336 hX0_commitAt ⟨rfl, rfl⟩ ⟨Nat.le_of_ble_eq_true rfl, Nat.le_of_ble_eq_true rfl⟩ ⟨Nat.le_of_ble_eq_true rfl, Nat.le_of_ble_eq_true rfl⟩ rfl rfl rfl (Nat.le_of_ble_eq_true rfl) dX11_shown_42 rfl ?_
    refine rv_istore (q := 47) (lv' := [_, _, _, _, _, _, _, _, _]) E.1.x dX11_shown_45 (Nat.le_of_ble_eq_true rfl) rfl rfl rfl ?_
    refine rv_iconst (q := 48) E.1.x dX11_shown_47 rv_ki1 rfl ?_
    refine rv_aload_n (q := 49) E.1.x dX11_shown_48 rfl rfl ?_
    refine rC_getX7 (q := 52) E.1 (gh.2 r2) 4 wfX11_339 rfl (Nat.le_of_ble_eq_true rfl) (rC_at_of g6) rfl dX11_shown_49 rfl ?_
    refine rv_ishl (q := 53) E.1.x dX11_shown_52 rfl ?_
    refine rv_iconst (q := 54) E.1.x dX11_shown_53 rv_ki1 rfl ?_
    refine rv_isub (q := 55) E.1.x dX11_shown_54 rfl ?_
    refine rv_aload_n (q := 56) E.1.x dX11_shown_55 rfl rfl ?_
    refine rC_getX7 (q := 59) E.1 (gh.2 r2) 3 wfX11_342 rfl (Nat.le_of_ble_eq_true rfl) (rC_at_of g6) rfl dX11_shown_56 rfl ?_
    refine rv_ishl (q := 60) E.1.x dX11_shown_59 rfl ?_
    refine rv_istore (q := 62) (lv' := [_, _, _, _, _, _, _, _, _]) E.1.x dX11_shown_60 (Nat.le_of_ble_eq_true rfl) rfl rfl rfl ?_
    refine rv_aload_n (q := 63) E.1.x dX11_shown_62 rfl rfl ?_
    refine rC_getX7 (q := 66) E.1 (gh.2 r2) 1 wfX11_333 rfl (Nat.le_of_ble_eq_true rfl) (rC_at_of g6) rfl dX11_shown_63 rfl ?_
    refine rv_iconst (q := 67) E.1.x dX11_shown_66 rv_ki1 rfl ?_
    refine rv_iadd (q := 68) E.1.x dX11_shown_67 rfl ?_
    refine rv_istore (q := 70) (lv' := [_, _, _, _, _, _, _, _, _]) E.1.x dX11_shown_68 (Nat.le_of_ble_eq_true rfl) rfl rfl rfl ?_
    refine rv_wk [true, false, true, true, true, true, true, true, false] ?_
    exact b11_shown_70 E rv_FU M a2 (gh.2 r2) r8 r17 ((((1 : Int32) <<< ((M (gh.2 r2) 4) &&& 31)) - 1) <<< ((M (gh.2 r2) 3) &&& 31)) ((M (gh.2 r2) 1) + 1)
theorem c11_shown {l : Launch} {D : va_G} {cI cZ cO : ClassId} {ad : Nat → Nat} {gh : rC_gh} {de : Nat} (hfl : l.stackTraces = false) (hI : rC_I ad gh) {sz : Nat} {M : rv_Mem} {a1 : Int32} {a2 : Int32} {r : Int32} {M1 : rv_Mem} (h : f11_shown gh M a1 a2 = some (.inl (r, M1))) : vx_Met l yX11_shown (rv_ws yX11_shown cX11_shown 9 (some .int)) rm11_shown (rC_Px D cI cZ cO ad gh de sz [.ref (ad 0), .int a1, .int a2] M) (rC_qi D cI cZ cO ad gh de (rC_A ad gh sz) r M1) (rC_fx (rC_A ad gh sz)) 0 0 (rC_A ad gh sz) := rC_xmet (Qc := fun A => rC_qi D cI cZ cO ad gh de A r M1) (XC := fun A => rC_fx A) hfl hI rfl (by decide) (Nat.le_of_ble_eq_true rfl) (fun p e s m args below meth c E => ⟨(qx11_shown D cI cZ cO ad gh de below args s), rfl, b11_shown E M a1 a2⟩) h
abbrev rmx11_shown : Room := { frames := 7, cells := 1, slots := 6, locals := 122 }
def qy11_shown (D : va_G) (cI cZ cO : ClassId) (ad : Nat → Nat) (gh : rC_gh) (de : Nat) (below : List Frame) (args : Array Value) (s : State) : (Int32 × rv_Mem) ⊕ (Nat × rv_Mem) → State → Prop := fun r => match r with
  | .inl _ => fun _ => True
  | .inr r => vx_MQ below (rC_fi (rC_A ad gh s.heap.size)) (rC_xc D cI cZ cO ad gh de (rC_A ad gh s.heap.size) r.1 r.2) args s 1 6 (rC_A ad gh s.heap.size)
set_option maxRecDepth 100000 in
theorem bx11_shown_130 {p : Program} {l : Launch} {e : Env} {s : State} {m : MethodId} {args : Array Value} {below : List Frame} {meth : Method} {c : Code} {D : va_G} {cI cZ cO : ClassId} {ad : Nat → Nat} {gh : rC_gh} {de : Nat} (E : rC_X D cI cZ cO ad gh RX11 cX11_shown 9 (some .int) p l s m args meth c) (k70 : rv_Mem → Int32 → Nat → Nat → Int32 → Int32 → Int32 → Option ((Int32 × rv_Mem) ⊕ (Nat × rv_Mem))) (h70 : ∀ (M : rv_Mem) (x2 : Int32) (x3 : Nat) (x4 : Nat) (x5 : Int32) (x6 : Int32) (x7 : Int32), rv_M (rC_G D cI cZ cO ad gh de) (rC_A ad gh s.heap.size) p l e rmx11_shown s m args below meth c 0 0 (qy11_shown D cI cZ cO ad gh de below args s) (k70 M x2 x3 x4 x5 x6 x7) 70 [some (.ref (ad 0)), none, some (.int x2), some (.ref (ad x3)), some (.ref (ad x4)), some (.int x5), some (.int x6), some (.int x7), none] [] M) : ∀ (M : rv_Mem) (x2 : Int32) (x3 : Nat) (x4 : Nat) (x5 : Int32) (x6 : Int32) (x7 : Int32), rv_M (rC_G D cI cZ cO ad gh de) (rC_A ad gh s.heap.size) p l e rmx11_shown s m args below meth c 0 0 (qy11_shown D cI cZ cO ad gh de below args s) (f11_shown_130 gh k70 M x2 x3 x4 x5 x6 x7) 130 [some (.ref (ad 0)), none, some (.int x2), some (.ref (ad x3)), some (.ref (ad x4)), some (.int x5), some (.int x6), some (.int x7), none] [] M := by
  intro M x2 x3 x4 x5 x6 x7
  unfold f11_shown_130
  refine rv_iinc (q := 133) (lv' := [_, _, _, _, _, _, _, _, _]) E.1.x dX11_shown_130 rv_ki1 rfl rfl rfl rfl ?_
  refine rv_goto (q := 70) E.1.x dX11_shown_133 (by decide) ?_
  refine rv_wk [true, false, true, true, true, true, true, true, false] ?_
  exact h70 M x2 x3 x4 x5 x6 (x7 + 1)
set_option maxRecDepth 100000 in
theorem bx11_shown_70_s {p : Program} {l : Launch} {e : Env} {s : State} {m : MethodId} {args : Array Value} {below : List Frame} {meth : Method} {c : Code} {D : va_G} {cI cZ cO : ClassId} {ad : Nat → Nat} {gh : rC_gh} {de : Nat} (E : rC_X D cI cZ cO ad gh RX11 cX11_shown 9 (some .int) p l s m args meth c)   (k70 : rv_Mem → Int32 → Nat → Nat → Int32 → Int32 → Int32 → Option ((Int32 × rv_Mem) ⊕ (Nat × rv_Mem))) (h70 : ∀ (M : rv_Mem) (x2 : Int32) (x3 : Nat) (x4 : Nat) (x5 : Int32) (x6 : Int32) (x7 : Int32), rv_M (rC_G D cI cZ cO ad gh de) (rC_A ad gh s.heap.size) p l e rmx11_shown s m args below meth c 0 0 (qy11_shown D cI cZ cO ad gh de below args s) (k70 M x2 x3 x4 x5 x6 x7) 70 [some (.ref (ad 0)), none, some (.int x2), some (.ref (ad x3)), some (.ref (ad x4)), some (.int x5), some (.int x6), some (.int x7), none] [] M) : ∀ (M : rv_Mem) (x2 : Int32) (x3 : Nat) (x4 : Nat) (x5 : Int32) (x6 : Int32) (x7 : Int32), rv_M (rC_G D cI cZ cO ad gh de) (rC_A ad gh s.heap.size) p l e rmx11_shown s m args below meth c 0 0 (qy11_shown D cI cZ cO ad gh de below args s) (f11_shown_70_s gh k70 M x2 x3 x4 x5 x6 x7) 70 [some (.ref (ad 0)), none, some (.int x2), some (.ref (ad x3)), some (.ref (ad x4)), some (.int x5), some (.int x6), some (.int x7), none] [] M := by
  intro M x2 x3 x4 x5 x6 x7
  unfold f11_shown_70_s
  refine rv_iload (q := 72) E.1.x dX11_shown_70 rfl rfl ?_
  refine rv_iload_n (q := 73) E.1.x dX11_shown_72 rfl rfl ?_
  refine rv_icmp_gt (q := 76) (tgt := 136) E.1.x dX11_shown_73 (by decide) rfl ?_ ?_
  · refine rv_aload (q := 78) E.1.x dX11_shown_76 rfl rfl ?_
    refine rv_iload (q := 80) E.1.x dX11_shown_78 rfl rfl ?_
    refine rv_g (fun g1 => ?_)
    refine rv_b1 (fun r3 e2 => ?_)
    refine rC_calliX0 (q := 83) E.1 (rC_at_of g1) (c0_commitAt E.1.2.2.1 e2) gX11_336 hX0_commitAt ⟨rfl, rfl⟩ ⟨Nat.le_of_ble_eq_true rfl, Nat.le_of_ble_eq_true rfl⟩ ⟨Nat.le_of_ble_eq_true rfl, Nat.le_of_ble_eq_true rfl⟩ rfl rfl rfl (Nat.le_of_ble_eq_true rfl) dX11_shown_80 rfl ?_
    refine rv_istore (q := 85) (lv' := [_, _, _, _, _, _, _, _, _]) E.1.x dX11_shown_83 (Nat.le_of_ble_eq_true rfl) rfl rfl rfl ?_
    refine rv_aload_n (q := 86) E.1.x dX11_shown_85 rfl rfl ?_
    refine rC_getX11 (q := 89) E.1 0 1 wfX11_21 rfl (Nat.le_of_ble_eq_true rfl) ⟨rfl, rfl⟩ rfl dX11_shown_86 rfl ?_
    refine rv_iload (q := 91) E.1.x dX11_shown_89 rfl rfl ?_
    refine rv_aload (q := 93) E.1.x dX11_shown_91 rfl rfl ?_
    refine rv_iload (q := 95) E.1.x dX11_shown_93 rfl rfl ?_
    refine rv_iconst (q := 96) E.1.x dX11_shown_95 rv_ki1 rfl ?_
    refine rv_isub (q := 97) E.1.x dX11_shown_96 rfl ?_
    refine rv_b1 (fun r5 e4 => ?_)
    refine rC_calliX0 (q := 100) E.1 (rC_at_of g1) (c0_commitAt E.1.2.2.1 e4) gX11_336 hX0_commitAt ⟨rfl, rfl⟩ ⟨Nat.le_of_ble_eq_true rfl, Nat.le_of_ble_eq_true rfl⟩ ⟨Nat.le_of_ble_eq_true rfl, Nat.le_of_ble_eq_true rfl⟩ rfl rfl rfl (Nat.le_of_ble_eq_true rfl) dX11_shown_97 rfl ?_
    refine rv_iload (q := 102) E.1.x dX11_shown_100 rfl rfl ?_
    refine rv_aload_n (q := 103) E.1.x dX11_shown_102 rfl rfl ?_
    refine rv_g (fun g6 => ?_)
    refine rC_getX7 (q := 106) E.1 x3 2 wfX11_345 rfl (Nat.le_of_ble_eq_true rfl) (rC_at_of g6) rfl dX11_shown_103 rfl ?_
    refine rv_b2 (fun r8 M9 e7 => ?_)
    refine rC_calliX2 (q := 109) E.1 ⟨rfl, rfl⟩ (c2_follow E.1.2.2.1 e7) gX11_348 hX2_follow ⟨rfl, rfl⟩ ⟨Nat.le_of_ble_eq_true rfl, Nat.le_of_ble_eq_true rfl⟩ ⟨Nat.le_of_ble_eq_true rfl, Nat.le_of_ble_eq_true rfl⟩ rfl rfl rfl (Nat.le_of_ble_eq_true rfl) dX11_shown_106 rfl ?_
    refine rv_istore (q := 111) (lv' := [_, _, _, _, _, _, _, _, _]) E.1.x dX11_shown_109 (Nat.le_of_ble_eq_true rfl) rfl rfl rfl ?_
    refine rv_iload (q := 113) E.1.x dX11_shown_111 rfl rfl ?_
    refine rv_if_ne (q := 116) (tgt := 130) E.1.x dX11_shown_113 (by decide) rfl ?_ ?_
    · refine rv_aload_n (q := 117) E.1.x dX11_shown_116 rfl rfl ?_
      refine rC_getX11 (q := 120) E.1 0 0 wfX11_10 rfl (Nat.le_of_ble_eq_true rfl) ⟨rfl, rfl⟩ rfl dX11_shown_117 rfl ?_
      refine rv_aload_n (q := 121) E.1.x dX11_shown_120 rfl rfl ?_
      refine rv_iload (q := 123) E.1.x dX11_shown_121 rfl rfl ?_
      refine rv_iload (q := 125) E.1.x dX11_shown_123 rfl rfl ?_
      refine rv_b1 (fun r11 e10 => ?_)
      refine rC_calliX9 (q := 128) E.1 ⟨rfl, rfl⟩ (c9_lookFor E.1.2.2.1 e10) gX11_352 hX9_lookFor ⟨rfl, rfl⟩ ⟨Nat.le_of_ble_eq_true rfl, Nat.le_of_ble_eq_true rfl⟩ ⟨Nat.le_of_ble_eq_true rfl, Nat.le_of_ble_eq_true rfl⟩ rfl rfl rfl (Nat.le_of_ble_eq_true rfl) dX11_shown_125 rfl ?_
      refine rv_istore (q := 130) (lv' := [_, _, _, _, _, _, _, _, _]) E.1.x dX11_shown_128 (Nat.le_of_ble_eq_true rfl) rfl rfl rfl ?_
      refine rv_wk [true, false, true, true, true, true, true, true, false] ?_
      exact bx11_shown_130 E k70 h70 M9 x2 x3 x4 x5 r11 x7
    · refine rv_wk [true, false, true, true, true, true, true, true, false] ?_
      exact bx11_shown_130 E k70 h70 M9 x2 x3 x4 x5 r8 x7
  · refine rv_iload (q := 138) E.1.x dX11_shown_136 rfl rfl ?_
    exact rv_tr (fun _ => trivial)
theorem bx11_shown_70 {p : Program} {l : Launch} {e : Env} {s : State} {m : MethodId} {args : Array Value} {below : List Frame} {meth : Method} {c : Code} {D : va_G} {cI cZ cO : ClassId} {ad : Nat → Nat} {gh : rC_gh} {de : Nat} (E : rC_X D cI cZ cO ad gh RX11 cX11_shown 9 (some .int) p l s m args meth c)   : ∀ (n : Nat), ∀ (M : rv_Mem) (x2 : Int32) (x3 : Nat) (x4 : Nat) (x5 : Int32) (x6 : Int32) (x7 : Int32), rv_M (rC_G D cI cZ cO ad gh de) (rC_A ad gh s.heap.size) p l e rmx11_shown s m args below meth c 0 0 (qy11_shown D cI cZ cO ad gh de below args s) (f11_shown_70 gh n M x2 x3 x4 x5 x6 x7) 70 [some (.ref (ad 0)), none, some (.int x2), some (.ref (ad x3)), some (.ref (ad x4)), some (.int x5), some (.int x6), some (.int x7), none] [] M := by
  intro n
  induction n with
  | zero => exact fun _ _ _ _ _ _ _ => rv_stuck
  | succ n ih => exact bx11_shown_70_s E  (f11_shown_70 gh n) ih
set_option maxRecDepth 100000 in
theorem bx11_shown {p : Program} {l : Launch} {e : Env} {s : State} {m : MethodId} {args : Array Value} {below : List Frame} {meth : Method} {c : Code} {D : va_G} {cI cZ cO : ClassId} {ad : Nat → Nat} {gh : rC_gh} {de : Nat} (E : rC_X D cI cZ cO ad gh RX11 cX11_shown 9 (some .int) p l s m args meth c) (M : rv_Mem) (a1 : Int32) (a2 : Int32) : rv_M (rC_G D cI cZ cO ad gh de) (rC_A ad gh s.heap.size) p l e rmx11_shown s m args below meth c 0 0 (qy11_shown D cI cZ cO ad gh de below args s) (f11_shown gh M a1 a2) 0 [some (.ref (ad 0)), some (.int a1), some (.int a2), none, none, none, none, none, none] [] M := by
  unfold f11_shown
  refine rv_aload_n (q := 1) E.1.x dX11_shown_0 rfl rfl ?_
  refine rv_iload_n (q := 2) E.1.x dX11_shown_1 rfl rfl ?_
  refine rv_x2r (fun r2 e1 => ?_) (fun w3 e4 => rC_yVrX11 E ⟨rfl, rfl⟩ (fun _ => c11_needComment_x E.2.1 E.1.2.2.1 e4) rfl gX11_299 hX11_needComment ⟨rfl, rfl⟩ ⟨Nat.le_of_ble_eq_true rfl, Nat.le_of_ble_eq_true rfl⟩ ⟨Nat.le_of_ble_eq_true rfl, Nat.le_of_ble_eq_true rfl⟩ rfl rfl rfl (Nat.le_of_ble_eq_true rfl) dX11_shown_2 ⟨Nat.le_of_ble_eq_true rfl, Nat.le_of_ble_eq_true rfl⟩)
  refine rC_xVrX11 (q := 5) E ⟨rfl, rfl⟩ (fun _ => c11_needComment E.2.1 E.1.2.2.1 e1) gX11_299 hX11_needComment ⟨rfl, rfl⟩ ⟨Nat.le_of_ble_eq_true rfl, Nat.le_of_ble_eq_true rfl⟩ ⟨Nat.le_of_ble_eq_true rfl, Nat.le_of_ble_eq_true rfl⟩ rfl rfl rfl (Nat.le_of_ble_eq_true rfl) dX11_shown_2 rfl ?_
  refine rv_g (fun g5 => ?_)
  refine rC_getX1 (q := 8) E.1 r2 3 wfX11_311 rfl (Nat.le_of_ble_eq_true rfl) (rC_at_of g5) rfl dX11_shown_5 rfl ?_
  refine rv_astore_n (q := 9) (lv' := [_, _, _, _, _, _, _, _, _]) E.1.x dX11_shown_8 (Nat.le_of_ble_eq_true rfl) rfl rfl rfl ?_
  refine rv_aload_n (q := 10) E.1.x dX11_shown_9 rfl rfl ?_
  refine rv_aload_n (q := 11) E.1.x dX11_shown_10 rfl rfl ?_
  refine rv_g (fun g6 => ?_)
  refine rC_getX7 (q := 14) E.1 (gh.2 r2) 0 wfX11_315 rfl (Nat.le_of_ble_eq_true rfl) (rC_at_of g6) rfl dX11_shown_11 rfl ?_
  refine rv_x2r (fun r8 e7 => ?_) (fun w9 e10 => rC_yVrX11 E ⟨rfl, rfl⟩ (fun _ => c11_needChange_x E.2.1 E.1.2.2.1 e10) rfl gX11_91 hX11_needChange ⟨rfl, rfl⟩ ⟨Nat.le_of_ble_eq_true rfl, Nat.le_of_ble_eq_true rfl⟩ ⟨Nat.le_of_ble_eq_true rfl, Nat.le_of_ble_eq_true rfl⟩ rfl rfl rfl (Nat.le_of_ble_eq_true rfl) dX11_shown_14 ⟨Nat.le_of_ble_eq_true rfl, Nat.le_of_ble_eq_true rfl⟩)
  refine rC_xVrX11 (q := 17) E ⟨rfl, rfl⟩ (fun _ => c11_needChange E.2.1 E.1.2.2.1 e7) gX11_91 hX11_needChange ⟨rfl, rfl⟩ ⟨Nat.le_of_ble_eq_true rfl, Nat.le_of_ble_eq_true rfl⟩ ⟨Nat.le_of_ble_eq_true rfl, Nat.le_of_ble_eq_true rfl⟩ rfl rfl rfl (Nat.le_of_ble_eq_true rfl) dX11_shown_14 rfl ?_
  refine rv_astore (q := 19) (lv' := [_, _, _, _, _, _, _, _, _]) E.1.x dX11_shown_17 (Nat.le_of_ble_eq_true rfl) rfl rfl rfl ?_
  refine rv_aload (q := 21) E.1.x dX11_shown_19 rfl rfl ?_
  refine rv_iload_n (q := 22) E.1.x dX11_shown_21 rfl rfl ?_
  refine rv_x2r (fun r12 e11 => ?_) (fun w13 e14 => rC_ySi E (fun _ => c11_needSet_x E.2.1 E.1.2.2.1 e14) rfl gX11_95 hX11_needSet ⟨rfl, rfl⟩ ⟨Nat.le_of_ble_eq_true rfl, Nat.le_of_ble_eq_true rfl⟩ ⟨Nat.le_of_ble_eq_true rfl, Nat.le_of_ble_eq_true rfl⟩ rfl rfl rfl (Nat.le_of_ble_eq_true rfl) dX11_shown_22 ⟨Nat.le_of_ble_eq_true rfl, Nat.le_of_ble_eq_true rfl⟩)
  refine rC_xSi (q := 25) E (fun _ => c11_needSet E.2.1 E.1.2.2.1 e11) gX11_95 hX11_needSet ⟨rfl, rfl⟩ ⟨Nat.le_of_ble_eq_true rfl, Nat.le_of_ble_eq_true rfl⟩ ⟨Nat.le_of_ble_eq_true rfl, Nat.le_of_ble_eq_true rfl⟩ rfl rfl rfl (Nat.le_of_ble_eq_true rfl) dX11_shown_22 rfl ?_
  refine rv_pop (q := 26) E.1.x dX11_shown_25 rfl rfl ?_
  refine rv_iload_n (q := 27) E.1.x dX11_shown_26 rfl rfl ?_
  refine rv_aload_n (q := 28) E.1.x dX11_shown_27 rfl rfl ?_
  refine rC_getX7 (q := 31) E.1 (gh.2 r2) 1 wfX11_333 rfl (Nat.le_of_ble_eq_true rfl) (rC_at_of g6) rfl dX11_shown_28 rfl ?_
  refine rv_icmp_ge (q := 34) (tgt := 36) E.1.x dX11_shown_31 (by decide) rfl ?_ ?_
  · refine rv_iconst (q := 35) E.1.x dX11_shown_34 rv_ki0 rfl ?_
    exact rv_tr (fun _ => trivial)
  · refine rv_aload (q := 38) E.1.x dX11_shown_36 rfl rfl ?_
    refine rv_aload_n (q := 39) E.1.x dX11_shown_38 rfl rfl ?_
    refine rC_getX7 (q := 42) E.1 (gh.2 r2) 1 wfX11_333 rfl (Nat.le_of_ble_eq_true rfl) (rC_at_of g6) rfl dX11_shown_39 rfl ?_
    refine rv_g (fun g15 => ?_)
    refine rv_b1 (fun r17 e16 => ?_)
    refine rC_calliX0 (q := 45) E.1 (rC_at_of g15) (c0_commitAt E.1.2.2.1 e16) gX11_336 hX0_commitAt ⟨rfl, rfl⟩ ⟨Nat.le_of_ble_eq_true rfl, Nat.le_of_ble_eq_true rfl⟩ ⟨Nat.le_of_ble_eq_true rfl, Nat.le_of_ble_eq_true rfl⟩ rfl rfl rfl (Nat.le_of_ble_eq_true rfl) dX11_shown_42 rfl ?_
    refine rv_istore (q := 47) (lv' := [_, _, _, _, _, _, _, _, _]) E.1.x dX11_shown_45 (Nat.le_of_ble_eq_true rfl) rfl rfl rfl ?_
    refine rv_iconst (q := 48) E.1.x dX11_shown_47 rv_ki1 rfl ?_
    refine rv_aload_n (q := 49) E.1.x dX11_shown_48 rfl rfl ?_
    refine rC_getX7 (q := 52) E.1 (gh.2 r2) 4 wfX11_339 rfl (Nat.le_of_ble_eq_true rfl) (rC_at_of g6) rfl dX11_shown_49 rfl ?_
    refine rv_ishl (q := 53) E.1.x dX11_shown_52 rfl ?_
    refine rv_iconst (q := 54) E.1.x dX11_shown_53 rv_ki1 rfl ?_
    refine rv_isub (q := 55) E.1.x dX11_shown_54 rfl ?_
    refine rv_aload_n (q := 56) E.1.x dX11_shown_55 rfl rfl ?_
    refine rC_getX7 (q := 59) E.1 (gh.2 r2) 3 wfX11_342 rfl (Nat.le_of_ble_eq_true rfl) (rC_at_of g6) rfl dX11_shown_56 rfl ?_
    refine rv_ishl (q := 60) E.1.x dX11_shown_59 rfl ?_
    refine rv_istore (q := 62) (lv' := [_, _, _, _, _, _, _, _, _]) E.1.x dX11_shown_60 (Nat.le_of_ble_eq_true rfl) rfl rfl rfl ?_
    refine rv_aload_n (q := 63) E.1.x dX11_shown_62 rfl rfl ?_
    refine rC_getX7 (q := 66) E.1 (gh.2 r2) 1 wfX11_333 rfl (Nat.le_of_ble_eq_true rfl) (rC_at_of g6) rfl dX11_shown_63 rfl ?_
    refine rv_iconst (q := 67) E.1.x dX11_shown_66 rv_ki1 rfl ?_
    refine rv_iadd (q := 68) E.1.x dX11_shown_67 rfl ?_
    refine rv_istore (q := 70) (lv' := [_, _, _, _, _, _, _, _, _]) E.1.x dX11_shown_68 (Nat.le_of_ble_eq_true rfl) rfl rfl rfl ?_
    refine rv_wk [true, false, true, true, true, true, true, true, false] ?_
    exact bx11_shown_70 E rv_FU M a2 (gh.2 r2) r8 r17 ((((1 : Int32) <<< ((M (gh.2 r2) 4) &&& 31)) - 1) <<< ((M (gh.2 r2) 3) &&& 31)) ((M (gh.2 r2) 1) + 1)
theorem c11_shown_x {l : Launch} {D : va_G} {cI cZ cO : ClassId} {ad : Nat → Nat} {gh : rC_gh} {de : Nat} (hfl : l.stackTraces = false) (hI : rC_I ad gh) {sz : Nat} {M : rv_Mem} {a1 : Int32} {a2 : Int32} {x : Nat} {M1 : rv_Mem} (h : f11_shown gh M a1 a2 = some (.inr (x, M1))) : vx_Met l yX11_shown (rv_ws yX11_shown cX11_shown 9 (some .int)) rmx11_shown (rC_Px D cI cZ cO ad gh de sz [.ref (ad 0), .int a1, .int a2] M) (rC_fi (rC_A ad gh sz)) (rC_xc D cI cZ cO ad gh de (rC_A ad gh sz) x M1) 1 6 (rC_A ad gh sz) := rC_xmet (Qc := fun A => rC_fi A) (XC := fun A => rC_xc D cI cZ cO ad gh de A x M1) hfl hI rfl (by decide) (Nat.le_of_ble_eq_true rfl) (fun p e s m args below meth c E => ⟨(qy11_shown D cI cZ cO ad gh de below args s), rfl, bx11_shown E M a1 a2⟩) h
abbrev rm11_isThreadUnresolved : Room := { frames := 4, cells := 0, slots := 0, locals := 101 }
set_option maxRecDepth 100000 in
theorem b11_isThreadUnresolved_51 {p : Program} {l : Launch} {e : Env} {s : State} {m : MethodId} {args : Array Value} {below : List Frame} {meth : Method} {c : Code} {D : va_G} {cI cZ cO : ClassId} {ad : Nat → Nat} {gh : rC_gh} {de : Nat} (E : rC_E D cI cZ cO ad gh (rC_K ad gh) RX11 cX11_isThreadUnresolved 5 (some .boolean) p s m args meth c) (M : rv_Mem) (k4 : Int32 → Bool → Int32 → Option (Bool)) (h4 : ∀ (x1 : Int32) (x2 : Bool) (x3 : Int32), rv_M (rC_G D cI cZ cO ad gh de) (rC_K ad gh) p l e rm11_isThreadUnresolved s m args below meth c 0 0 (rC_qZ D cI cZ cO ad gh de below args s M) (k4 x1 x2 x3) 4 [some (.ref (ad 0)), some (.int x1), some (.int (rv_i x2)), some (.int x3), none] [] M) : ∀ (x1 : Int32) (x2 : Bool) (x3 : Int32), rv_M (rC_G D cI cZ cO ad gh de) (rC_K ad gh) p l e rm11_isThreadUnresolved s m args below meth c 0 0 (rC_qZ D cI cZ cO ad gh de below args s M) (f11_isThreadUnresolved_51 gh M k4 x1 x2 x3) 51 [some (.ref (ad 0)), some (.int x1), some (.int (rv_i x2)), some (.int x3), none] [] M := by
  intro x1 x2 x3
  unfold f11_isThreadUnresolved_51
  refine rv_iinc (q := 54) (lv' := [_, _, _, _, _]) E.x dX11_isThreadUnresolved_51 rv_ki1 rfl rfl rfl rfl ?_
  refine rv_goto (q := 4) E.x dX11_isThreadUnresolved_54 (by decide) ?_
  refine rv_wk [true, true, true, true, false] ?_
  exact h4 x1 x2 (x3 + 1)
set_option maxRecDepth 100000 in
theorem b11_isThreadUnresolved_4_s {p : Program} {l : Launch} {e : Env} {s : State} {m : MethodId} {args : Array Value} {below : List Frame} {meth : Method} {c : Code} {D : va_G} {cI cZ cO : ClassId} {ad : Nat → Nat} {gh : rC_gh} {de : Nat} (E : rC_E D cI cZ cO ad gh (rC_K ad gh) RX11 cX11_isThreadUnresolved 5 (some .boolean) p s m args meth c) (M : rv_Mem)   (k4 : Int32 → Bool → Int32 → Option (Bool)) (h4 : ∀ (x1 : Int32) (x2 : Bool) (x3 : Int32), rv_M (rC_G D cI cZ cO ad gh de) (rC_K ad gh) p l e rm11_isThreadUnresolved s m args below meth c 0 0 (rC_qZ D cI cZ cO ad gh de below args s M) (k4 x1 x2 x3) 4 [some (.ref (ad 0)), some (.int x1), some (.int (rv_i x2)), some (.int x3), none] [] M) : ∀ (x1 : Int32) (x2 : Bool) (x3 : Int32), rv_M (rC_G D cI cZ cO ad gh de) (rC_K ad gh) p l e rm11_isThreadUnresolved s m args below meth c 0 0 (rC_qZ D cI cZ cO ad gh de below args s M) (f11_isThreadUnresolved_4_s gh M k4 x1 x2 x3) 4 [some (.ref (ad 0)), some (.int x1), some (.int (rv_i x2)), some (.int x3), none] [] M := by
  intro x1 x2 x3
  unfold f11_isThreadUnresolved_4_s
  refine rv_iload_n (q := 5) E.x dX11_isThreadUnresolved_4 rfl rfl ?_
  refine rv_aload_n (q := 6) E.x dX11_isThreadUnresolved_5 rfl rfl ?_
  refine rC_getX11 (q := 9) E 0 6 wfX11_53 rfl (Nat.le_of_ble_eq_true rfl) ⟨rfl, rfl⟩ rfl dX11_isThreadUnresolved_6 rfl ?_
  refine rC_lsz (q := 12) E 1 (by decide) (cJ_size E.2.2.1 1) gX11_155 ⟨Nat.le_of_ble_eq_true rfl, Nat.le_of_ble_eq_true rfl⟩ ⟨Nat.le_of_ble_eq_true rfl, Nat.le_of_ble_eq_true rfl⟩ rfl (Nat.le_of_ble_eq_true rfl) dX11_isThreadUnresolved_9 rfl ?_
  refine rv_icmp_ge (q := 15) (tgt := 57) E.x dX11_isThreadUnresolved_12 (by decide) rfl ?_ ?_
  · refine rv_aload_n (q := 16) E.x dX11_isThreadUnresolved_15 rfl rfl ?_
    refine rC_getX11 (q := 19) E 0 6 wfX11_53 rfl (Nat.le_of_ble_eq_true rfl) ⟨rfl, rfl⟩ rfl dX11_isThreadUnresolved_16 rfl ?_
    refine rv_iload_n (q := 20) E.x dX11_isThreadUnresolved_19 rfl rfl ?_
    refine rC_lgt (q := 23) E 1 (by decide) (cJ_get E.2.2.1 1) ⟨rfl, rfl⟩ gX11_223 ⟨Nat.le_of_ble_eq_true rfl, Nat.le_of_ble_eq_true rfl⟩ ⟨Nat.le_of_ble_eq_true rfl, Nat.le_of_ble_eq_true rfl⟩ rfl (Nat.le_of_ble_eq_true rfl) dX11_isThreadUnresolved_20 rfl ?_
    refine rv_g (fun g1 => ?_)
    refine rC_cstX1 (q := 26) E (rC_at_of g1) wxX11_289 dX11_isThreadUnresolved_23 rfl ?_
    refine rv_astore (q := 28) (lv' := [_, _, _, _, _]) E.x dX11_isThreadUnresolved_26 (Nat.le_of_ble_eq_true rfl) rfl rfl rfl ?_
    refine rv_aload (q := 30) E.x dX11_isThreadUnresolved_28 rfl rfl ?_
    refine rC_getX1 (q := 33) E (200 + (x3).toNatClampNeg) 1 wfX11_306 rfl (Nat.le_of_ble_eq_true rfl) (rC_at_of g1) rfl dX11_isThreadUnresolved_30 rfl ?_
    refine rv_iload_n (q := 34) E.x dX11_isThreadUnresolved_33 rfl rfl ?_
    refine rv_icmp_ne (q := 37) (tgt := 51) E.x dX11_isThreadUnresolved_34 (by decide) rfl ?_ ?_
    · refine rv_aload (q := 39) E.x dX11_isThreadUnresolved_37 rfl rfl ?_
      refine rC_getX1 (q := 42) E (200 + (x3).toNatClampNeg) 4 wfX11_303 rfl (Nat.le_of_ble_eq_true rfl) (rC_at_of g1) rfl dX11_isThreadUnresolved_39 rfl ?_
      refine rv_ifz_eq (q := 45) (tgt := 51) E.x dX11_isThreadUnresolved_42 (by decide) rfl ?_ ?_
      · refine rv_aload (q := 47) E.x dX11_isThreadUnresolved_45 rfl rfl ?_
        refine rC_getX1 (q := 50) E (200 + (x3).toNatClampNeg) 2 wfX11_539 rfl (Nat.le_of_ble_eq_true rfl) (rC_at_of g1) rfl dX11_isThreadUnresolved_47 rfl ?_
        refine rv_istore_n (q := 51) (lv' := [_, _, _, _, _]) E.x dX11_isThreadUnresolved_50 (Nat.le_of_ble_eq_true rfl) rfl rfl rfl ?_
        refine rv_wk [true, true, true, true, false] ?_
        exact b11_isThreadUnresolved_51 E M k4 h4 x1 (rv_z (M (200 + (x3).toNatClampNeg) 2)) x3
      · refine rv_wk [true, true, true, true, false] ?_
        exact b11_isThreadUnresolved_51 E M k4 h4 x1 x2 x3
    · refine rv_wk [true, true, true, true, false] ?_
      exact b11_isThreadUnresolved_51 E M k4 h4 x1 x2 x3
  · refine rv_iload_n (q := 58) E.x dX11_isThreadUnresolved_57 rfl rfl ?_
    exact rC_zret E x2 rfl dX11_isThreadUnresolved_58
theorem b11_isThreadUnresolved_4 {p : Program} {l : Launch} {e : Env} {s : State} {m : MethodId} {args : Array Value} {below : List Frame} {meth : Method} {c : Code} {D : va_G} {cI cZ cO : ClassId} {ad : Nat → Nat} {gh : rC_gh} {de : Nat} (E : rC_E D cI cZ cO ad gh (rC_K ad gh) RX11 cX11_isThreadUnresolved 5 (some .boolean) p s m args meth c) (M : rv_Mem)   : ∀ (n : Nat), ∀ (x1 : Int32) (x2 : Bool) (x3 : Int32), rv_M (rC_G D cI cZ cO ad gh de) (rC_K ad gh) p l e rm11_isThreadUnresolved s m args below meth c 0 0 (rC_qZ D cI cZ cO ad gh de below args s M) (f11_isThreadUnresolved_4 gh M n x1 x2 x3) 4 [some (.ref (ad 0)), some (.int x1), some (.int (rv_i x2)), some (.int x3), none] [] M := by
  intro n
  induction n with
  | zero => exact fun _ _ _ => rv_stuck
  | succ n ih => exact b11_isThreadUnresolved_4_s E M (f11_isThreadUnresolved_4 gh M n) ih
set_option maxRecDepth 100000 in
theorem b11_isThreadUnresolved {p : Program} {l : Launch} {e : Env} {s : State} {m : MethodId} {args : Array Value} {below : List Frame} {meth : Method} {c : Code} {D : va_G} {cI cZ cO : ClassId} {ad : Nat → Nat} {gh : rC_gh} {de : Nat} (E : rC_E D cI cZ cO ad gh (rC_K ad gh) RX11 cX11_isThreadUnresolved 5 (some .boolean) p s m args meth c) (M : rv_Mem) (a1 : Int32) : rv_M (rC_G D cI cZ cO ad gh de) (rC_K ad gh) p l e rm11_isThreadUnresolved s m args below meth c 0 0 (rC_qZ D cI cZ cO ad gh de below args s M) (f11_isThreadUnresolved gh M a1) 0 [some (.ref (ad 0)), some (.int a1), none, none, none] [] M := by
  unfold f11_isThreadUnresolved
  refine rv_iconst (q := 1) E.x dX11_isThreadUnresolved_0 rv_ki0 rfl ?_
  refine rv_istore_n (q := 2) (lv' := [_, _, _, _, _]) E.x dX11_isThreadUnresolved_1 (Nat.le_of_ble_eq_true rfl) rfl rfl rfl ?_
  refine rv_iload_n (q := 3) E.x dX11_isThreadUnresolved_2 rfl rfl ?_
  refine rv_istore_n (q := 4) (lv' := [_, _, _, _, _]) E.x dX11_isThreadUnresolved_3 (Nat.le_of_ble_eq_true rfl) rfl rfl rfl ?_
  refine rv_wk [true, true, true, true, false] ?_
  exact b11_isThreadUnresolved_4 E M rv_FU a1 false a1
theorem c11_isThreadUnresolved {l : Launch} {D : va_G} {cI cZ cO : ClassId} {ad : Nat → Nat} {gh : rC_gh} {de : Nat} (hI : rC_I ad gh) {M : rv_Mem} {a1 : Int32} {r : Bool} (h : f11_isThreadUnresolved gh M a1 = some r) : Met l yX11_isThreadUnresolved (rv_ws yX11_isThreadUnresolved cX11_isThreadUnresolved 5 (some .boolean)) rm11_isThreadUnresolved (rC_Pc D cI cZ cO ad gh de [.ref (ad 0), .int a1] M) (rC_QI D cI cZ cO ad gh de (rv_i r) M) 0 0 (rC_K ad gh) := rC_met hI rfl (by decide) (Nat.le_of_ble_eq_true rfl) (fun p e s m args below meth c E => ⟨(rC_qZ D cI cZ cO ad gh de below args s M), rfl, b11_isThreadUnresolved E M a1⟩) h
