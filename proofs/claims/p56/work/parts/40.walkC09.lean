abbrev rmx11_addReviewer : Room := { frames := 7, cells := 1, slots := 6, locals := 122 }
def qy11_addReviewer (D : va_G) (cI cZ cO : ClassId) (ad : Nat → Nat) (gh : rC_gh) (de : Nat) (below : List Frame) (args : Array Value) (s : State) : (Bool × rv_Mem) ⊕ (Nat × rv_Mem) → State → Prop := fun r => match r with
  | .inl _ => fun _ => True
  | .inr r => vx_MQ below (rC_fi (rC_A ad gh s.heap.size)) (rC_xc D cI cZ cO ad gh de (rC_A ad gh s.heap.size) r.1 r.2) args s 1 6 (rC_A ad gh s.heap.size)
set_option maxRecDepth 100000 in
theorem bx11_addReviewer_52 {p : Program} {l : Launch} {e : Env} {s : State} {m : MethodId} {args : Array Value} {below : List Frame} {meth : Method} {c : Code} {D : va_G} {cI cZ cO : ClassId} {ad : Nat → Nat} {gh : rC_gh} {de : Nat} (E : rC_X D cI cZ cO ad gh RX11 cX11_addReviewer 5 (some .boolean) p l s m args meth c)   : ∀ (M : rv_Mem) (x1 : Int32) (x3 : Nat) (s0 : Bool), rv_M (rC_G D cI cZ cO ad gh de) (rC_A ad gh s.heap.size) p l e rmx11_addReviewer s m args below meth c 0 0 (qy11_addReviewer D cI cZ cO ad gh de below args s) (f11_addReviewer_52 gh M x1 x3 s0) 52 [none, some (.int x1), none, some (.ref (ad x3)), none] [.int (rv_i s0)] M := by
  intro M x1 x3 s0
  unfold f11_addReviewer_52
  refine rv_istore (q := 54) (lv' := [_, _, _, _, _]) E.1.x dX11_addReviewer_52 (Nat.le_of_ble_eq_true rfl) rfl rfl rfl ?_
  refine rv_aload_n (q := 55) E.1.x dX11_addReviewer_54 rfl rfl ?_
  refine rv_dup (q := 56) E.1.x dX11_addReviewer_55 rfl rfl ?_
  refine rv_g (fun g1 => ?_)
  refine rC_getX0 (q := 59) E.1 x3 9 wfX11_253 rfl (Nat.le_of_ble_eq_true rfl) (rC_at_of g1) rfl dX11_addReviewer_56 rfl ?_
  refine rv_iconst (q := 60) E.1.x dX11_addReviewer_59 rv_ki1 rfl ?_
  refine rv_iload_n (q := 61) E.1.x dX11_addReviewer_60 rfl rfl ?_
  refine rv_ishl (q := 62) E.1.x dX11_addReviewer_61 rfl ?_
  refine rv_ior (q := 63) E.1.x dX11_addReviewer_62 rfl ?_
  refine rC_putX0 (q := 66) E.1 x3 9 wfX11_253 rfl (Nat.le_of_ble_eq_true rfl) (rC_at_of g1) rfl ⟨rfl, rfl⟩ dX11_addReviewer_63 rfl ?_
  refine rv_ltm (fun M2 => ?_)
  refine rv_aload_n (q := 67) E.1.x dX11_addReviewer_66 rfl rfl ?_
  refine rv_iconst (q := 68) E.1.x dX11_addReviewer_67 rv_ki1 rfl ?_
  refine rv_iload_n (q := 69) E.1.x dX11_addReviewer_68 rfl rfl ?_
  refine rv_ishl (q := 70) E.1.x dX11_addReviewer_69 rfl ?_
  refine rv_b1 (fun M4 e3 => ?_)
  refine rC_callvX0 (q := 73) E.1 (rC_at_of g1) (c0_giveTurns E.1.2.2.1 e3) gX11_478 hX0_giveTurns ⟨rfl, rfl⟩ ⟨Nat.le_of_ble_eq_true rfl, Nat.le_of_ble_eq_true rfl⟩ ⟨Nat.le_of_ble_eq_true rfl, Nat.le_of_ble_eq_true rfl⟩ rfl rfl rfl (Nat.le_of_ble_eq_true rfl) dX11_addReviewer_70 rfl ?_
  refine rv_iload (q := 75) E.1.x dX11_addReviewer_73 rfl rfl ?_
  exact rv_tr (fun _ => trivial)
set_option maxRecDepth 100000 in
theorem bx11_addReviewer {p : Program} {l : Launch} {e : Env} {s : State} {m : MethodId} {args : Array Value} {below : List Frame} {meth : Method} {c : Code} {D : va_G} {cI cZ cO : ClassId} {ad : Nat → Nat} {gh : rC_gh} {de : Nat} (E : rC_X D cI cZ cO ad gh RX11 cX11_addReviewer 5 (some .boolean) p l s m args meth c) (M : rv_Mem) (a1 : Int32) (a2 : Int32) : rv_M (rC_G D cI cZ cO ad gh de) (rC_A ad gh s.heap.size) p l e rmx11_addReviewer s m args below meth c 0 0 (qy11_addReviewer D cI cZ cO ad gh de below args s) (f11_addReviewer gh M a1 a2) 0 [some (.ref (ad 0)), some (.int a1), some (.int a2), none, none] [] M := by
  unfold f11_addReviewer
  refine rv_iload_n (q := 1) E.1.x dX11_addReviewer_0 rfl rfl ?_
  refine rv_x2r (fun r2 e1 => ?_) (fun w3 e4 => rC_ySv E (fun _ => c11_needPerson_x E.2.1 E.1.2.2.1 e4) rfl gX11_152 hX11_needPerson ⟨rfl, rfl⟩ ⟨Nat.le_of_ble_eq_true rfl, Nat.le_of_ble_eq_true rfl⟩ ⟨Nat.le_of_ble_eq_true rfl, Nat.le_of_ble_eq_true rfl⟩ rfl rfl rfl (Nat.le_of_ble_eq_true rfl) dX11_addReviewer_1 ⟨Nat.le_of_ble_eq_true rfl, Nat.le_of_ble_eq_true rfl⟩)
  refine rC_xSv (q := 4) E (fun _ => c11_needPerson E.2.1 E.1.2.2.1 e1) gX11_152 hX11_needPerson ⟨rfl, rfl⟩ ⟨Nat.le_of_ble_eq_true rfl, Nat.le_of_ble_eq_true rfl⟩ ⟨Nat.le_of_ble_eq_true rfl, Nat.le_of_ble_eq_true rfl⟩ rfl rfl rfl (Nat.le_of_ble_eq_true rfl) dX11_addReviewer_1 rfl ?_
  refine rv_aload_n (q := 5) E.1.x dX11_addReviewer_4 rfl rfl ?_
  refine rv_iload_n (q := 6) E.1.x dX11_addReviewer_5 rfl rfl ?_
  refine rv_x2r (fun r6 e5 => ?_) (fun w7 e8 => rC_yVrX11 E ⟨rfl, rfl⟩ (fun _ => c11_needChange_x E.2.1 E.1.2.2.1 e8) rfl gX11_91 hX11_needChange ⟨rfl, rfl⟩ ⟨Nat.le_of_ble_eq_true rfl, Nat.le_of_ble_eq_true rfl⟩ ⟨Nat.le_of_ble_eq_true rfl, Nat.le_of_ble_eq_true rfl⟩ rfl rfl rfl (Nat.le_of_ble_eq_true rfl) dX11_addReviewer_6 ⟨Nat.le_of_ble_eq_true rfl, Nat.le_of_ble_eq_true rfl⟩)
  refine rC_xVrX11 (q := 9) E ⟨rfl, rfl⟩ (fun _ => c11_needChange E.2.1 E.1.2.2.1 e5) gX11_91 hX11_needChange ⟨rfl, rfl⟩ ⟨Nat.le_of_ble_eq_true rfl, Nat.le_of_ble_eq_true rfl⟩ ⟨Nat.le_of_ble_eq_true rfl, Nat.le_of_ble_eq_true rfl⟩ rfl rfl rfl (Nat.le_of_ble_eq_true rfl) dX11_addReviewer_6 rfl ?_
  refine rv_astore_n (q := 10) (lv' := [_, _, _, _, _]) E.1.x dX11_addReviewer_9 (Nat.le_of_ble_eq_true rfl) rfl rfl rfl ?_
  refine rv_aload_n (q := 11) E.1.x dX11_addReviewer_10 rfl rfl ?_
  refine rv_g (fun g9 => ?_)
  refine rC_getX0 (q := 14) E.1 r6 5 wfX11_227 rfl (Nat.le_of_ble_eq_true rfl) (rC_at_of g9) rfl dX11_addReviewer_11 rfl ?_
  refine rv_if_ne (q := 17) (tgt := 25) E.1.x dX11_addReviewer_14 (by decide) rfl ?_ ?_
  · refine rv_aload_n (q := 18) E.1.x dX11_addReviewer_17 rfl rfl ?_
    refine rC_getX0 (q := 21) E.1 r6 1 wfX11_473 rfl (Nat.le_of_ble_eq_true rfl) (rC_at_of g9) rfl dX11_addReviewer_18 rfl ?_
    refine rv_iload_n (q := 22) E.1.x dX11_addReviewer_21 rfl rfl ?_
    refine rv_icmp_ne (q := 25) (tgt := 36) E.1.x dX11_addReviewer_22 (by decide) rfl ?_ ?_
    · exact rC_throwW (x := 3) E rfl (by decide +kernel) rC_xk3 rC_xi3 rC_xg3 rC_xn3 rC_xo3 E.2.2.2.2.2.2.2.2.1 (is := 476) (text := "no reviewer can be added") (by decide +kernel) rfl rfl dX11_addReviewer_25 dX11_addReviewer_28 dX11_addReviewer_29 dX11_addReviewer_32 dX11_addReviewer_35 (Nat.le_of_ble_eq_true rfl) (Nat.le_of_ble_eq_true rfl) ⟨Nat.le_of_ble_eq_true rfl, Nat.le_of_ble_eq_true rfl⟩ ⟨Nat.le_of_ble_eq_true rfl, Nat.le_of_ble_eq_true rfl⟩
    · refine rv_aload_n (q := 37) E.1.x dX11_addReviewer_36 rfl rfl ?_
      refine rC_getX0 (q := 40) E.1 r6 9 wfX11_253 rfl (Nat.le_of_ble_eq_true rfl) (rC_at_of g9) rfl dX11_addReviewer_37 rfl ?_
      refine rv_iload_n (q := 41) E.1.x dX11_addReviewer_40 rfl rfl ?_
      refine rv_b1 (fun r11 e10 => ?_)
      refine rC_calls (q := 44) E.1 (c11_isIn e10) gX11_463 hX11_isIn ⟨rfl, rfl⟩ ⟨Nat.le_of_ble_eq_true rfl, Nat.le_of_ble_eq_true rfl⟩ ⟨Nat.le_of_ble_eq_true rfl, Nat.le_of_ble_eq_true rfl⟩ rfl rfl rfl (Nat.le_of_ble_eq_true rfl) dX11_addReviewer_41 rfl ?_
      refine rv_ifz_ne (q := 47) (tgt := 51) E.1.x dX11_addReviewer_44 (by decide) rfl ?_ ?_
      · refine rv_iconst (q := 48) E.1.x dX11_addReviewer_47 rv_ki1 rfl ?_
        refine rv_goto (q := 52) E.1.x dX11_addReviewer_48 (by decide) ?_
        refine rv_wk [false, true, false, true, false] ?_
        exact bx11_addReviewer_52 E M a1 r6 true
      · refine rv_iconst (q := 52) E.1.x dX11_addReviewer_51 rv_ki0 rfl ?_
        refine rv_wk [false, true, false, true, false] ?_
        exact bx11_addReviewer_52 E M a1 r6 false
  · exact rC_throwW (x := 3) E rfl (by decide +kernel) rC_xk3 rC_xi3 rC_xg3 rC_xn3 rC_xo3 E.2.2.2.2.2.2.2.2.1 (is := 476) (text := "no reviewer can be added") (by decide +kernel) rfl rfl dX11_addReviewer_25 dX11_addReviewer_28 dX11_addReviewer_29 dX11_addReviewer_32 dX11_addReviewer_35 (Nat.le_of_ble_eq_true rfl) (Nat.le_of_ble_eq_true rfl) ⟨Nat.le_of_ble_eq_true rfl, Nat.le_of_ble_eq_true rfl⟩ ⟨Nat.le_of_ble_eq_true rfl, Nat.le_of_ble_eq_true rfl⟩
theorem c11_addReviewer_x {l : Launch} {D : va_G} {cI cZ cO : ClassId} {ad : Nat → Nat} {gh : rC_gh} {de : Nat} (hfl : l.stackTraces = false) (hI : rC_I ad gh) {sz : Nat} {M : rv_Mem} {a1 : Int32} {a2 : Int32} {x : Nat} {M1 : rv_Mem} (h : f11_addReviewer gh M a1 a2 = some (.inr (x, M1))) : vx_Met l yX11_addReviewer (rv_ws yX11_addReviewer cX11_addReviewer 5 (some .boolean)) rmx11_addReviewer (rC_Px D cI cZ cO ad gh de sz [.ref (ad 0), .int a1, .int a2] M) (rC_fi (rC_A ad gh sz)) (rC_xc D cI cZ cO ad gh de (rC_A ad gh sz) x M1) 1 6 (rC_A ad gh sz) := rC_xmet (Qc := fun A => rC_fi A) (XC := fun A => rC_xc D cI cZ cO ad gh de A x M1) hfl hI rfl (by decide) (Nat.le_of_ble_eq_true rfl) (fun p e s m args below meth c E => ⟨(qy11_addReviewer D cI cZ cO ad gh de below args s), rfl, bx11_addReviewer E M a1 a2⟩) h
abbrev rm11_reviewers : Room := { frames := 7, cells := 0, slots := 0, locals := 122 }
def qx11_reviewers (D : va_G) (cI cZ cO : ClassId) (ad : Nat → Nat) (gh : rC_gh) (de : Nat) (below : List Frame) (args : Array Value) (s : State) (M : rv_Mem) : Int32 ⊕ Nat → State → Prop := fun r => match r with
  | .inl r => vx_MQ below (rC_qi D cI cZ cO ad gh de (rC_A ad gh s.heap.size) r M) (rC_fx (rC_A ad gh s.heap.size)) args s 0 0 (rC_A ad gh s.heap.size)
  | .inr _ => fun _ => True
set_option maxRecDepth 100000 in
theorem b11_reviewers {p : Program} {l : Launch} {e : Env} {s : State} {m : MethodId} {args : Array Value} {below : List Frame} {meth : Method} {c : Code} {D : va_G} {cI cZ cO : ClassId} {ad : Nat → Nat} {gh : rC_gh} {de : Nat} (E : rC_X D cI cZ cO ad gh RX11 cX11_reviewers 2 (some .int) p l s m args meth c) (M : rv_Mem) (a1 : Int32) : rv_M (rC_G D cI cZ cO ad gh de) (rC_A ad gh s.heap.size) p l e rm11_reviewers s m args below meth c 0 0 (qx11_reviewers D cI cZ cO ad gh de below args s M) (f11_reviewers gh M a1) 0 [some (.ref (ad 0)), some (.int a1)] [] M := by
  unfold f11_reviewers
  refine rv_aload_n (q := 1) E.1.x dX11_reviewers_0 rfl rfl ?_
  refine rv_iload_n (q := 2) E.1.x dX11_reviewers_1 rfl rfl ?_
  refine rv_x1r (fun r2 e1 => ?_) (fun w3 e4 => rv_tr (fun _ => trivial))
  refine rC_xVrX11 (q := 5) E ⟨rfl, rfl⟩ (fun _ => c11_needChange E.2.1 E.1.2.2.1 e1) gX11_91 hX11_needChange ⟨rfl, rfl⟩ ⟨Nat.le_of_ble_eq_true rfl, Nat.le_of_ble_eq_true rfl⟩ ⟨Nat.le_of_ble_eq_true rfl, Nat.le_of_ble_eq_true rfl⟩ rfl rfl rfl (Nat.le_of_ble_eq_true rfl) dX11_reviewers_2 rfl ?_
  refine rv_g (fun g5 => ?_)
  refine rC_getX0 (q := 8) E.1 r2 9 wfX11_253 rfl (Nat.le_of_ble_eq_true rfl) (rC_at_of g5) rfl dX11_reviewers_5 rfl ?_
  exact rC_xiret E rfl ⟨Nat.le_of_ble_eq_true rfl, Nat.le_of_ble_eq_true rfl⟩ dX11_reviewers_8
theorem c11_reviewers {l : Launch} {D : va_G} {cI cZ cO : ClassId} {ad : Nat → Nat} {gh : rC_gh} {de : Nat} (hfl : l.stackTraces = false) (hI : rC_I ad gh) {sz : Nat} {M : rv_Mem} {a1 : Int32} {r : Int32} (h : f11_reviewers gh M a1 = some (.inl r)) : vx_Met l yX11_reviewers (rv_ws yX11_reviewers cX11_reviewers 2 (some .int)) rm11_reviewers (rC_Px D cI cZ cO ad gh de sz [.ref (ad 0), .int a1] M) (rC_qi D cI cZ cO ad gh de (rC_A ad gh sz) r M) (rC_fx (rC_A ad gh sz)) 0 0 (rC_A ad gh sz) := rC_xmet (Qc := fun A => rC_qi D cI cZ cO ad gh de A r M) (XC := fun A => rC_fx A) hfl hI rfl (by decide) (Nat.le_of_ble_eq_true rfl) (fun p e s m args below meth c E => ⟨(qx11_reviewers D cI cZ cO ad gh de below args s M), rfl, b11_reviewers E M a1⟩) h
abbrev rmx11_reviewers : Room := { frames := 7, cells := 1, slots := 6, locals := 122 }
def qy11_reviewers (D : va_G) (cI cZ cO : ClassId) (ad : Nat → Nat) (gh : rC_gh) (de : Nat) (below : List Frame) (args : Array Value) (s : State) (M : rv_Mem) : Int32 ⊕ Nat → State → Prop := fun r => match r with
  | .inl _ => fun _ => True
  | .inr r => vx_MQ below (rC_fi (rC_A ad gh s.heap.size)) (rC_xc D cI cZ cO ad gh de (rC_A ad gh s.heap.size) r M) args s 1 6 (rC_A ad gh s.heap.size)
set_option maxRecDepth 100000 in
theorem bx11_reviewers {p : Program} {l : Launch} {e : Env} {s : State} {m : MethodId} {args : Array Value} {below : List Frame} {meth : Method} {c : Code} {D : va_G} {cI cZ cO : ClassId} {ad : Nat → Nat} {gh : rC_gh} {de : Nat} (E : rC_X D cI cZ cO ad gh RX11 cX11_reviewers 2 (some .int) p l s m args meth c) (M : rv_Mem) (a1 : Int32) : rv_M (rC_G D cI cZ cO ad gh de) (rC_A ad gh s.heap.size) p l e rmx11_reviewers s m args below meth c 0 0 (qy11_reviewers D cI cZ cO ad gh de below args s M) (f11_reviewers gh M a1) 0 [some (.ref (ad 0)), some (.int a1)] [] M := by
  unfold f11_reviewers
  refine rv_aload_n (q := 1) E.1.x dX11_reviewers_0 rfl rfl ?_
  refine rv_iload_n (q := 2) E.1.x dX11_reviewers_1 rfl rfl ?_
  refine rv_x1r (fun r2 e1 => ?_) (fun w3 e4 => rC_yVrX11 E ⟨rfl, rfl⟩ (fun _ => c11_needChange_x E.2.1 E.1.2.2.1 e4) rfl gX11_91 hX11_needChange ⟨rfl, rfl⟩ ⟨Nat.le_of_ble_eq_true rfl, Nat.le_of_ble_eq_true rfl⟩ ⟨Nat.le_of_ble_eq_true rfl, Nat.le_of_ble_eq_true rfl⟩ rfl rfl rfl (Nat.le_of_ble_eq_true rfl) dX11_reviewers_2 ⟨Nat.le_of_ble_eq_true rfl, Nat.le_of_ble_eq_true rfl⟩)
  refine rC_xVrX11 (q := 5) E ⟨rfl, rfl⟩ (fun _ => c11_needChange E.2.1 E.1.2.2.1 e1) gX11_91 hX11_needChange ⟨rfl, rfl⟩ ⟨Nat.le_of_ble_eq_true rfl, Nat.le_of_ble_eq_true rfl⟩ ⟨Nat.le_of_ble_eq_true rfl, Nat.le_of_ble_eq_true rfl⟩ rfl rfl rfl (Nat.le_of_ble_eq_true rfl) dX11_reviewers_2 rfl ?_
  refine rv_g (fun g5 => ?_)
  refine rC_getX0 (q := 8) E.1 r2 9 wfX11_253 rfl (Nat.le_of_ble_eq_true rfl) (rC_at_of g5) rfl dX11_reviewers_5 rfl ?_
  exact rv_tr (fun _ => trivial)
theorem c11_reviewers_x {l : Launch} {D : va_G} {cI cZ cO : ClassId} {ad : Nat → Nat} {gh : rC_gh} {de : Nat} (hfl : l.stackTraces = false) (hI : rC_I ad gh) {sz : Nat} {M : rv_Mem} {a1 : Int32} {x : Nat} (h : f11_reviewers gh M a1 = some (.inr x)) : vx_Met l yX11_reviewers (rv_ws yX11_reviewers cX11_reviewers 2 (some .int)) rmx11_reviewers (rC_Px D cI cZ cO ad gh de sz [.ref (ad 0), .int a1] M) (rC_fi (rC_A ad gh sz)) (rC_xc D cI cZ cO ad gh de (rC_A ad gh sz) x M) 1 6 (rC_A ad gh sz) := rC_xmet (Qc := fun A => rC_fi A) (XC := fun A => rC_xc D cI cZ cO ad gh de A x M) hfl hI rfl (by decide) (Nat.le_of_ble_eq_true rfl) (fun p e s m args below meth c E => ⟨(qy11_reviewers D cI cZ cO ad gh de below args s M), rfl, bx11_reviewers E M a1⟩) h
abbrev rm11_whoseTurn : Room := { frames := 7, cells := 0, slots := 0, locals := 122 }
def qx11_whoseTurn (D : va_G) (cI cZ cO : ClassId) (ad : Nat → Nat) (gh : rC_gh) (de : Nat) (below : List Frame) (args : Array Value) (s : State) (M : rv_Mem) : Int32 ⊕ Nat → State → Prop := fun r => match r with
  | .inl r => vx_MQ below (rC_qi D cI cZ cO ad gh de (rC_A ad gh s.heap.size) r M) (rC_fx (rC_A ad gh s.heap.size)) args s 0 0 (rC_A ad gh s.heap.size)
  | .inr _ => fun _ => True
set_option maxRecDepth 100000 in
theorem b11_whoseTurn {p : Program} {l : Launch} {e : Env} {s : State} {m : MethodId} {args : Array Value} {below : List Frame} {meth : Method} {c : Code} {D : va_G} {cI cZ cO : ClassId} {ad : Nat → Nat} {gh : rC_gh} {de : Nat} (E : rC_X D cI cZ cO ad gh RX11 cX11_whoseTurn 2 (some .int) p l s m args meth c) (M : rv_Mem) (a1 : Int32) : rv_M (rC_G D cI cZ cO ad gh de) (rC_A ad gh s.heap.size) p l e rm11_whoseTurn s m args below meth c 0 0 (qx11_whoseTurn D cI cZ cO ad gh de below args s M) (f11_whoseTurn gh M a1) 0 [some (.ref (ad 0)), some (.int a1)] [] M := by
  unfold f11_whoseTurn
  refine rv_aload_n (q := 1) E.1.x dX11_whoseTurn_0 rfl rfl ?_
  refine rv_iload_n (q := 2) E.1.x dX11_whoseTurn_1 rfl rfl ?_
  refine rv_x1r (fun r2 e1 => ?_) (fun w3 e4 => rv_tr (fun _ => trivial))
  refine rC_xVrX11 (q := 5) E ⟨rfl, rfl⟩ (fun _ => c11_needChange E.2.1 E.1.2.2.1 e1) gX11_91 hX11_needChange ⟨rfl, rfl⟩ ⟨Nat.le_of_ble_eq_true rfl, Nat.le_of_ble_eq_true rfl⟩ ⟨Nat.le_of_ble_eq_true rfl, Nat.le_of_ble_eq_true rfl⟩ rfl rfl rfl (Nat.le_of_ble_eq_true rfl) dX11_whoseTurn_2 rfl ?_
  refine rv_g (fun g5 => ?_)
  refine rC_getX0 (q := 8) E.1 r2 10 wfX11_250 rfl (Nat.le_of_ble_eq_true rfl) (rC_at_of g5) rfl dX11_whoseTurn_5 rfl ?_
  exact rC_xiret E rfl ⟨Nat.le_of_ble_eq_true rfl, Nat.le_of_ble_eq_true rfl⟩ dX11_whoseTurn_8
theorem c11_whoseTurn {l : Launch} {D : va_G} {cI cZ cO : ClassId} {ad : Nat → Nat} {gh : rC_gh} {de : Nat} (hfl : l.stackTraces = false) (hI : rC_I ad gh) {sz : Nat} {M : rv_Mem} {a1 : Int32} {r : Int32} (h : f11_whoseTurn gh M a1 = some (.inl r)) : vx_Met l yX11_whoseTurn (rv_ws yX11_whoseTurn cX11_whoseTurn 2 (some .int)) rm11_whoseTurn (rC_Px D cI cZ cO ad gh de sz [.ref (ad 0), .int a1] M) (rC_qi D cI cZ cO ad gh de (rC_A ad gh sz) r M) (rC_fx (rC_A ad gh sz)) 0 0 (rC_A ad gh sz) := rC_xmet (Qc := fun A => rC_qi D cI cZ cO ad gh de A r M) (XC := fun A => rC_fx A) hfl hI rfl (by decide) (Nat.le_of_ble_eq_true rfl) (fun p e s m args below meth c E => ⟨(qx11_whoseTurn D cI cZ cO ad gh de below args s M), rfl, b11_whoseTurn E M a1⟩) h
abbrev rmx11_whoseTurn : Room := { frames := 7, cells := 1, slots := 6, locals := 122 }
def qy11_whoseTurn (D : va_G) (cI cZ cO : ClassId) (ad : Nat → Nat) (gh : rC_gh) (de : Nat) (below : List Frame) (args : Array Value) (s : State) (M : rv_Mem) : Int32 ⊕ Nat → State → Prop := fun r => match r with
  | .inl _ => fun _ => True
  | .inr r => vx_MQ below (rC_fi (rC_A ad gh s.heap.size)) (rC_xc D cI cZ cO ad gh de (rC_A ad gh s.heap.size) r M) args s 1 6 (rC_A ad gh s.heap.size)
set_option maxRecDepth 100000 in
theorem bx11_whoseTurn {p : Program} {l : Launch} {e : Env} {s : State} {m : MethodId} {args : Array Value} {below : List Frame} {meth : Method} {c : Code} {D : va_G} {cI cZ cO : ClassId} {ad : Nat → Nat} {gh : rC_gh} {de : Nat} (E : rC_X D cI cZ cO ad gh RX11 cX11_whoseTurn 2 (some .int) p l s m args meth c) (M : rv_Mem) (a1 : Int32) : rv_M (rC_G D cI cZ cO ad gh de) (rC_A ad gh s.heap.size) p l e rmx11_whoseTurn s m args below meth c 0 0 (qy11_whoseTurn D cI cZ cO ad gh de below args s M) (f11_whoseTurn gh M a1) 0 [some (.ref (ad 0)), some (.int a1)] [] M := by
  unfold f11_whoseTurn
  refine rv_aload_n (q := 1) E.1.x dX11_whoseTurn_0 rfl rfl ?_
  refine rv_iload_n (q := 2) E.1.x dX11_whoseTurn_1 rfl rfl ?_
  refine rv_x1r (fun r2 e1 => ?_) (fun w3 e4 => rC_yVrX11 E ⟨rfl, rfl⟩ (fun _ => c11_needChange_x E.2.1 E.1.2.2.1 e4) rfl gX11_91 hX11_needChange ⟨rfl, rfl⟩ ⟨Nat.le_of_ble_eq_true rfl, Nat.le_of_ble_eq_true rfl⟩ ⟨Nat.le_of_ble_eq_true rfl, Nat.le_of_ble_eq_true rfl⟩ rfl rfl rfl (Nat.le_of_ble_eq_true rfl) dX11_whoseTurn_2 ⟨Nat.le_of_ble_eq_true rfl, Nat.le_of_ble_eq_true rfl⟩)
  refine rC_xVrX11 (q := 5) E ⟨rfl, rfl⟩ (fun _ => c11_needChange E.2.1 E.1.2.2.1 e1) gX11_91 hX11_needChange ⟨rfl, rfl⟩ ⟨Nat.le_of_ble_eq_true rfl, Nat.le_of_ble_eq_true rfl⟩ ⟨Nat.le_of_ble_eq_true rfl, Nat.le_of_ble_eq_true rfl⟩ rfl rfl rfl (Nat.le_of_ble_eq_true rfl) dX11_whoseTurn_2 rfl ?_
  refine rv_g (fun g5 => ?_)
  refine rC_getX0 (q := 8) E.1 r2 10 wfX11_250 rfl (Nat.le_of_ble_eq_true rfl) (rC_at_of g5) rfl dX11_whoseTurn_5 rfl ?_
  exact rv_tr (fun _ => trivial)
theorem c11_whoseTurn_x {l : Launch} {D : va_G} {cI cZ cO : ClassId} {ad : Nat → Nat} {gh : rC_gh} {de : Nat} (hfl : l.stackTraces = false) (hI : rC_I ad gh) {sz : Nat} {M : rv_Mem} {a1 : Int32} {x : Nat} (h : f11_whoseTurn gh M a1 = some (.inr x)) : vx_Met l yX11_whoseTurn (rv_ws yX11_whoseTurn cX11_whoseTurn 2 (some .int)) rmx11_whoseTurn (rC_Px D cI cZ cO ad gh de sz [.ref (ad 0), .int a1] M) (rC_fi (rC_A ad gh sz)) (rC_xc D cI cZ cO ad gh de (rC_A ad gh sz) x M) 1 6 (rC_A ad gh sz) := rC_xmet (Qc := fun A => rC_fi A) (XC := fun A => rC_xc D cI cZ cO ad gh de A x M) hfl hI rfl (by decide) (Nat.le_of_ble_eq_true rfl) (fun p e s m args below meth c E => ⟨(qy11_whoseTurn D cI cZ cO ad gh de below args s M), rfl, bx11_whoseTurn E M a1⟩) h
abbrev rm11_watch : Room := { frames := 7, cells := 0, slots := 0, locals := 120 }
def qx11_watch (D : va_G) (cI cZ cO : ClassId) (ad : Nat → Nat) (gh : rC_gh) (de : Nat) (below : List Frame) (args : Array Value) (s : State) : (Bool × rv_Mem) ⊕ (Nat × rv_Mem) → State → Prop := fun r => match r with
  | .inl r => vx_MQ below (rC_qi D cI cZ cO ad gh de (rC_A ad gh s.heap.size) (rv_i r.1) r.2) (rC_fx (rC_A ad gh s.heap.size)) args s 0 0 (rC_A ad gh s.heap.size)
  | .inr _ => fun _ => True
set_option maxRecDepth 100000 in
theorem b11_watch {p : Program} {l : Launch} {e : Env} {s : State} {m : MethodId} {args : Array Value} {below : List Frame} {meth : Method} {c : Code} {D : va_G} {cI cZ cO : ClassId} {ad : Nat → Nat} {gh : rC_gh} {de : Nat} (E : rC_X D cI cZ cO ad gh RX11 cX11_watch 5 (some .boolean) p l s m args meth c) (M : rv_Mem) (a1 : Int32) (a2 : Int32) (a3 : Bool) : rv_M (rC_G D cI cZ cO ad gh de) (rC_A ad gh s.heap.size) p l e rm11_watch s m args below meth c 0 0 (qx11_watch D cI cZ cO ad gh de below args s) (f11_watch gh M a1 a2 a3) 0 [some (.ref (ad 0)), some (.int a1), some (.int a2), some (.int (rv_i a3)), none] [] M := by
  unfold f11_watch
  refine rv_iload_n (q := 1) E.1.x dX11_watch_0 rfl rfl ?_
  refine rv_x2r (fun r2 e1 => ?_) (fun w3 e4 => rv_tr (fun _ => trivial))
  refine rC_xSv (q := 4) E (fun _ => c11_needPerson E.2.1 E.1.2.2.1 e1) gX11_152 hX11_needPerson ⟨rfl, rfl⟩ ⟨Nat.le_of_ble_eq_true rfl, Nat.le_of_ble_eq_true rfl⟩ ⟨Nat.le_of_ble_eq_true rfl, Nat.le_of_ble_eq_true rfl⟩ rfl rfl rfl (Nat.le_of_ble_eq_true rfl) dX11_watch_1 rfl ?_
  refine rv_iload_n (q := 5) E.1.x dX11_watch_4 rfl rfl ?_
  refine rv_x2r (fun r6 e5 => ?_) (fun w7 e8 => rv_tr (fun _ => trivial))
  refine rC_xSv (q := 8) E (fun _ => c11_needRepository E.2.1 E.1.2.2.1 e5) gX11_143 hX11_needRepository ⟨rfl, rfl⟩ ⟨Nat.le_of_ble_eq_true rfl, Nat.le_of_ble_eq_true rfl⟩ ⟨Nat.le_of_ble_eq_true rfl, Nat.le_of_ble_eq_true rfl⟩ rfl rfl rfl (Nat.le_of_ble_eq_true rfl) dX11_watch_5 rfl ?_
  refine rv_aload_n (q := 9) E.1.x dX11_watch_8 rfl rfl ?_
  refine rC_getX11 (q := 12) E.1 0 9 wfX11_68 rfl (Nat.le_of_ble_eq_true rfl) ⟨rfl, rfl⟩ rfl dX11_watch_9 rfl ?_
  refine rv_iload_n (q := 13) E.1.x dX11_watch_12 rfl rfl ?_
  refine rC_iald (q := 14) (n := 2) E.1 ⟨rfl, rfl, rfl⟩ dX11_watch_13 rfl ?_
  refine rv_iload_n (q := 15) E.1.x dX11_watch_14 rfl rfl ?_
  refine rv_b1 (fun r10 e9 => ?_)
  refine rC_calls (q := 18) E.1 (c11_isIn e9) gX11_463 hX11_isIn ⟨rfl, rfl⟩ ⟨Nat.le_of_ble_eq_true rfl, Nat.le_of_ble_eq_true rfl⟩ ⟨Nat.le_of_ble_eq_true rfl, Nat.le_of_ble_eq_true rfl⟩ rfl rfl rfl (Nat.le_of_ble_eq_true rfl) dX11_watch_15 rfl ?_
  refine rv_istore (q := 20) (lv' := [_, _, _, _, _]) E.1.x dX11_watch_18 (Nat.le_of_ble_eq_true rfl) rfl rfl rfl ?_
  refine rv_iload_n (q := 21) E.1.x dX11_watch_20 rfl rfl ?_
  refine rv_ifz_eq (q := 24) (tgt := 39) E.1.x dX11_watch_21 (by decide) rfl ?_ ?_
  · refine rv_aload_n (q := 25) E.1.x dX11_watch_24 rfl rfl ?_
    refine rC_getX11 (q := 28) E.1 0 9 wfX11_68 rfl (Nat.le_of_ble_eq_true rfl) ⟨rfl, rfl⟩ rfl dX11_watch_25 rfl ?_
    refine rv_iload_n (q := 29) E.1.x dX11_watch_28 rfl rfl ?_
    refine rv_dup2 (q := 30) E.1.x dX11_watch_29 rfl rfl rfl ?_
    refine rC_iald (q := 31) (n := 2) E.1 ⟨rfl, rfl, rfl⟩ dX11_watch_30 rfl ?_
    refine rv_iconst (q := 32) E.1.x dX11_watch_31 rv_ki1 rfl ?_
    refine rv_iload_n (q := 33) E.1.x dX11_watch_32 rfl rfl ?_
    refine rv_ishl (q := 34) E.1.x dX11_watch_33 rfl ?_
    refine rv_ior (q := 35) E.1.x dX11_watch_34 rfl ?_
    refine rC_iast (q := 36) (n := 2) E.1 ⟨rfl, rfl, rfl⟩ dX11_watch_35 rfl ?_
    refine rv_ltm (fun M11 => ?_)
    refine rv_goto (q := 53) E.1.x dX11_watch_36 (by decide) ?_
    refine rv_iload (q := 55) E.1.x dX11_watch_53 rfl rfl ?_
    exact rC_xzret E r10 rfl ⟨Nat.le_of_ble_eq_true rfl, Nat.le_of_ble_eq_true rfl⟩ dX11_watch_55
  · refine rv_aload_n (q := 40) E.1.x dX11_watch_39 rfl rfl ?_
    refine rC_getX11 (q := 43) E.1 0 9 wfX11_68 rfl (Nat.le_of_ble_eq_true rfl) ⟨rfl, rfl⟩ rfl dX11_watch_40 rfl ?_
    refine rv_iload_n (q := 44) E.1.x dX11_watch_43 rfl rfl ?_
    refine rv_dup2 (q := 45) E.1.x dX11_watch_44 rfl rfl rfl ?_
    refine rC_iald (q := 46) (n := 2) E.1 ⟨rfl, rfl, rfl⟩ dX11_watch_45 rfl ?_
    refine rv_iconst (q := 47) E.1.x dX11_watch_46 rv_ki1 rfl ?_
    refine rv_iload_n (q := 48) E.1.x dX11_watch_47 rfl rfl ?_
    refine rv_ishl (q := 49) E.1.x dX11_watch_48 rfl ?_
    refine rv_iconst (q := 50) E.1.x dX11_watch_49 rv_kim1 rfl ?_
    refine rv_ixor (q := 51) E.1.x dX11_watch_50 rfl ?_
    refine rv_iand (q := 52) E.1.x dX11_watch_51 rfl ?_
    refine rC_iast (q := 53) (n := 2) E.1 ⟨rfl, rfl, rfl⟩ dX11_watch_52 rfl ?_
    refine rv_ltm (fun M12 => ?_)
    refine rv_iload (q := 55) E.1.x dX11_watch_53 rfl rfl ?_
    exact rC_xzret E r10 rfl ⟨Nat.le_of_ble_eq_true rfl, Nat.le_of_ble_eq_true rfl⟩ dX11_watch_55
theorem c11_watch {l : Launch} {D : va_G} {cI cZ cO : ClassId} {ad : Nat → Nat} {gh : rC_gh} {de : Nat} (hfl : l.stackTraces = false) (hI : rC_I ad gh) {sz : Nat} {M : rv_Mem} {a1 : Int32} {a2 : Int32} {a3 : Bool} {r : Bool} {M1 : rv_Mem} (h : f11_watch gh M a1 a2 a3 = some (.inl (r, M1))) : vx_Met l yX11_watch (rv_ws yX11_watch cX11_watch 5 (some .boolean)) rm11_watch (rC_Px D cI cZ cO ad gh de sz [.ref (ad 0), .int a1, .int a2, .int (rv_i a3)] M) (rC_qi D cI cZ cO ad gh de (rC_A ad gh sz) (rv_i r) M1) (rC_fx (rC_A ad gh sz)) 0 0 (rC_A ad gh sz) := rC_xmet (Qc := fun A => rC_qi D cI cZ cO ad gh de A (rv_i r) M1) (XC := fun A => rC_fx A) hfl hI rfl (by decide) (Nat.le_of_ble_eq_true rfl) (fun p e s m args below meth c E => ⟨(qx11_watch D cI cZ cO ad gh de below args s), rfl, b11_watch E M a1 a2 a3⟩) h
abbrev rmx11_watch : Room := { frames := 7, cells := 1, slots := 6, locals := 120 }
def qy11_watch (D : va_G) (cI cZ cO : ClassId) (ad : Nat → Nat) (gh : rC_gh) (de : Nat) (below : List Frame) (args : Array Value) (s : State) : (Bool × rv_Mem) ⊕ (Nat × rv_Mem) → State → Prop := fun r => match r with
  | .inl _ => fun _ => True
  | .inr r => vx_MQ below (rC_fi (rC_A ad gh s.heap.size)) (rC_xc D cI cZ cO ad gh de (rC_A ad gh s.heap.size) r.1 r.2) args s 1 6 (rC_A ad gh s.heap.size)
set_option maxRecDepth 100000 in
theorem bx11_watch {p : Program} {l : Launch} {e : Env} {s : State} {m : MethodId} {args : Array Value} {below : List Frame} {meth : Method} {c : Code} {D : va_G} {cI cZ cO : ClassId} {ad : Nat → Nat} {gh : rC_gh} {de : Nat} (E : rC_X D cI cZ cO ad gh RX11 cX11_watch 5 (some .boolean) p l s m args meth c) (M : rv_Mem) (a1 : Int32) (a2 : Int32) (a3 : Bool) : rv_M (rC_G D cI cZ cO ad gh de) (rC_A ad gh s.heap.size) p l e rmx11_watch s m args below meth c 0 0 (qy11_watch D cI cZ cO ad gh de below args s) (f11_watch gh M a1 a2 a3) 0 [some (.ref (ad 0)), some (.int a1), some (.int a2), some (.int (rv_i a3)), none] [] M := by
  unfold f11_watch
  refine rv_iload_n (q := 1) E.1.x dX11_watch_0 rfl rfl ?_
  refine rv_x2r (fun r2 e1 => ?_) (fun w3 e4 => rC_ySv E (fun _ => c11_needPerson_x E.2.1 E.1.2.2.1 e4) rfl gX11_152 hX11_needPerson ⟨rfl, rfl⟩ ⟨Nat.le_of_ble_eq_true rfl, Nat.le_of_ble_eq_true rfl⟩ ⟨Nat.le_of_ble_eq_true rfl, Nat.le_of_ble_eq_true rfl⟩ rfl rfl rfl (Nat.le_of_ble_eq_true rfl) dX11_watch_1 ⟨Nat.le_of_ble_eq_true rfl, Nat.le_of_ble_eq_true rfl⟩)
  refine rC_xSv (q := 4) E (fun _ => c11_needPerson E.2.1 E.1.2.2.1 e1) gX11_152 hX11_needPerson ⟨rfl, rfl⟩ ⟨Nat.le_of_ble_eq_true rfl, Nat.le_of_ble_eq_true rfl⟩ ⟨Nat.le_of_ble_eq_true rfl, Nat.le_of_ble_eq_true rfl⟩ rfl rfl rfl (Nat.le_of_ble_eq_true rfl) dX11_watch_1 rfl ?_
  refine rv_iload_n (q := 5) E.1.x dX11_watch_4 rfl rfl ?_
  refine rv_x2r (fun r6 e5 => ?_) (fun w7 e8 => rC_ySv E (fun _ => c11_needRepository_x E.2.1 E.1.2.2.1 e8) rfl gX11_143 hX11_needRepository ⟨rfl, rfl⟩ ⟨Nat.le_of_ble_eq_true rfl, Nat.le_of_ble_eq_true rfl⟩ ⟨Nat.le_of_ble_eq_true rfl, Nat.le_of_ble_eq_true rfl⟩ rfl rfl rfl (Nat.le_of_ble_eq_true rfl) dX11_watch_5 ⟨Nat.le_of_ble_eq_true rfl, Nat.le_of_ble_eq_true rfl⟩)
  refine rC_xSv (q := 8) E (fun _ => c11_needRepository E.2.1 E.1.2.2.1 e5) gX11_143 hX11_needRepository ⟨rfl, rfl⟩ ⟨Nat.le_of_ble_eq_true rfl, Nat.le_of_ble_eq_true rfl⟩ ⟨Nat.le_of_ble_eq_true rfl, Nat.le_of_ble_eq_true rfl⟩ rfl rfl rfl (Nat.le_of_ble_eq_true rfl) dX11_watch_5 rfl ?_
  refine rv_aload_n (q := 9) E.1.x dX11_watch_8 rfl rfl ?_
  refine rC_getX11 (q := 12) E.1 0 9 wfX11_68 rfl (Nat.le_of_ble_eq_true rfl) ⟨rfl, rfl⟩ rfl dX11_watch_9 rfl ?_
  refine rv_iload_n (q := 13) E.1.x dX11_watch_12 rfl rfl ?_
  refine rC_iald (q := 14) (n := 2) E.1 ⟨rfl, rfl, rfl⟩ dX11_watch_13 rfl ?_
  refine rv_iload_n (q := 15) E.1.x dX11_watch_14 rfl rfl ?_
  refine rv_b1 (fun r10 e9 => ?_)
  refine rC_calls (q := 18) E.1 (c11_isIn e9) gX11_463 hX11_isIn ⟨rfl, rfl⟩ ⟨Nat.le_of_ble_eq_true rfl, Nat.le_of_ble_eq_true rfl⟩ ⟨Nat.le_of_ble_eq_true rfl, Nat.le_of_ble_eq_true rfl⟩ rfl rfl rfl (Nat.le_of_ble_eq_true rfl) dX11_watch_15 rfl ?_
  refine rv_istore (q := 20) (lv' := [_, _, _, _, _]) E.1.x dX11_watch_18 (Nat.le_of_ble_eq_true rfl) rfl rfl rfl ?_
  refine rv_iload_n (q := 21) E.1.x dX11_watch_20 rfl rfl ?_
  refine rv_ifz_eq (q := 24) (tgt := 39) E.1.x dX11_watch_21 (by decide) rfl ?_ ?_
  · refine rv_aload_n (q := 25) E.1.x dX11_watch_24 rfl rfl ?_
    refine rC_getX11 (q := 28) E.1 0 9 wfX11_68 rfl (Nat.le_of_ble_eq_true rfl) ⟨rfl, rfl⟩ rfl dX11_watch_25 rfl ?_
    refine rv_iload_n (q := 29) E.1.x dX11_watch_28 rfl rfl ?_
    refine rv_dup2 (q := 30) E.1.x dX11_watch_29 rfl rfl rfl ?_
    refine rC_iald (q := 31) (n := 2) E.1 ⟨rfl, rfl, rfl⟩ dX11_watch_30 rfl ?_
    refine rv_iconst (q := 32) E.1.x dX11_watch_31 rv_ki1 rfl ?_
    refine rv_iload_n (q := 33) E.1.x dX11_watch_32 rfl rfl ?_
    refine rv_ishl (q := 34) E.1.x dX11_watch_33 rfl ?_
    refine rv_ior (q := 35) E.1.x dX11_watch_34 rfl ?_
    refine rC_iast (q := 36) (n := 2) E.1 ⟨rfl, rfl, rfl⟩ dX11_watch_35 rfl ?_
    refine rv_ltm (fun M11 => ?_)
    refine rv_goto (q := 53) E.1.x dX11_watch_36 (by decide) ?_
    refine rv_iload (q := 55) E.1.x dX11_watch_53 rfl rfl ?_
    exact rv_tr (fun _ => trivial)
  · refine rv_aload_n (q := 40) E.1.x dX11_watch_39 rfl rfl ?_
    refine rC_getX11 (q := 43) E.1 0 9 wfX11_68 rfl (Nat.le_of_ble_eq_true rfl) ⟨rfl, rfl⟩ rfl dX11_watch_40 rfl ?_
    refine rv_iload_n (q := 44) E.1.x dX11_watch_43 rfl rfl ?_
    refine rv_dup2 (q := 45) E.1.x dX11_watch_44 rfl rfl rfl ?_
    refine rC_iald (q := 46) (n := 2) E.1 ⟨rfl, rfl, rfl⟩ dX11_watch_45 rfl ?_
    refine rv_iconst (q := 47) E.1.x dX11_watch_46 rv_ki1 rfl ?_
    refine rv_iload_n (q := 48) E.1.x dX11_watch_47 rfl rfl ?_
    refine rv_ishl (q := 49) E.1.x dX11_watch_48 rfl ?_
    refine rv_iconst (q := 50) E.1.x dX11_watch_49 rv_kim1 rfl ?_
    refine rv_ixor (q := 51) E.1.x dX11_watch_50 rfl ?_
    refine rv_iand (q := 52) E.1.x dX11_watch_51 rfl ?_
    refine rC_iast (q := 53) (n := 2) E.1 ⟨rfl, rfl, rfl⟩ dX11_watch_52 rfl ?_
    refine rv_ltm (fun M12 => ?_)
    refine rv_iload (q := 55) E.1.x dX11_watch_53 rfl rfl ?_
    exact rv_tr (fun _ => trivial)
theorem c11_watch_x {l : Launch} {D : va_G} {cI cZ cO : ClassId} {ad : Nat → Nat} {gh : rC_gh} {de : Nat} (hfl : l.stackTraces = false) (hI : rC_I ad gh) {sz : Nat} {M : rv_Mem} {a1 : Int32} {a2 : Int32} {a3 : Bool} {x : Nat} {M1 : rv_Mem} (h : f11_watch gh M a1 a2 a3 = some (.inr (x, M1))) : vx_Met l yX11_watch (rv_ws yX11_watch cX11_watch 5 (some .boolean)) rmx11_watch (rC_Px D cI cZ cO ad gh de sz [.ref (ad 0), .int a1, .int a2, .int (rv_i a3)] M) (rC_fi (rC_A ad gh sz)) (rC_xc D cI cZ cO ad gh de (rC_A ad gh sz) x M1) 1 6 (rC_A ad gh sz) := rC_xmet (Qc := fun A => rC_fi A) (XC := fun A => rC_xc D cI cZ cO ad gh de A x M1) hfl hI rfl (by decide) (Nat.le_of_ble_eq_true rfl) (fun p e s m args below meth c E => ⟨(qy11_watch D cI cZ cO ad gh de below args s), rfl, bx11_watch E M a1 a2 a3⟩) h
abbrev rm11_mails : Room := { frames := 7, cells := 0, slots := 0, locals := 120 }
def qx11_mails (D : va_G) (cI cZ cO : ClassId) (ad : Nat → Nat) (gh : rC_gh) (de : Nat) (below : List Frame) (args : Array Value) (s : State) (M : rv_Mem) : Int32 ⊕ Nat → State → Prop := fun r => match r with
  | .inl r => vx_MQ below (rC_qi D cI cZ cO ad gh de (rC_A ad gh s.heap.size) r M) (rC_fx (rC_A ad gh s.heap.size)) args s 0 0 (rC_A ad gh s.heap.size)
  | .inr _ => fun _ => True
set_option maxRecDepth 100000 in
theorem b11_mails {p : Program} {l : Launch} {e : Env} {s : State} {m : MethodId} {args : Array Value} {below : List Frame} {meth : Method} {c : Code} {D : va_G} {cI cZ cO : ClassId} {ad : Nat → Nat} {gh : rC_gh} {de : Nat} (E : rC_X D cI cZ cO ad gh RX11 cX11_mails 2 (some .int) p l s m args meth c) (M : rv_Mem) (a1 : Int32) : rv_M (rC_G D cI cZ cO ad gh de) (rC_A ad gh s.heap.size) p l e rm11_mails s m args below meth c 0 0 (qx11_mails D cI cZ cO ad gh de below args s M) (f11_mails gh M a1) 0 [some (.ref (ad 0)), some (.int a1)] [] M := by
  unfold f11_mails
  refine rv_iload_n (q := 1) E.1.x dX11_mails_0 rfl rfl ?_
  refine rv_x1r (fun r2 e1 => ?_) (fun w3 e4 => rv_tr (fun _ => trivial))
  refine rC_xSv (q := 4) E (fun _ => c11_needPerson E.2.1 E.1.2.2.1 e1) gX11_152 hX11_needPerson ⟨rfl, rfl⟩ ⟨Nat.le_of_ble_eq_true rfl, Nat.le_of_ble_eq_true rfl⟩ ⟨Nat.le_of_ble_eq_true rfl, Nat.le_of_ble_eq_true rfl⟩ rfl rfl rfl (Nat.le_of_ble_eq_true rfl) dX11_mails_1 rfl ?_
  refine rv_aload_n (q := 5) E.1.x dX11_mails_4 rfl rfl ?_
  refine rC_getX11 (q := 8) E.1 0 10 wfX11_72 rfl (Nat.le_of_ble_eq_true rfl) ⟨rfl, rfl⟩ rfl dX11_mails_5 rfl ?_
  refine rv_iload_n (q := 9) E.1.x dX11_mails_8 rfl rfl ?_
  refine rC_iald (q := 10) (n := 6) E.1 ⟨rfl, rfl, rfl⟩ dX11_mails_9 rfl ?_
  exact rC_xiret E rfl ⟨Nat.le_of_ble_eq_true rfl, Nat.le_of_ble_eq_true rfl⟩ dX11_mails_10
theorem c11_mails {l : Launch} {D : va_G} {cI cZ cO : ClassId} {ad : Nat → Nat} {gh : rC_gh} {de : Nat} (hfl : l.stackTraces = false) (hI : rC_I ad gh) {sz : Nat} {M : rv_Mem} {a1 : Int32} {r : Int32} (h : f11_mails gh M a1 = some (.inl r)) : vx_Met l yX11_mails (rv_ws yX11_mails cX11_mails 2 (some .int)) rm11_mails (rC_Px D cI cZ cO ad gh de sz [.ref (ad 0), .int a1] M) (rC_qi D cI cZ cO ad gh de (rC_A ad gh sz) r M) (rC_fx (rC_A ad gh sz)) 0 0 (rC_A ad gh sz) := rC_xmet (Qc := fun A => rC_qi D cI cZ cO ad gh de A r M) (XC := fun A => rC_fx A) hfl hI rfl (by decide) (Nat.le_of_ble_eq_true rfl) (fun p e s m args below meth c E => ⟨(qx11_mails D cI cZ cO ad gh de below args s M), rfl, b11_mails E M a1⟩) h
abbrev rmx11_mails : Room := { frames := 7, cells := 1, slots := 6, locals := 120 }
def qy11_mails (D : va_G) (cI cZ cO : ClassId) (ad : Nat → Nat) (gh : rC_gh) (de : Nat) (below : List Frame) (args : Array Value) (s : State) (M : rv_Mem) : Int32 ⊕ Nat → State → Prop := fun r => match r with
  | .inl _ => fun _ => True
  | .inr r => vx_MQ below (rC_fi (rC_A ad gh s.heap.size)) (rC_xc D cI cZ cO ad gh de (rC_A ad gh s.heap.size) r M) args s 1 6 (rC_A ad gh s.heap.size)
set_option maxRecDepth 100000 in
theorem bx11_mails {p : Program} {l : Launch} {e : Env} {s : State} {m : MethodId} {args : Array Value} {below : List Frame} {meth : Method} {c : Code} {D : va_G} {cI cZ cO : ClassId} {ad : Nat → Nat} {gh : rC_gh} {de : Nat} (E : rC_X D cI cZ cO ad gh RX11 cX11_mails 2 (some .int) p l s m args meth c) (M : rv_Mem) (a1 : Int32) : rv_M (rC_G D cI cZ cO ad gh de) (rC_A ad gh s.heap.size) p l e rmx11_mails s m args below meth c 0 0 (qy11_mails D cI cZ cO ad gh de below args s M) (f11_mails gh M a1) 0 [some (.ref (ad 0)), some (.int a1)] [] M := by
  unfold f11_mails
  refine rv_iload_n (q := 1) E.1.x dX11_mails_0 rfl rfl ?_
  refine rv_x1r (fun r2 e1 => ?_) (fun w3 e4 => rC_ySv E (fun _ => c11_needPerson_x E.2.1 E.1.2.2.1 e4) rfl gX11_152 hX11_needPerson ⟨rfl, rfl⟩ ⟨Nat.le_of_ble_eq_true rfl, Nat.le_of_ble_eq_true rfl⟩ ⟨Nat.le_of_ble_eq_true rfl, Nat.le_of_ble_eq_true rfl⟩ rfl rfl rfl (Nat.le_of_ble_eq_true rfl) dX11_mails_1 ⟨Nat.le_of_ble_eq_true rfl, Nat.le_of_ble_eq_true rfl⟩)
  refine rC_xSv (q := 4) E (fun _ => c11_needPerson E.2.1 E.1.2.2.1 e1) gX11_152 hX11_needPerson ⟨rfl, rfl⟩ ⟨Nat.le_of_ble_eq_true rfl, Nat.le_of_ble_eq_true rfl⟩ ⟨Nat.le_of_ble_eq_true rfl, Nat.le_of_ble_eq_true rfl⟩ rfl rfl rfl (Nat.le_of_ble_eq_true rfl) dX11_mails_1 rfl ?_
  refine rv_aload_n (q := 5) E.1.x dX11_mails_4 rfl rfl ?_
  refine rC_getX11 (q := 8) E.1 0 10 wfX11_72 rfl (Nat.le_of_ble_eq_true rfl) ⟨rfl, rfl⟩ rfl dX11_mails_5 rfl ?_
  refine rv_iload_n (q := 9) E.1.x dX11_mails_8 rfl rfl ?_
  refine rC_iald (q := 10) (n := 6) E.1 ⟨rfl, rfl, rfl⟩ dX11_mails_9 rfl ?_
  exact rv_tr (fun _ => trivial)
theorem c11_mails_x {l : Launch} {D : va_G} {cI cZ cO : ClassId} {ad : Nat → Nat} {gh : rC_gh} {de : Nat} (hfl : l.stackTraces = false) (hI : rC_I ad gh) {sz : Nat} {M : rv_Mem} {a1 : Int32} {x : Nat} (h : f11_mails gh M a1 = some (.inr x)) : vx_Met l yX11_mails (rv_ws yX11_mails cX11_mails 2 (some .int)) rmx11_mails (rC_Px D cI cZ cO ad gh de sz [.ref (ad 0), .int a1] M) (rC_fi (rC_A ad gh sz)) (rC_xc D cI cZ cO ad gh de (rC_A ad gh sz) x M) 1 6 (rC_A ad gh sz) := rC_xmet (Qc := fun A => rC_fi A) (XC := fun A => rC_xc D cI cZ cO ad gh de A x M) hfl hI rfl (by decide) (Nat.le_of_ble_eq_true rfl) (fun p e s m args below meth c E => ⟨(qy11_mails D cI cZ cO ad gh de below args s M), rfl, bx11_mails E M a1⟩) h
abbrev rm11_advance : Room := { frames := 6, cells := 0, slots := 0, locals := 101 }
def qx11_advance (D : va_G) (cI cZ cO : ClassId) (ad : Nat → Nat) (gh : rC_gh) (de : Nat) (below : List Frame) (args : Array Value) (s : State) : (Int32 × rv_Mem) ⊕ (Nat × rv_Mem) → State → Prop := fun r => match r with
  | .inl r => vx_MQ below (rC_qi D cI cZ cO ad gh de (rC_A ad gh s.heap.size) r.1 r.2) (rC_fx (rC_A ad gh s.heap.size)) args s 0 0 (rC_A ad gh s.heap.size)
  | .inr _ => fun _ => True
set_option maxRecDepth 100000 in
theorem b11_advance_117 {p : Program} {l : Launch} {e : Env} {s : State} {m : MethodId} {args : Array Value} {below : List Frame} {meth : Method} {c : Code} {D : va_G} {cI cZ cO : ClassId} {ad : Nat → Nat} {gh : rC_gh} {de : Nat} (E : rC_X D cI cZ cO ad gh RX11 cX11_advance 5 (some .int) p l s m args meth c) (k59 : rv_Mem → Int32 → Int32 → Option ((Int32 × rv_Mem) ⊕ (Nat × rv_Mem))) (h59 : ∀ (M : rv_Mem) (x2 : Int32) (x3 : Int32), rv_M (rC_G D cI cZ cO ad gh de) (rC_A ad gh s.heap.size) p l e rm11_advance s m args below meth c 0 0 (qx11_advance D cI cZ cO ad gh de below args s) (k59 M x2 x3) 59 [some (.ref (ad 0)), none, some (.int x2), some (.int x3), none] [] M) : ∀ (M : rv_Mem) (x2 : Int32) (x3 : Int32), rv_M (rC_G D cI cZ cO ad gh de) (rC_A ad gh s.heap.size) p l e rm11_advance s m args below meth c 0 0 (qx11_advance D cI cZ cO ad gh de below args s) (f11_advance_117 gh k59 M x2 x3) 117 [some (.ref (ad 0)), none, some (.int x2), some (.int x3), none] [] M := by
  intro M x2 x3
  unfold f11_advance_117
  refine rv_iinc (q := 120) (lv' := [_, _, _, _, _]) E.1.x dX11_advance_117 rv_ki1 rfl rfl rfl rfl ?_
  refine rv_goto (q := 59) E.1.x dX11_advance_120 (by decide) ?_
  refine rv_wk [true, false, true, true, false] ?_
  exact h59 M x2 (x3 + 1)
set_option maxRecDepth 100000 in
theorem b11_advance_59_s {p : Program} {l : Launch} {e : Env} {s : State} {m : MethodId} {args : Array Value} {below : List Frame} {meth : Method} {c : Code} {D : va_G} {cI cZ cO : ClassId} {ad : Nat → Nat} {gh : rC_gh} {de : Nat} (E : rC_X D cI cZ cO ad gh RX11 cX11_advance 5 (some .int) p l s m args meth c)   (k59 : rv_Mem → Int32 → Int32 → Option ((Int32 × rv_Mem) ⊕ (Nat × rv_Mem))) (h59 : ∀ (M : rv_Mem) (x2 : Int32) (x3 : Int32), rv_M (rC_G D cI cZ cO ad gh de) (rC_A ad gh s.heap.size) p l e rm11_advance s m args below meth c 0 0 (qx11_advance D cI cZ cO ad gh de below args s) (k59 M x2 x3) 59 [some (.ref (ad 0)), none, some (.int x2), some (.int x3), none] [] M) : ∀ (M : rv_Mem) (x2 : Int32) (x3 : Int32), rv_M (rC_G D cI cZ cO ad gh de) (rC_A ad gh s.heap.size) p l e rm11_advance s m args below meth c 0 0 (qx11_advance D cI cZ cO ad gh de below args s) (f11_advance_59_s gh k59 M x2 x3) 59 [some (.ref (ad 0)), none, some (.int x2), some (.int x3), none] [] M := by
  intro M x2 x3
  unfold f11_advance_59_s
  refine rv_iload_n (q := 60) E.1.x dX11_advance_59 rfl rfl ?_
  refine rv_aload_n (q := 61) E.1.x dX11_advance_60 rfl rfl ?_
  refine rC_getX11 (q := 64) E.1 0 5 wfX11_49 rfl (Nat.le_of_ble_eq_true rfl) ⟨rfl, rfl⟩ rfl dX11_advance_61 rfl ?_
  refine rC_lsz (q := 67) E.1 0 (by decide) (cJ_size E.1.2.2.1 0) gX11_155 ⟨Nat.le_of_ble_eq_true rfl, Nat.le_of_ble_eq_true rfl⟩ ⟨Nat.le_of_ble_eq_true rfl, Nat.le_of_ble_eq_true rfl⟩ rfl (Nat.le_of_ble_eq_true rfl) dX11_advance_64 rfl ?_
  refine rv_icmp_ge (q := 70) (tgt := 123) E.1.x dX11_advance_67 (by decide) rfl ?_ ?_
  · refine rv_aload_n (q := 71) E.1.x dX11_advance_70 rfl rfl ?_
    refine rC_getX11 (q := 74) E.1 0 5 wfX11_49 rfl (Nat.le_of_ble_eq_true rfl) ⟨rfl, rfl⟩ rfl dX11_advance_71 rfl ?_
    refine rv_iload_n (q := 75) E.1.x dX11_advance_74 rfl rfl ?_
    refine rC_lgt (q := 78) E.1 0 (by decide) (cJ_get E.1.2.2.1 0) ⟨rfl, rfl⟩ gX11_223 ⟨Nat.le_of_ble_eq_true rfl, Nat.le_of_ble_eq_true rfl⟩ ⟨Nat.le_of_ble_eq_true rfl, Nat.le_of_ble_eq_true rfl⟩ rfl (Nat.le_of_ble_eq_true rfl) dX11_advance_75 rfl ?_
    refine rv_g (fun g1 => ?_)
    refine rC_cstX0 (q := 81) E.1 (rC_at_of g1) wxX11_165 dX11_advance_78 rfl ?_
    refine rv_astore (q := 83) (lv' := [_, _, _, _, _]) E.1.x dX11_advance_81 (Nat.le_of_ble_eq_true rfl) rfl rfl rfl ?_
    refine rv_aload (q := 85) E.1.x dX11_advance_83 rfl rfl ?_
    refine rC_getX0 (q := 88) E.1 (100 + (x3).toNatClampNeg) 5 wfX11_227 rfl (Nat.le_of_ble_eq_true rfl) (rC_at_of g1) rfl dX11_advance_85 rfl ?_
    refine rv_if_ne (q := 91) (tgt := 117) E.1.x dX11_advance_88 (by decide) rfl ?_ ?_
    · refine rv_aload_n (q := 92) E.1.x dX11_advance_91 rfl rfl ?_
      refine rC_getX11 (q := 95) E.1 0 11 wfX11_75 rfl (Nat.le_of_ble_eq_true rfl) ⟨rfl, rfl⟩ rfl dX11_advance_92 rfl ?_
      refine rv_aload (q := 97) E.1.x dX11_advance_95 rfl rfl ?_
      refine rC_getX0 (q := 100) E.1 (100 + (x3).toNatClampNeg) 11 wfX11_235 rfl (Nat.le_of_ble_eq_true rfl) (rC_at_of g1) rfl dX11_advance_97 rfl ?_
      refine rv_isub (q := 101) E.1.x dX11_advance_100 rfl ?_
      refine rv_bipush (q := 103) E.1.x dX11_advance_101 rv_kb30 rfl ?_
      refine rv_icmp_lt (q := 106) (tgt := 117) E.1.x dX11_advance_103 (by decide) rfl ?_ ?_
      · refine rv_aload_n (q := 107) E.1.x dX11_advance_106 rfl rfl ?_
        refine rv_aload (q := 109) E.1.x dX11_advance_107 rfl rfl ?_
        refine rv_iconst (q := 110) E.1.x dX11_advance_109 rv_ki2 rfl ?_
        refine rv_iconst (q := 111) E.1.x dX11_advance_110 rv_kim1 rfl ?_
        refine rv_b1 (fun M3 e2 => ?_)
        refine rC_callvX11 (q := 114) E.1 ⟨rfl, rfl⟩ (c11_endChange E.1.2.2.1 e2) gX11_219 hX11_endChange ⟨rfl, rfl⟩ ⟨Nat.le_of_ble_eq_true rfl, Nat.le_of_ble_eq_true rfl⟩ ⟨Nat.le_of_ble_eq_true rfl, Nat.le_of_ble_eq_true rfl⟩ rfl rfl rfl (Nat.le_of_ble_eq_true rfl) dX11_advance_111 rfl ?_
        refine rv_iinc (q := 117) (lv' := [_, _, _, _, _]) E.1.x dX11_advance_114 rv_ki1 rfl rfl rfl rfl ?_
        refine rv_wk [true, false, true, true, false] ?_
        exact b11_advance_117 E k59 h59 M3 (x2 + 1) x3
      · refine rv_wk [true, false, true, true, false] ?_
        exact b11_advance_117 E k59 h59 M x2 x3
    · refine rv_wk [true, false, true, true, false] ?_
      exact b11_advance_117 E k59 h59 M x2 x3
  · refine rv_iload_n (q := 124) E.1.x dX11_advance_123 rfl rfl ?_
    exact rC_xiret E rfl ⟨Nat.le_of_ble_eq_true rfl, Nat.le_of_ble_eq_true rfl⟩ dX11_advance_124
theorem b11_advance_59 {p : Program} {l : Launch} {e : Env} {s : State} {m : MethodId} {args : Array Value} {below : List Frame} {meth : Method} {c : Code} {D : va_G} {cI cZ cO : ClassId} {ad : Nat → Nat} {gh : rC_gh} {de : Nat} (E : rC_X D cI cZ cO ad gh RX11 cX11_advance 5 (some .int) p l s m args meth c)   : ∀ (n : Nat), ∀ (M : rv_Mem) (x2 : Int32) (x3 : Int32), rv_M (rC_G D cI cZ cO ad gh de) (rC_A ad gh s.heap.size) p l e rm11_advance s m args below meth c 0 0 (qx11_advance D cI cZ cO ad gh de below args s) (f11_advance_59 gh n M x2 x3) 59 [some (.ref (ad 0)), none, some (.int x2), some (.int x3), none] [] M := by
  intro n
  induction n with
  | zero => exact fun _ _ _ => rv_stuck
  | succ n ih => exact b11_advance_59_s E  (f11_advance_59 gh n) ih
set_option maxRecDepth 100000 in
theorem b11_advance {p : Program} {l : Launch} {e : Env} {s : State} {m : MethodId} {args : Array Value} {below : List Frame} {meth : Method} {c : Code} {D : va_G} {cI cZ cO : ClassId} {ad : Nat → Nat} {gh : rC_gh} {de : Nat} (E : rC_X D cI cZ cO ad gh RX11 cX11_advance 5 (some .int) p l s m args meth c) (M : rv_Mem) (a1 : Int32) : rv_M (rC_G D cI cZ cO ad gh de) (rC_A ad gh s.heap.size) p l e rm11_advance s m args below meth c 0 0 (qx11_advance D cI cZ cO ad gh de below args s) (f11_advance gh M a1) 0 [some (.ref (ad 0)), some (.int a1), none, none, none] [] M := by
  unfold f11_advance
  refine rv_iload_n (q := 1) E.1.x dX11_advance_0 rfl rfl ?_
  refine rv_iconst (q := 2) E.1.x dX11_advance_1 rv_ki1 rfl ?_
  refine rv_icmp_lt (q := 5) (tgt := 11) E.1.x dX11_advance_2 (by decide) rfl ?_ ?_
  · refine rv_iload_n (q := 6) E.1.x dX11_advance_5 rfl rfl ?_
    refine rv_bipush (q := 8) E.1.x dX11_advance_6 rv_kb100 rfl ?_
    refine rv_icmp_le (q := 11) (tgt := 22) E.1.x dX11_advance_8 (by decide) rfl ?_ ?_
    · exact rv_tr (fun _ => trivial)
    · refine rv_aload_n (q := 23) E.1.x dX11_advance_22 rfl rfl ?_
      refine rC_getX11 (q := 26) E.1 0 11 wfX11_75 rfl (Nat.le_of_ble_eq_true rfl) ⟨rfl, rfl⟩ rfl dX11_advance_23 rfl ?_
      refine rv_iload_n (q := 27) E.1.x dX11_advance_26 rfl rfl ?_
      refine rv_iadd (q := 28) E.1.x dX11_advance_27 rfl ?_
      refine rv_sipush (q := 31) E.1.x dX11_advance_28 rv_ks10000 rfl ?_
      refine rv_icmp_le (q := 34) (tgt := 45) E.1.x dX11_advance_31 (by decide) rfl ?_ ?_
      · exact rv_tr (fun _ => trivial)
      · refine rv_aload_n (q := 46) E.1.x dX11_advance_45 rfl rfl ?_
        refine rv_dup (q := 47) E.1.x dX11_advance_46 rfl rfl ?_
        refine rC_getX11 (q := 50) E.1 0 11 wfX11_75 rfl (Nat.le_of_ble_eq_true rfl) ⟨rfl, rfl⟩ rfl dX11_advance_47 rfl ?_
        refine rv_iload_n (q := 51) E.1.x dX11_advance_50 rfl rfl ?_
        refine rv_iadd (q := 52) E.1.x dX11_advance_51 rfl ?_
        refine rC_putX11 (q := 55) E.1 0 11 wfX11_75 rfl (Nat.le_of_ble_eq_true rfl) ⟨rfl, rfl⟩ rfl ⟨rfl, rfl⟩ dX11_advance_52 rfl ?_
        refine rv_ltm (fun M1 => ?_)
        refine rv_iconst (q := 56) E.1.x dX11_advance_55 rv_ki0 rfl ?_
        refine rv_istore_n (q := 57) (lv' := [_, _, _, _, _]) E.1.x dX11_advance_56 (Nat.le_of_ble_eq_true rfl) rfl rfl rfl ?_
        refine rv_iconst (q := 58) E.1.x dX11_advance_57 rv_ki0 rfl ?_
        refine rv_istore_n (q := 59) (lv' := [_, _, _, _, _]) E.1.x dX11_advance_58 (Nat.le_of_ble_eq_true rfl) rfl rfl rfl ?_
        refine rv_wk [true, false, true, true, false] ?_
        exact b11_advance_59 E rv_FU M1 0 0
  · exact rv_tr (fun _ => trivial)
theorem c11_advance {l : Launch} {D : va_G} {cI cZ cO : ClassId} {ad : Nat → Nat} {gh : rC_gh} {de : Nat} (hfl : l.stackTraces = false) (hI : rC_I ad gh) {sz : Nat} {M : rv_Mem} {a1 : Int32} {r : Int32} {M1 : rv_Mem} (h : f11_advance gh M a1 = some (.inl (r, M1))) : vx_Met l yX11_advance (rv_ws yX11_advance cX11_advance 5 (some .int)) rm11_advance (rC_Px D cI cZ cO ad gh de sz [.ref (ad 0), .int a1] M) (rC_qi D cI cZ cO ad gh de (rC_A ad gh sz) r M1) (rC_fx (rC_A ad gh sz)) 0 0 (rC_A ad gh sz) := rC_xmet (Qc := fun A => rC_qi D cI cZ cO ad gh de A r M1) (XC := fun A => rC_fx A) hfl hI rfl (by decide) (Nat.le_of_ble_eq_true rfl) (fun p e s m args below meth c E => ⟨(qx11_advance D cI cZ cO ad gh de below args s), rfl, b11_advance E M a1⟩) h
abbrev rmx11_advance : Room := { frames := 6, cells := 1, slots := 6, locals := 101 }
def qy11_advance (D : va_G) (cI cZ cO : ClassId) (ad : Nat → Nat) (gh : rC_gh) (de : Nat) (below : List Frame) (args : Array Value) (s : State) : (Int32 × rv_Mem) ⊕ (Nat × rv_Mem) → State → Prop := fun r => match r with
  | .inl _ => fun _ => True
  | .inr r => vx_MQ below (rC_fi (rC_A ad gh s.heap.size)) (rC_xc D cI cZ cO ad gh de (rC_A ad gh s.heap.size) r.1 r.2) args s 1 6 (rC_A ad gh s.heap.size)
set_option maxRecDepth 100000 in
theorem bx11_advance_117 {p : Program} {l : Launch} {e : Env} {s : State} {m : MethodId} {args : Array Value} {below : List Frame} {meth : Method} {c : Code} {D : va_G} {cI cZ cO : ClassId} {ad : Nat → Nat} {gh : rC_gh} {de : Nat} (E : rC_X D cI cZ cO ad gh RX11 cX11_advance 5 (some .int) p l s m args meth c) (k59 : rv_Mem → Int32 → Int32 → Option ((Int32 × rv_Mem) ⊕ (Nat × rv_Mem))) (h59 : ∀ (M : rv_Mem) (x2 : Int32) (x3 : Int32), rv_M (rC_G D cI cZ cO ad gh de) (rC_A ad gh s.heap.size) p l e rmx11_advance s m args below meth c 0 0 (qy11_advance D cI cZ cO ad gh de below args s) (k59 M x2 x3) 59 [some (.ref (ad 0)), none, some (.int x2), some (.int x3), none] [] M) : ∀ (M : rv_Mem) (x2 : Int32) (x3 : Int32), rv_M (rC_G D cI cZ cO ad gh de) (rC_A ad gh s.heap.size) p l e rmx11_advance s m args below meth c 0 0 (qy11_advance D cI cZ cO ad gh de below args s) (f11_advance_117 gh k59 M x2 x3) 117 [some (.ref (ad 0)), none, some (.int x2), some (.int x3), none] [] M := by
  intro M x2 x3
  unfold f11_advance_117
  refine rv_iinc (q := 120) (lv' := [_, _, _, _, _]) E.1.x dX11_advance_117 rv_ki1 rfl rfl rfl rfl ?_
  refine rv_goto (q := 59) E.1.x dX11_advance_120 (by decide) ?_
  refine rv_wk [true, false, true, true, false] ?_
  exact h59 M x2 (x3 + 1)
set_option maxRecDepth 100000 in
theorem bx11_advance_59_s {p : Program} {l : Launch} {e : Env} {s : State} {m : MethodId} {args : Array Value} {below : List Frame} {meth : Method} {c : Code} {D : va_G} {cI cZ cO : ClassId} {ad : Nat → Nat} {gh : rC_gh} {de : Nat} (E : rC_X D cI cZ cO ad gh RX11 cX11_advance 5 (some .int) p l s m args meth c)   (k59 : rv_Mem → Int32 → Int32 → Option ((Int32 × rv_Mem) ⊕ (Nat × rv_Mem))) (h59 : ∀ (M : rv_Mem) (x2 : Int32) (x3 : Int32), rv_M (rC_G D cI cZ cO ad gh de) (rC_A ad gh s.heap.size) p l e rmx11_advance s m args below meth c 0 0 (qy11_advance D cI cZ cO ad gh de below args s) (k59 M x2 x3) 59 [some (.ref (ad 0)), none, some (.int x2), some (.int x3), none] [] M) : ∀ (M : rv_Mem) (x2 : Int32) (x3 : Int32), rv_M (rC_G D cI cZ cO ad gh de) (rC_A ad gh s.heap.size) p l e rmx11_advance s m args below meth c 0 0 (qy11_advance D cI cZ cO ad gh de below args s) (f11_advance_59_s gh k59 M x2 x3) 59 [some (.ref (ad 0)), none, some (.int x2), some (.int x3), none] [] M := by
  intro M x2 x3
  unfold f11_advance_59_s
  refine rv_iload_n (q := 60) E.1.x dX11_advance_59 rfl rfl ?_
  refine rv_aload_n (q := 61) E.1.x dX11_advance_60 rfl rfl ?_
  refine rC_getX11 (q := 64) E.1 0 5 wfX11_49 rfl (Nat.le_of_ble_eq_true rfl) ⟨rfl, rfl⟩ rfl dX11_advance_61 rfl ?_
  refine rC_lsz (q := 67) E.1 0 (by decide) (cJ_size E.1.2.2.1 0) gX11_155 ⟨Nat.le_of_ble_eq_true rfl, Nat.le_of_ble_eq_true rfl⟩ ⟨Nat.le_of_ble_eq_true rfl, Nat.le_of_ble_eq_true rfl⟩ rfl (Nat.le_of_ble_eq_true rfl) dX11_advance_64 rfl ?_
  refine rv_icmp_ge (q := 70) (tgt := 123) E.1.x dX11_advance_67 (by decide) rfl ?_ ?_
  · refine rv_aload_n (q := 71) E.1.x dX11_advance_70 rfl rfl ?_
    refine rC_getX11 (q := 74) E.1 0 5 wfX11_49 rfl (Nat.le_of_ble_eq_true rfl) ⟨rfl, rfl⟩ rfl dX11_advance_71 rfl ?_
    refine rv_iload_n (q := 75) E.1.x dX11_advance_74 rfl rfl ?_
    refine rC_lgt (q := 78) E.1 0 (by decide) (cJ_get E.1.2.2.1 0) ⟨rfl, rfl⟩ gX11_223 ⟨Nat.le_of_ble_eq_true rfl, Nat.le_of_ble_eq_true rfl⟩ ⟨Nat.le_of_ble_eq_true rfl, Nat.le_of_ble_eq_true rfl⟩ rfl (Nat.le_of_ble_eq_true rfl) dX11_advance_75 rfl ?_
    refine rv_g (fun g1 => ?_)
    refine rC_cstX0 (q := 81) E.1 (rC_at_of g1) wxX11_165 dX11_advance_78 rfl ?_
    refine rv_astore (q := 83) (lv' := [_, _, _, _, _]) E.1.x dX11_advance_81 (Nat.le_of_ble_eq_true rfl) rfl rfl rfl ?_
    refine rv_aload (q := 85) E.1.x dX11_advance_83 rfl rfl ?_
    refine rC_getX0 (q := 88) E.1 (100 + (x3).toNatClampNeg) 5 wfX11_227 rfl (Nat.le_of_ble_eq_true rfl) (rC_at_of g1) rfl dX11_advance_85 rfl ?_
    refine rv_if_ne (q := 91) (tgt := 117) E.1.x dX11_advance_88 (by decide) rfl ?_ ?_
    · refine rv_aload_n (q := 92) E.1.x dX11_advance_91 rfl rfl ?_
      refine rC_getX11 (q := 95) E.1 0 11 wfX11_75 rfl (Nat.le_of_ble_eq_true rfl) ⟨rfl, rfl⟩ rfl dX11_advance_92 rfl ?_
      refine rv_aload (q := 97) E.1.x dX11_advance_95 rfl rfl ?_
      refine rC_getX0 (q := 100) E.1 (100 + (x3).toNatClampNeg) 11 wfX11_235 rfl (Nat.le_of_ble_eq_true rfl) (rC_at_of g1) rfl dX11_advance_97 rfl ?_
      refine rv_isub (q := 101) E.1.x dX11_advance_100 rfl ?_
      refine rv_bipush (q := 103) E.1.x dX11_advance_101 rv_kb30 rfl ?_
      refine rv_icmp_lt (q := 106) (tgt := 117) E.1.x dX11_advance_103 (by decide) rfl ?_ ?_
      · refine rv_aload_n (q := 107) E.1.x dX11_advance_106 rfl rfl ?_
        refine rv_aload (q := 109) E.1.x dX11_advance_107 rfl rfl ?_
        refine rv_iconst (q := 110) E.1.x dX11_advance_109 rv_ki2 rfl ?_
        refine rv_iconst (q := 111) E.1.x dX11_advance_110 rv_kim1 rfl ?_
        refine rv_b1 (fun M3 e2 => ?_)
        refine rC_callvX11 (q := 114) E.1 ⟨rfl, rfl⟩ (c11_endChange E.1.2.2.1 e2) gX11_219 hX11_endChange ⟨rfl, rfl⟩ ⟨Nat.le_of_ble_eq_true rfl, Nat.le_of_ble_eq_true rfl⟩ ⟨Nat.le_of_ble_eq_true rfl, Nat.le_of_ble_eq_true rfl⟩ rfl rfl rfl (Nat.le_of_ble_eq_true rfl) dX11_advance_111 rfl ?_
        refine rv_iinc (q := 117) (lv' := [_, _, _, _, _]) E.1.x dX11_advance_114 rv_ki1 rfl rfl rfl rfl ?_
        refine rv_wk [true, false, true, true, false] ?_
        exact bx11_advance_117 E k59 h59 M3 (x2 + 1) x3
      · refine rv_wk [true, false, true, true, false] ?_
        exact bx11_advance_117 E k59 h59 M x2 x3
    · refine rv_wk [true, false, true, true, false] ?_
      exact bx11_advance_117 E k59 h59 M x2 x3
  · refine rv_iload_n (q := 124) E.1.x dX11_advance_123 rfl rfl ?_
    exact rv_tr (fun _ => trivial)
theorem bx11_advance_59 {p : Program} {l : Launch} {e : Env} {s : State} {m : MethodId} {args : Array Value} {below : List Frame} {meth : Method} {c : Code} {D : va_G} {cI cZ cO : ClassId} {ad : Nat → Nat} {gh : rC_gh} {de : Nat} (E : rC_X D cI cZ cO ad gh RX11 cX11_advance 5 (some .int) p l s m args meth c)   : ∀ (n : Nat), ∀ (M : rv_Mem) (x2 : Int32) (x3 : Int32), rv_M (rC_G D cI cZ cO ad gh de) (rC_A ad gh s.heap.size) p l e rmx11_advance s m args below meth c 0 0 (qy11_advance D cI cZ cO ad gh de below args s) (f11_advance_59 gh n M x2 x3) 59 [some (.ref (ad 0)), none, some (.int x2), some (.int x3), none] [] M := by
  intro n
  induction n with
  | zero => exact fun _ _ _ => rv_stuck
  | succ n ih => exact bx11_advance_59_s E  (f11_advance_59 gh n) ih
set_option maxRecDepth 100000 in
theorem bx11_advance {p : Program} {l : Launch} {e : Env} {s : State} {m : MethodId} {args : Array Value} {below : List Frame} {meth : Method} {c : Code} {D : va_G} {cI cZ cO : ClassId} {ad : Nat → Nat} {gh : rC_gh} {de : Nat} (E : rC_X D cI cZ cO ad gh RX11 cX11_advance 5 (some .int) p l s m args meth c) (M : rv_Mem) (a1 : Int32) : rv_M (rC_G D cI cZ cO ad gh de) (rC_A ad gh s.heap.size) p l e rmx11_advance s m args below meth c 0 0 (qy11_advance D cI cZ cO ad gh de below args s) (f11_advance gh M a1) 0 [some (.ref (ad 0)), some (.int a1), none, none, none] [] M := by
  unfold f11_advance
  refine rv_iload_n (q := 1) E.1.x dX11_advance_0 rfl rfl ?_
  refine rv_iconst (q := 2) E.1.x dX11_advance_1 rv_ki1 rfl ?_
  refine rv_icmp_lt (q := 5) (tgt := 11) E.1.x dX11_advance_2 (by decide) rfl ?_ ?_
  · refine rv_iload_n (q := 6) E.1.x dX11_advance_5 rfl rfl ?_
    refine rv_bipush (q := 8) E.1.x dX11_advance_6 rv_kb100 rfl ?_
    refine rv_icmp_le (q := 11) (tgt := 22) E.1.x dX11_advance_8 (by decide) rfl ?_ ?_
    · exact rC_throwW (x := 2) E rfl (by decide +kernel) rC_xk2 rC_xi2 rC_xg2 rC_xn2 rC_xo2 E.2.2.2.2.2.2.2.1 (is := 481) (text := "no such number of days") (by decide +kernel) rfl rfl dX11_advance_11 dX11_advance_14 dX11_advance_15 dX11_advance_18 dX11_advance_21 (Nat.le_of_ble_eq_true rfl) (Nat.le_of_ble_eq_true rfl) ⟨Nat.le_of_ble_eq_true rfl, Nat.le_of_ble_eq_true rfl⟩ ⟨Nat.le_of_ble_eq_true rfl, Nat.le_of_ble_eq_true rfl⟩
    · refine rv_aload_n (q := 23) E.1.x dX11_advance_22 rfl rfl ?_
      refine rC_getX11 (q := 26) E.1 0 11 wfX11_75 rfl (Nat.le_of_ble_eq_true rfl) ⟨rfl, rfl⟩ rfl dX11_advance_23 rfl ?_
      refine rv_iload_n (q := 27) E.1.x dX11_advance_26 rfl rfl ?_
      refine rv_iadd (q := 28) E.1.x dX11_advance_27 rfl ?_
      refine rv_sipush (q := 31) E.1.x dX11_advance_28 rv_ks10000 rfl ?_
      refine rv_icmp_le (q := 34) (tgt := 45) E.1.x dX11_advance_31 (by decide) rfl ?_ ?_
      · exact rC_throwW (x := 3) E rfl (by decide +kernel) rC_xk3 rC_xi3 rC_xg3 rC_xn3 rC_xo3 E.2.2.2.2.2.2.2.2.1 (is := 483) (text := "behind the last day") (by decide +kernel) rfl rfl dX11_advance_34 dX11_advance_37 dX11_advance_38 dX11_advance_41 dX11_advance_44 (Nat.le_of_ble_eq_true rfl) (Nat.le_of_ble_eq_true rfl) ⟨Nat.le_of_ble_eq_true rfl, Nat.le_of_ble_eq_true rfl⟩ ⟨Nat.le_of_ble_eq_true rfl, Nat.le_of_ble_eq_true rfl⟩
      · refine rv_aload_n (q := 46) E.1.x dX11_advance_45 rfl rfl ?_
        refine rv_dup (q := 47) E.1.x dX11_advance_46 rfl rfl ?_
        refine rC_getX11 (q := 50) E.1 0 11 wfX11_75 rfl (Nat.le_of_ble_eq_true rfl) ⟨rfl, rfl⟩ rfl dX11_advance_47 rfl ?_
        refine rv_iload_n (q := 51) E.1.x dX11_advance_50 rfl rfl ?_
        refine rv_iadd (q := 52) E.1.x dX11_advance_51 rfl ?_
        refine rC_putX11 (q := 55) E.1 0 11 wfX11_75 rfl (Nat.le_of_ble_eq_true rfl) ⟨rfl, rfl⟩ rfl ⟨rfl, rfl⟩ dX11_advance_52 rfl ?_
        refine rv_ltm (fun M1 => ?_)
        refine rv_iconst (q := 56) E.1.x dX11_advance_55 rv_ki0 rfl ?_
        refine rv_istore_n (q := 57) (lv' := [_, _, _, _, _]) E.1.x dX11_advance_56 (Nat.le_of_ble_eq_true rfl) rfl rfl rfl ?_
        refine rv_iconst (q := 58) E.1.x dX11_advance_57 rv_ki0 rfl ?_
        refine rv_istore_n (q := 59) (lv' := [_, _, _, _, _]) E.1.x dX11_advance_58 (Nat.le_of_ble_eq_true rfl) rfl rfl rfl ?_
        refine rv_wk [true, false, true, true, false] ?_
        exact bx11_advance_59 E rv_FU M1 0 0
  · exact rC_throwW (x := 2) E rfl (by decide +kernel) rC_xk2 rC_xi2 rC_xg2 rC_xn2 rC_xo2 E.2.2.2.2.2.2.2.1 (is := 481) (text := "no such number of days") (by decide +kernel) rfl rfl dX11_advance_11 dX11_advance_14 dX11_advance_15 dX11_advance_18 dX11_advance_21 (Nat.le_of_ble_eq_true rfl) (Nat.le_of_ble_eq_true rfl) ⟨Nat.le_of_ble_eq_true rfl, Nat.le_of_ble_eq_true rfl⟩ ⟨Nat.le_of_ble_eq_true rfl, Nat.le_of_ble_eq_true rfl⟩
theorem c11_advance_x {l : Launch} {D : va_G} {cI cZ cO : ClassId} {ad : Nat → Nat} {gh : rC_gh} {de : Nat} (hfl : l.stackTraces = false) (hI : rC_I ad gh) {sz : Nat} {M : rv_Mem} {a1 : Int32} {x : Nat} {M1 : rv_Mem} (h : f11_advance gh M a1 = some (.inr (x, M1))) : vx_Met l yX11_advance (rv_ws yX11_advance cX11_advance 5 (some .int)) rmx11_advance (rC_Px D cI cZ cO ad gh de sz [.ref (ad 0), .int a1] M) (rC_fi (rC_A ad gh sz)) (rC_xc D cI cZ cO ad gh de (rC_A ad gh sz) x M1) 1 6 (rC_A ad gh sz) := rC_xmet (Qc := fun A => rC_fi A) (XC := fun A => rC_xc D cI cZ cO ad gh de A x M1) hfl hI rfl (by decide) (Nat.le_of_ble_eq_true rfl) (fun p e s m args below meth c E => ⟨(qy11_advance D cI cZ cO ad gh de below args s), rfl, bx11_advance E M a1⟩) h
abbrev rm11_day : Room := { frames := 0, cells := 0, slots := 0, locals := 0 }
set_option maxRecDepth 100000 in
theorem b11_day {p : Program} {l : Launch} {e : Env} {s : State} {m : MethodId} {args : Array Value} {below : List Frame} {meth : Method} {c : Code} {D : va_G} {cI cZ cO : ClassId} {ad : Nat → Nat} {gh : rC_gh} {de : Nat} (E : rC_E D cI cZ cO ad gh (rC_K ad gh) RX11 cX11_day 1 (some .int) p s m args meth c) (M : rv_Mem)  : rv_M (rC_G D cI cZ cO ad gh de) (rC_K ad gh) p l e rm11_day s m args below meth c 0 0 (rC_qI D cI cZ cO ad gh de below args s M) (f11_day gh M) 0 [some (.ref (ad 0))] [] M := by
  unfold f11_day
  refine rv_aload_n (q := 1) E.x dX11_day_0 rfl rfl ?_
  refine rC_getX11 (q := 4) E 0 11 wfX11_75 rfl (Nat.le_of_ble_eq_true rfl) ⟨rfl, rfl⟩ rfl dX11_day_1 rfl ?_
  exact rC_iret E rfl dX11_day_4
theorem c11_day {l : Launch} {D : va_G} {cI cZ cO : ClassId} {ad : Nat → Nat} {gh : rC_gh} {de : Nat} (hI : rC_I ad gh) {M : rv_Mem} {r : Int32} (h : f11_day gh M = some r) : Met l yX11_day (rv_ws yX11_day cX11_day 1 (some .int)) rm11_day (rC_Pc D cI cZ cO ad gh de [.ref (ad 0)] M) (rC_QI D cI cZ cO ad gh de r M) 0 0 (rC_K ad gh) := rC_met hI rfl (by decide) (Nat.le_of_ble_eq_true rfl) (fun p e s m args below meth c E => ⟨(rC_qI D cI cZ cO ad gh de below args s M), rfl, b11_day E M ⟩) h
abbrev rm11_needLines : Room := { frames := 6, cells := 0, slots := 0, locals := 100 }
def qx11_needLines (D : va_G) (cI cZ cO : ClassId) (ad : Nat → Nat) (gh : rC_gh) (de : Nat) (below : List Frame) (args : Array Value) (s : State) (M : rv_Mem) : Unit ⊕ Nat → State → Prop := fun r => match r with
  | .inl r => vx_MQ below (rC_qv D cI cZ cO ad gh de (rC_A ad gh s.heap.size) M) (rC_fx (rC_A ad gh s.heap.size)) args s 0 0 (rC_A ad gh s.heap.size)
  | .inr _ => fun _ => True
set_option maxRecDepth 100000 in
theorem b11_needLines {p : Program} {l : Launch} {e : Env} {s : State} {m : MethodId} {args : Array Value} {below : List Frame} {meth : Method} {c : Code} {D : va_G} {cI cZ cO : ClassId} {ad : Nat → Nat} {gh : rC_gh} {de : Nat} (E : rC_X D cI cZ cO ad gh RX11 cX11_needLines 6 none p l s m args meth c) (M : rv_Mem) (a1 : Int32) (a2 : Int32) (a3 : Int32) (a4 : Int32) : rv_M (rC_G D cI cZ cO ad gh de) (rC_A ad gh s.heap.size) p l e rm11_needLines s m args below meth c 0 0 (qx11_needLines D cI cZ cO ad gh de below args s M) (f11_needLines gh M a1 a2 a3 a4) 0 [some (.ref (ad 0)), some (.int a1), some (.int a2), some (.int a3), some (.int a4), none] [] M := by
  unfold f11_needLines
  refine rv_aload_n (q := 1) E.1.x dX11_needLines_0 rfl rfl ?_
  refine rC_getX11 (q := 4) E.1 0 0 wfX11_10 rfl (Nat.le_of_ble_eq_true rfl) ⟨rfl, rfl⟩ rfl dX11_needLines_1 rfl ?_
  refine rv_iload_n (q := 5) E.1.x dX11_needLines_4 rfl rfl ?_
  refine rv_iload_n (q := 6) E.1.x dX11_needLines_5 rfl rfl ?_
  refine rv_b1 (fun r2 e1 => ?_)
  refine rC_calliX9 (q := 9) E.1 ⟨rfl, rfl⟩ (c9_sizeOf E.1.2.2.1 e1) gX11_105 hX9_sizeOf ⟨rfl, rfl⟩ ⟨Nat.le_of_ble_eq_true rfl, Nat.le_of_ble_eq_true rfl⟩ ⟨Nat.le_of_ble_eq_true rfl, Nat.le_of_ble_eq_true rfl⟩ rfl rfl rfl (Nat.le_of_ble_eq_true rfl) dX11_needLines_6 rfl ?_
  refine rv_istore (q := 11) (lv' := [_, _, _, _, _, _]) E.1.x dX11_needLines_9 (Nat.le_of_ble_eq_true rfl) rfl rfl rfl ?_
  refine rv_iload_n (q := 12) E.1.x dX11_needLines_11 rfl rfl ?_
  refine rv_if_lt (q := 15) (tgt := 30) E.1.x dX11_needLines_12 (by decide) rfl ?_ ?_
  · refine rv_iload_n (q := 16) E.1.x dX11_needLines_15 rfl rfl ?_
    refine rv_iload (q := 18) E.1.x dX11_needLines_16 rfl rfl ?_
    refine rv_icmp_gt (q := 21) (tgt := 30) E.1.x dX11_needLines_18 (by decide) rfl ?_ ?_
    · refine rv_iload (q := 23) E.1.x dX11_needLines_21 rfl rfl ?_
      refine rv_iload (q := 25) E.1.x dX11_needLines_23 rfl rfl ?_
      refine rv_iload_n (q := 26) E.1.x dX11_needLines_25 rfl rfl ?_
      refine rv_isub (q := 27) E.1.x dX11_needLines_26 rfl ?_
      refine rv_icmp_le (q := 30) (tgt := 41) E.1.x dX11_needLines_27 (by decide) rfl ?_ ?_
      · exact rv_tr (fun _ => trivial)
      · exact rC_xvret E rfl ⟨Nat.le_of_ble_eq_true rfl, Nat.le_of_ble_eq_true rfl⟩ dX11_needLines_41
    · exact rv_tr (fun _ => trivial)
  · exact rv_tr (fun _ => trivial)
theorem c11_needLines {l : Launch} {D : va_G} {cI cZ cO : ClassId} {ad : Nat → Nat} {gh : rC_gh} {de : Nat} (hfl : l.stackTraces = false) (hI : rC_I ad gh) {sz : Nat} {M : rv_Mem} {a1 : Int32} {a2 : Int32} {a3 : Int32} {a4 : Int32} {r : Unit} (h : f11_needLines gh M a1 a2 a3 a4 = some (.inl r)) : vx_Met l yX11_needLines (rv_ws yX11_needLines cX11_needLines 6 none) rm11_needLines (rC_Px D cI cZ cO ad gh de sz [.ref (ad 0), .int a1, .int a2, .int a3, .int a4] M) (rC_qv D cI cZ cO ad gh de (rC_A ad gh sz) M) (rC_fx (rC_A ad gh sz)) 0 0 (rC_A ad gh sz) := rC_xmet (Qc := fun A => rC_qv D cI cZ cO ad gh de A M) (XC := fun A => rC_fx A) hfl hI rfl (by decide) (Nat.le_of_ble_eq_true rfl) (fun p e s m args below meth c E => ⟨(qx11_needLines D cI cZ cO ad gh de below args s M), rfl, b11_needLines E M a1 a2 a3 a4⟩) h
abbrev rmx11_needLines : Room := { frames := 6, cells := 1, slots := 6, locals := 100 }
def qy11_needLines (D : va_G) (cI cZ cO : ClassId) (ad : Nat → Nat) (gh : rC_gh) (de : Nat) (below : List Frame) (args : Array Value) (s : State) (M : rv_Mem) : Unit ⊕ Nat → State → Prop := fun r => match r with
  | .inl _ => fun _ => True
  | .inr r => vx_MQ below (rC_fvv (rC_A ad gh s.heap.size)) (rC_xc D cI cZ cO ad gh de (rC_A ad gh s.heap.size) r M) args s 1 6 (rC_A ad gh s.heap.size)
set_option maxRecDepth 100000 in
theorem bx11_needLines {p : Program} {l : Launch} {e : Env} {s : State} {m : MethodId} {args : Array Value} {below : List Frame} {meth : Method} {c : Code} {D : va_G} {cI cZ cO : ClassId} {ad : Nat → Nat} {gh : rC_gh} {de : Nat} (E : rC_X D cI cZ cO ad gh RX11 cX11_needLines 6 none p l s m args meth c) (M : rv_Mem) (a1 : Int32) (a2 : Int32) (a3 : Int32) (a4 : Int32) : rv_M (rC_G D cI cZ cO ad gh de) (rC_A ad gh s.heap.size) p l e rmx11_needLines s m args below meth c 0 0 (qy11_needLines D cI cZ cO ad gh de below args s M) (f11_needLines gh M a1 a2 a3 a4) 0 [some (.ref (ad 0)), some (.int a1), some (.int a2), some (.int a3), some (.int a4), none] [] M := by
  unfold f11_needLines
  refine rv_aload_n (q := 1) E.1.x dX11_needLines_0 rfl rfl ?_
  refine rC_getX11 (q := 4) E.1 0 0 wfX11_10 rfl (Nat.le_of_ble_eq_true rfl) ⟨rfl, rfl⟩ rfl dX11_needLines_1 rfl ?_
  refine rv_iload_n (q := 5) E.1.x dX11_needLines_4 rfl rfl ?_
  refine rv_iload_n (q := 6) E.1.x dX11_needLines_5 rfl rfl ?_
  refine rv_b1 (fun r2 e1 => ?_)
  refine rC_calliX9 (q := 9) E.1 ⟨rfl, rfl⟩ (c9_sizeOf E.1.2.2.1 e1) gX11_105 hX9_sizeOf ⟨rfl, rfl⟩ ⟨Nat.le_of_ble_eq_true rfl, Nat.le_of_ble_eq_true rfl⟩ ⟨Nat.le_of_ble_eq_true rfl, Nat.le_of_ble_eq_true rfl⟩ rfl rfl rfl (Nat.le_of_ble_eq_true rfl) dX11_needLines_6 rfl ?_
  refine rv_istore (q := 11) (lv' := [_, _, _, _, _, _]) E.1.x dX11_needLines_9 (Nat.le_of_ble_eq_true rfl) rfl rfl rfl ?_
  refine rv_iload_n (q := 12) E.1.x dX11_needLines_11 rfl rfl ?_
  refine rv_if_lt (q := 15) (tgt := 30) E.1.x dX11_needLines_12 (by decide) rfl ?_ ?_
  · refine rv_iload_n (q := 16) E.1.x dX11_needLines_15 rfl rfl ?_
    refine rv_iload (q := 18) E.1.x dX11_needLines_16 rfl rfl ?_
    refine rv_icmp_gt (q := 21) (tgt := 30) E.1.x dX11_needLines_18 (by decide) rfl ?_ ?_
    · refine rv_iload (q := 23) E.1.x dX11_needLines_21 rfl rfl ?_
      refine rv_iload (q := 25) E.1.x dX11_needLines_23 rfl rfl ?_
      refine rv_iload_n (q := 26) E.1.x dX11_needLines_25 rfl rfl ?_
      refine rv_isub (q := 27) E.1.x dX11_needLines_26 rfl ?_
      refine rv_icmp_le (q := 30) (tgt := 41) E.1.x dX11_needLines_27 (by decide) rfl ?_ ?_
      · exact rC_throwW (x := 2) E rfl (by decide +kernel) rC_xk2 rC_xi2 rC_xg2 rC_xn2 rC_xo2 E.2.2.2.2.2.2.2.1 (is := 359) (text := "no such lines") (by decide +kernel) rfl rfl dX11_needLines_30 dX11_needLines_33 dX11_needLines_34 dX11_needLines_37 dX11_needLines_40 (Nat.le_of_ble_eq_true rfl) (Nat.le_of_ble_eq_true rfl) ⟨Nat.le_of_ble_eq_true rfl, Nat.le_of_ble_eq_true rfl⟩ ⟨Nat.le_of_ble_eq_true rfl, Nat.le_of_ble_eq_true rfl⟩
      · exact rv_tr (fun _ => trivial)
    · exact rC_throwW (x := 2) E rfl (by decide +kernel) rC_xk2 rC_xi2 rC_xg2 rC_xn2 rC_xo2 E.2.2.2.2.2.2.2.1 (is := 359) (text := "no such lines") (by decide +kernel) rfl rfl dX11_needLines_30 dX11_needLines_33 dX11_needLines_34 dX11_needLines_37 dX11_needLines_40 (Nat.le_of_ble_eq_true rfl) (Nat.le_of_ble_eq_true rfl) ⟨Nat.le_of_ble_eq_true rfl, Nat.le_of_ble_eq_true rfl⟩ ⟨Nat.le_of_ble_eq_true rfl, Nat.le_of_ble_eq_true rfl⟩
  · exact rC_throwW (x := 2) E rfl (by decide +kernel) rC_xk2 rC_xi2 rC_xg2 rC_xn2 rC_xo2 E.2.2.2.2.2.2.2.1 (is := 359) (text := "no such lines") (by decide +kernel) rfl rfl dX11_needLines_30 dX11_needLines_33 dX11_needLines_34 dX11_needLines_37 dX11_needLines_40 (Nat.le_of_ble_eq_true rfl) (Nat.le_of_ble_eq_true rfl) ⟨Nat.le_of_ble_eq_true rfl, Nat.le_of_ble_eq_true rfl⟩ ⟨Nat.le_of_ble_eq_true rfl, Nat.le_of_ble_eq_true rfl⟩
theorem c11_needLines_x {l : Launch} {D : va_G} {cI cZ cO : ClassId} {ad : Nat → Nat} {gh : rC_gh} {de : Nat} (hfl : l.stackTraces = false) (hI : rC_I ad gh) {sz : Nat} {M : rv_Mem} {a1 : Int32} {a2 : Int32} {a3 : Int32} {a4 : Int32} {x : Nat} (h : f11_needLines gh M a1 a2 a3 a4 = some (.inr x)) : vx_Met l yX11_needLines (rv_ws yX11_needLines cX11_needLines 6 none) rmx11_needLines (rC_Px D cI cZ cO ad gh de sz [.ref (ad 0), .int a1, .int a2, .int a3, .int a4] M) (rC_fvv (rC_A ad gh sz)) (rC_xc D cI cZ cO ad gh de (rC_A ad gh sz) x M) 1 6 (rC_A ad gh sz) := rC_xmet (Qc := fun A => rC_fvv A) (XC := fun A => rC_xc D cI cZ cO ad gh de A x M) hfl hI rfl (by decide) (Nat.le_of_ble_eq_true rfl) (fun p e s m args below meth c E => ⟨(qy11_needLines D cI cZ cO ad gh de below args s M), rfl, bx11_needLines E M a1 a2 a3 a4⟩) h
abbrev rm11_needRoomForComment : Room := { frames := 6, cells := 0, slots := 0, locals := 100 }
def qx11_needRoomForComment (D : va_G) (cI cZ cO : ClassId) (ad : Nat → Nat) (gh : rC_gh) (de : Nat) (below : List Frame) (args : Array Value) (s : State) (M : rv_Mem) : Unit ⊕ Nat → State → Prop := fun r => match r with
  | .inl r => vx_MQ below (rC_qv D cI cZ cO ad gh de (rC_A ad gh s.heap.size) M) (rC_fx (rC_A ad gh s.heap.size)) args s 0 0 (rC_A ad gh s.heap.size)
  | .inr _ => fun _ => True
set_option maxRecDepth 100000 in
theorem b11_needRoomForComment {p : Program} {l : Launch} {e : Env} {s : State} {m : MethodId} {args : Array Value} {below : List Frame} {meth : Method} {c : Code} {D : va_G} {cI cZ cO : ClassId} {ad : Nat → Nat} {gh : rC_gh} {de : Nat} (E : rC_X D cI cZ cO ad gh RX11 cX11_needRoomForComment 1 none p l s m args meth c) (M : rv_Mem)  : rv_M (rC_G D cI cZ cO ad gh de) (rC_A ad gh s.heap.size) p l e rm11_needRoomForComment s m args below meth c 0 0 (qx11_needRoomForComment D cI cZ cO ad gh de below args s M) (f11_needRoomForComment gh M) 0 [some (.ref (ad 0))] [] M := by
  unfold f11_needRoomForComment
  refine rv_aload_n (q := 1) E.1.x dX11_needRoomForComment_0 rfl rfl ?_
  refine rC_getX11 (q := 4) E.1 0 6 wfX11_53 rfl (Nat.le_of_ble_eq_true rfl) ⟨rfl, rfl⟩ rfl dX11_needRoomForComment_1 rfl ?_
  refine rC_lsz (q := 7) E.1 1 (by decide) (cJ_size E.1.2.2.1 1) gX11_155 ⟨Nat.le_of_ble_eq_true rfl, Nat.le_of_ble_eq_true rfl⟩ ⟨Nat.le_of_ble_eq_true rfl, Nat.le_of_ble_eq_true rfl⟩ rfl (Nat.le_of_ble_eq_true rfl) dX11_needRoomForComment_4 rfl ?_
  refine rv_bipush (q := 9) E.1.x dX11_needRoomForComment_7 rv_kb60 rfl ?_
  refine rv_icmp_lt (q := 12) (tgt := 23) E.1.x dX11_needRoomForComment_9 (by decide) rfl ?_ ?_
  · exact rv_tr (fun _ => trivial)
  · exact rC_xvret E rfl ⟨Nat.le_of_ble_eq_true rfl, Nat.le_of_ble_eq_true rfl⟩ dX11_needRoomForComment_23
theorem c11_needRoomForComment {l : Launch} {D : va_G} {cI cZ cO : ClassId} {ad : Nat → Nat} {gh : rC_gh} {de : Nat} (hfl : l.stackTraces = false) (hI : rC_I ad gh) {sz : Nat} {M : rv_Mem} {r : Unit} (h : f11_needRoomForComment gh M = some (.inl r)) : vx_Met l yX11_needRoomForComment (rv_ws yX11_needRoomForComment cX11_needRoomForComment 1 none) rm11_needRoomForComment (rC_Px D cI cZ cO ad gh de sz [.ref (ad 0)] M) (rC_qv D cI cZ cO ad gh de (rC_A ad gh sz) M) (rC_fx (rC_A ad gh sz)) 0 0 (rC_A ad gh sz) := rC_xmet (Qc := fun A => rC_qv D cI cZ cO ad gh de A M) (XC := fun A => rC_fx A) hfl hI rfl (by decide) (Nat.le_of_ble_eq_true rfl) (fun p e s m args below meth c E => ⟨(qx11_needRoomForComment D cI cZ cO ad gh de below args s M), rfl, b11_needRoomForComment E M ⟩) h
abbrev rmx11_needRoomForComment : Room := { frames := 6, cells := 1, slots := 6, locals := 100 }
def qy11_needRoomForComment (D : va_G) (cI cZ cO : ClassId) (ad : Nat → Nat) (gh : rC_gh) (de : Nat) (below : List Frame) (args : Array Value) (s : State) (M : rv_Mem) : Unit ⊕ Nat → State → Prop := fun r => match r with
  | .inl _ => fun _ => True
  | .inr r => vx_MQ below (rC_fvv (rC_A ad gh s.heap.size)) (rC_xc D cI cZ cO ad gh de (rC_A ad gh s.heap.size) r M) args s 1 6 (rC_A ad gh s.heap.size)
set_option maxRecDepth 100000 in
theorem bx11_needRoomForComment {p : Program} {l : Launch} {e : Env} {s : State} {m : MethodId} {args : Array Value} {below : List Frame} {meth : Method} {c : Code} {D : va_G} {cI cZ cO : ClassId} {ad : Nat → Nat} {gh : rC_gh} {de : Nat} (E : rC_X D cI cZ cO ad gh RX11 cX11_needRoomForComment 1 none p l s m args meth c) (M : rv_Mem)  : rv_M (rC_G D cI cZ cO ad gh de) (rC_A ad gh s.heap.size) p l e rmx11_needRoomForComment s m args below meth c 0 0 (qy11_needRoomForComment D cI cZ cO ad gh de below args s M) (f11_needRoomForComment gh M) 0 [some (.ref (ad 0))] [] M := by
  unfold f11_needRoomForComment
  refine rv_aload_n (q := 1) E.1.x dX11_needRoomForComment_0 rfl rfl ?_
  refine rC_getX11 (q := 4) E.1 0 6 wfX11_53 rfl (Nat.le_of_ble_eq_true rfl) ⟨rfl, rfl⟩ rfl dX11_needRoomForComment_1 rfl ?_
  refine rC_lsz (q := 7) E.1 1 (by decide) (cJ_size E.1.2.2.1 1) gX11_155 ⟨Nat.le_of_ble_eq_true rfl, Nat.le_of_ble_eq_true rfl⟩ ⟨Nat.le_of_ble_eq_true rfl, Nat.le_of_ble_eq_true rfl⟩ rfl (Nat.le_of_ble_eq_true rfl) dX11_needRoomForComment_4 rfl ?_
  refine rv_bipush (q := 9) E.1.x dX11_needRoomForComment_7 rv_kb60 rfl ?_
  refine rv_icmp_lt (q := 12) (tgt := 23) E.1.x dX11_needRoomForComment_9 (by decide) rfl ?_ ?_
  · exact rC_throwW (x := 3) E rfl (by decide +kernel) rC_xk3 rC_xi3 rC_xg3 rC_xn3 rC_xo3 E.2.2.2.2.2.2.2.2.1 (is := 505) (text := "no room for a comment") (by decide +kernel) rfl rfl dX11_needRoomForComment_12 dX11_needRoomForComment_15 dX11_needRoomForComment_16 dX11_needRoomForComment_19 dX11_needRoomForComment_22 (Nat.le_of_ble_eq_true rfl) (Nat.le_of_ble_eq_true rfl) ⟨Nat.le_of_ble_eq_true rfl, Nat.le_of_ble_eq_true rfl⟩ ⟨Nat.le_of_ble_eq_true rfl, Nat.le_of_ble_eq_true rfl⟩
  · exact rv_tr (fun _ => trivial)
theorem c11_needRoomForComment_x {l : Launch} {D : va_G} {cI cZ cO : ClassId} {ad : Nat → Nat} {gh : rC_gh} {de : Nat} (hfl : l.stackTraces = false) (hI : rC_I ad gh) {sz : Nat} {M : rv_Mem} {x : Nat} (h : f11_needRoomForComment gh M = some (.inr x)) : vx_Met l yX11_needRoomForComment (rv_ws yX11_needRoomForComment cX11_needRoomForComment 1 none) rmx11_needRoomForComment (rC_Px D cI cZ cO ad gh de sz [.ref (ad 0)] M) (rC_fvv (rC_A ad gh sz)) (rC_xc D cI cZ cO ad gh de (rC_A ad gh sz) x M) 1 6 (rC_A ad gh sz) := rC_xmet (Qc := fun A => rC_fvv A) (XC := fun A => rC_xc D cI cZ cO ad gh de A x M) hfl hI rfl (by decide) (Nat.le_of_ble_eq_true rfl) (fun p e s m args below meth c E => ⟨(qy11_needRoomForComment D cI cZ cO ad gh de below args s M), rfl, bx11_needRoomForComment E M ⟩) h

