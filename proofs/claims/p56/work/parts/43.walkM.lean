set_option maxRecDepth 100000 in
theorem b11_open {p : Program} {l : Launch} {e : Env} {s : State} {m : MethodId} {args : Array Value} {below : List Frame} {meth : Method} {c : Code} {D : va_G} {cI cZ cO : ClassId} {ad : Nat → Nat} {gh : rC_gh} {de : Nat} (E : rC_X D cI cZ cO ad gh RX11 cX11_open 4 (some .int) p l s m args meth c) {mi : Nat} (hT : rM_tk mi de (rM_A ad gh s.heap.size) s) (M : rv_Mem) (a1 : Int32) : rv_M (rC_G D cI cZ cO ad gh de) (rC_A ad gh s.heap.size) p l e rm11_open s m args below meth c 0 0 (qx11_open D cI cZ cO ad gh de below args s M) (f11_open gh M a1) 0 [some (.ref (ad 0)), some (.int a1), none, none] [] M := by
  unfold f11_open
  refine rv_iload_n (q := 1) E.1.x dX11_open_0 rfl rfl ?_
  refine rv_x1r (fun r2 e1 => ?_) (fun w3 e4 => rv_tr (fun _ => trivial))
  refine rC_xSv (q := 4) E (fun _ => c11_needPerson E.2.1 E.1.2.2.1 e1) gX11_152 hX11_needPerson ⟨rfl, rfl⟩ ⟨Nat.le_of_ble_eq_true rfl, Nat.le_of_ble_eq_true rfl⟩ ⟨Nat.le_of_ble_eq_true rfl, Nat.le_of_ble_eq_true rfl⟩ rfl rfl rfl (Nat.le_of_ble_eq_true rfl) dX11_open_1 rfl ?_
  refine rv_aload_n (q := 5) E.1.x dX11_open_4 rfl rfl ?_
  refine rC_getX11 (q := 8) E.1 0 5 wfX11_49 rfl (Nat.le_of_ble_eq_true rfl) ⟨rfl, rfl⟩ rfl dX11_open_5 rfl ?_
  refine rC_lsz (q := 11) E.1 0 (by decide) (cJ_size E.1.2.2.1 0) gX11_155 ⟨Nat.le_of_ble_eq_true rfl, Nat.le_of_ble_eq_true rfl⟩ ⟨Nat.le_of_ble_eq_true rfl, Nat.le_of_ble_eq_true rfl⟩ rfl (Nat.le_of_ble_eq_true rfl) dX11_open_8 rfl ?_
  refine rv_bipush (q := 13) E.1.x dX11_open_11 rv_kb20 rfl ?_
  refine rv_icmp_ge (q := 16) (tgt := 26) E.1.x dX11_open_13 (by decide) rfl ?_ ?_
  · refine rv_aload_n (q := 17) E.1.x dX11_open_16 rfl rfl ?_
    refine rC_getX11 (q := 20) E.1 0 0 wfX11_10 rfl (Nat.le_of_ble_eq_true rfl) ⟨rfl, rfl⟩ rfl dX11_open_17 rfl ?_
    refine rv_b1 (fun r6 e5 => ?_)
    refine rC_calliX9 (q := 23) E.1 ⟨rfl, rfl⟩ (c9_isFull E.1.2.2.1 e5) gX11_159 hX9_isFull ⟨rfl, rfl⟩ ⟨Nat.le_of_ble_eq_true rfl, Nat.le_of_ble_eq_true rfl⟩ ⟨Nat.le_of_ble_eq_true rfl, Nat.le_of_ble_eq_true rfl⟩ rfl rfl rfl (Nat.le_of_ble_eq_true rfl) dX11_open_20 rfl ?_
    refine rv_ifz_eq (q := 26) (tgt := 36) E.1.x dX11_open_23 (by decide) rfl ?_ ?_
    · exact rv_tr (fun _ => trivial)
    · refine rv_aload_n (q := 37) E.1.x dX11_open_36 rfl rfl ?_
      refine rC_getX11 (q := 40) E.1 0 0 wfX11_10 rfl (Nat.le_of_ble_eq_true rfl) ⟨rfl, rfl⟩ rfl dX11_open_37 rfl ?_
      refine rv_bipush (q := 42) E.1.x dX11_open_40 rv_kb80 rfl ?_
      refine rv_b1 (fun r8 e7 => ?_)
      refine rC_calliX9 (q := 45) E.1 ⟨rfl, rfl⟩ (c9_baseOf E.1.2.2.1 e7) gX11_99 hX9_baseOf ⟨rfl, rfl⟩ ⟨Nat.le_of_ble_eq_true rfl, Nat.le_of_ble_eq_true rfl⟩ ⟨Nat.le_of_ble_eq_true rfl, Nat.le_of_ble_eq_true rfl⟩ rfl rfl rfl (Nat.le_of_ble_eq_true rfl) dX11_open_42 rfl ?_
      refine rv_istore_n (q := 46) (lv' := [_, _, _, _]) E.1.x dX11_open_45 (Nat.le_of_ble_eq_true rfl) rfl rfl rfl ?_
      refine rv_wk [true, true, true, false] ?_
      exact b11_open_46 E hT M a1 r8
  · exact rv_tr (fun _ => trivial)
theorem c11_open {l : Launch} {D : va_G} {cI cZ cO : ClassId} {ad : Nat → Nat} {gh : rC_gh} {de : Nat} (hfl : l.stackTraces = false) (hI : rC_I ad gh) {sz : Nat} {M : rv_Mem} {a1 : Int32} {r : Int32} {gh' : rC_gh} {M1 : rv_Mem} (h : f11_open gh M a1 = some (.inl (r, gh', M1))) {mi : Nat} : vx_Met l yX11_open (rv_ws yX11_open cX11_open 4 (some .int)) rm11_open (rM_Px D cI cZ cO ad gh mi de sz [.ref (ad 0), .int a1] M) (rM_qi D cI cZ cO ad gh de sz r gh' M1) (rC_fx (rM_A ad gh sz)) 3 193 (rM_A ad gh sz) := rM_xmet (Qc := fun z => rM_qi D cI cZ cO ad gh de z r gh' M1) (XC := fun z => rC_fx (rM_A ad gh z)) (FR := fun z => rM_A ad gh z) hfl hI rfl (by decide) (Nat.le_of_ble_eq_true rfl) (fun p e s m args below meth c E hT => ⟨qx11_open D cI cZ cO ad gh de below args s M, rfl, b11_open E hT M a1⟩) h
set_option maxRecDepth 100000 in
theorem bx11_open {p : Program} {l : Launch} {e : Env} {s : State} {m : MethodId} {args : Array Value} {below : List Frame} {meth : Method} {c : Code} {D : va_G} {cI cZ cO : ClassId} {ad : Nat → Nat} {gh : rC_gh} {de : Nat} (E : rC_X D cI cZ cO ad gh RX11 cX11_open 4 (some .int) p l s m args meth c) (M : rv_Mem) (a1 : Int32) : rv_M (rC_G D cI cZ cO ad gh de) (rC_A ad gh s.heap.size) p l e rmx11_open s m args below meth c 0 0 (qy11_open D cI cZ cO ad gh de below args s M) (f11_open gh M a1) 0 [some (.ref (ad 0)), some (.int a1), none, none] [] M := by
  unfold f11_open
  refine rv_iload_n (q := 1) E.1.x dX11_open_0 rfl rfl ?_
  refine rv_x1r (fun r2 e1 => ?_) (fun w3 e4 => rC_ySv E (fun _ => c11_needPerson_x E.2.1 E.1.2.2.1 e4) rfl gX11_152 hX11_needPerson ⟨rfl, rfl⟩ ⟨Nat.le_of_ble_eq_true rfl, Nat.le_of_ble_eq_true rfl⟩ ⟨Nat.le_of_ble_eq_true rfl, Nat.le_of_ble_eq_true rfl⟩ rfl rfl rfl (Nat.le_of_ble_eq_true rfl) dX11_open_1 ⟨Nat.le_of_ble_eq_true rfl, Nat.le_of_ble_eq_true rfl⟩)
  refine rC_xSv (q := 4) E (fun _ => c11_needPerson E.2.1 E.1.2.2.1 e1) gX11_152 hX11_needPerson ⟨rfl, rfl⟩ ⟨Nat.le_of_ble_eq_true rfl, Nat.le_of_ble_eq_true rfl⟩ ⟨Nat.le_of_ble_eq_true rfl, Nat.le_of_ble_eq_true rfl⟩ rfl rfl rfl (Nat.le_of_ble_eq_true rfl) dX11_open_1 rfl ?_
  refine rv_aload_n (q := 5) E.1.x dX11_open_4 rfl rfl ?_
  refine rC_getX11 (q := 8) E.1 0 5 wfX11_49 rfl (Nat.le_of_ble_eq_true rfl) ⟨rfl, rfl⟩ rfl dX11_open_5 rfl ?_
  refine rC_lsz (q := 11) E.1 0 (by decide) (cJ_size E.1.2.2.1 0) gX11_155 ⟨Nat.le_of_ble_eq_true rfl, Nat.le_of_ble_eq_true rfl⟩ ⟨Nat.le_of_ble_eq_true rfl, Nat.le_of_ble_eq_true rfl⟩ rfl (Nat.le_of_ble_eq_true rfl) dX11_open_8 rfl ?_
  refine rv_bipush (q := 13) E.1.x dX11_open_11 rv_kb20 rfl ?_
  refine rv_icmp_ge (q := 16) (tgt := 26) E.1.x dX11_open_13 (by decide) rfl ?_ ?_
  · refine rv_aload_n (q := 17) E.1.x dX11_open_16 rfl rfl ?_
    refine rC_getX11 (q := 20) E.1 0 0 wfX11_10 rfl (Nat.le_of_ble_eq_true rfl) ⟨rfl, rfl⟩ rfl dX11_open_17 rfl ?_
    refine rv_b1 (fun r6 e5 => ?_)
    refine rC_calliX9 (q := 23) E.1 ⟨rfl, rfl⟩ (c9_isFull E.1.2.2.1 e5) gX11_159 hX9_isFull ⟨rfl, rfl⟩ ⟨Nat.le_of_ble_eq_true rfl, Nat.le_of_ble_eq_true rfl⟩ ⟨Nat.le_of_ble_eq_true rfl, Nat.le_of_ble_eq_true rfl⟩ rfl rfl rfl (Nat.le_of_ble_eq_true rfl) dX11_open_20 rfl ?_
    refine rv_ifz_eq (q := 26) (tgt := 36) E.1.x dX11_open_23 (by decide) rfl ?_ ?_
    · exact rC_throw (x := 3) E rfl (by decide +kernel) rC_xk3 rC_xi3 rC_xg3 rC_xn3 rC_xo3 E.2.2.2.2.2.2.2.2.1 (is := 163) (text := "no room for a change") (by decide +kernel) rfl rfl dX11_open_26 dX11_open_29 dX11_open_30 dX11_open_32 dX11_open_35 (Nat.le_of_ble_eq_true rfl) (Nat.le_of_ble_eq_true rfl) ⟨Nat.le_of_ble_eq_true rfl, Nat.le_of_ble_eq_true rfl⟩ ⟨Nat.le_of_ble_eq_true rfl, Nat.le_of_ble_eq_true rfl⟩
    · refine rv_aload_n (q := 37) E.1.x dX11_open_36 rfl rfl ?_
      refine rC_getX11 (q := 40) E.1 0 0 wfX11_10 rfl (Nat.le_of_ble_eq_true rfl) ⟨rfl, rfl⟩ rfl dX11_open_37 rfl ?_
      refine rv_bipush (q := 42) E.1.x dX11_open_40 rv_kb80 rfl ?_
      refine rv_b1 (fun r8 e7 => ?_)
      refine rC_calliX9 (q := 45) E.1 ⟨rfl, rfl⟩ (c9_baseOf E.1.2.2.1 e7) gX11_99 hX9_baseOf ⟨rfl, rfl⟩ ⟨Nat.le_of_ble_eq_true rfl, Nat.le_of_ble_eq_true rfl⟩ ⟨Nat.le_of_ble_eq_true rfl, Nat.le_of_ble_eq_true rfl⟩ rfl rfl rfl (Nat.le_of_ble_eq_true rfl) dX11_open_42 rfl ?_
      refine rv_istore_n (q := 46) (lv' := [_, _, _, _]) E.1.x dX11_open_45 (Nat.le_of_ble_eq_true rfl) rfl rfl rfl ?_
      refine rv_wk [true, true, true, false] ?_
      exact bx11_open_46 E M a1 r8
  · exact rC_throw (x := 3) E rfl (by decide +kernel) rC_xk3 rC_xi3 rC_xg3 rC_xn3 rC_xo3 E.2.2.2.2.2.2.2.2.1 (is := 163) (text := "no room for a change") (by decide +kernel) rfl rfl dX11_open_26 dX11_open_29 dX11_open_30 dX11_open_32 dX11_open_35 (Nat.le_of_ble_eq_true rfl) (Nat.le_of_ble_eq_true rfl) ⟨Nat.le_of_ble_eq_true rfl, Nat.le_of_ble_eq_true rfl⟩ ⟨Nat.le_of_ble_eq_true rfl, Nat.le_of_ble_eq_true rfl⟩
theorem c11_open_x {l : Launch} {D : va_G} {cI cZ cO : ClassId} {ad : Nat → Nat} {gh : rC_gh} {de : Nat} (hfl : l.stackTraces = false) (hI : rC_I ad gh) {sz : Nat} {M : rv_Mem} {a1 : Int32} {x : Nat} (h : f11_open gh M a1 = some (.inr x)) {mi : Nat} : vx_Met l yX11_open (rv_ws yX11_open cX11_open 4 (some .int)) rmx11_open (rM_Px D cI cZ cO ad gh mi de sz [.ref (ad 0), .int a1] M) (rC_fi (rC_A ad gh sz)) (rC_xc D cI cZ cO ad gh de (rC_A ad gh sz) x M) 1 6 (rC_A ad gh sz) := rM_xmet (Qc := fun z => rC_fi (rC_A ad gh z)) (XC := fun z => rC_xc D cI cZ cO ad gh de (rC_A ad gh z) x M) (FR := fun z => rC_A ad gh z) hfl hI rfl (by decide) (Nat.le_of_ble_eq_true rfl) (fun p e s m args below meth c E hT => ⟨qy11_open D cI cZ cO ad gh de below args s M, rfl, bx11_open E M a1⟩) h
set_option maxRecDepth 100000 in
theorem b11_comment {p : Program} {l : Launch} {e : Env} {s : State} {m : MethodId} {args : Array Value} {below : List Frame} {meth : Method} {c : Code} {D : va_G} {cI cZ cO : ClassId} {ad : Nat → Nat} {gh : rC_gh} {de : Nat} (E : rC_X D cI cZ cO ad gh RX11 cX11_comment 11 (some .int) p l s m args meth c) {mi : Nat} (hT : rM_tk mi de (rM_A ad gh s.heap.size) s) (M : rv_Mem) (a1 : Int32) (a2 : Int32) (a3 : Int32) (a4 : Int32) (a5 : Int32) (a6 : Int32) (a7 : Bool) : rv_M (rC_G D cI cZ cO ad gh de) (rC_A ad gh s.heap.size) p l e rm11_comment s m args below meth c 0 0 (qx11_comment D cI cZ cO ad gh de below args s M) (f11_comment gh M a1 a2 a3 a4 a5 a6 a7) 0 [some (.ref (ad 0)), some (.int a1), some (.int a2), some (.int a3), some (.int a4), some (.int a5), some (.int a6), some (.int (rv_i a7)), none, none, none] [] M := by
  unfold f11_comment
  refine rv_iload_n (q := 1) E.1.x dX11_comment_0 rfl rfl ?_
  refine rv_x1r (fun r2 e1 => ?_) (fun w3 e4 => rv_tr (fun _ => trivial))
  refine rC_xSv (q := 4) E (fun _ => c11_needPerson E.2.1 E.1.2.2.1 e1) gX11_152 hX11_needPerson ⟨rfl, rfl⟩ ⟨Nat.le_of_ble_eq_true rfl, Nat.le_of_ble_eq_true rfl⟩ ⟨Nat.le_of_ble_eq_true rfl, Nat.le_of_ble_eq_true rfl⟩ rfl rfl rfl (Nat.le_of_ble_eq_true rfl) dX11_comment_1 rfl ?_
  refine rv_aload_n (q := 5) E.1.x dX11_comment_4 rfl rfl ?_
  refine rv_iload_n (q := 6) E.1.x dX11_comment_5 rfl rfl ?_
  refine rv_x1r (fun r6 e5 => ?_) (fun w7 e8 => rv_tr (fun _ => trivial))
  refine rC_xVrX11 (q := 9) E ⟨rfl, rfl⟩ (fun _ => c11_needChange E.2.1 E.1.2.2.1 e5) gX11_91 hX11_needChange ⟨rfl, rfl⟩ ⟨Nat.le_of_ble_eq_true rfl, Nat.le_of_ble_eq_true rfl⟩ ⟨Nat.le_of_ble_eq_true rfl, Nat.le_of_ble_eq_true rfl⟩ rfl rfl rfl (Nat.le_of_ble_eq_true rfl) dX11_comment_6 rfl ?_
  refine rv_astore (q := 11) (lv' := [_, _, _, _, _, _, _, _, _, _, _]) E.1.x dX11_comment_9 (Nat.le_of_ble_eq_true rfl) rfl rfl rfl ?_
  refine rv_aload (q := 13) E.1.x dX11_comment_11 rfl rfl ?_
  refine rv_iload_n (q := 14) E.1.x dX11_comment_13 rfl rfl ?_
  refine rv_x1r (fun r10 e9 => ?_) (fun w11 e12 => rv_tr (fun _ => trivial))
  refine rC_xSi (q := 17) E (fun _ => c11_needSet E.2.1 E.1.2.2.1 e9) gX11_95 hX11_needSet ⟨rfl, rfl⟩ ⟨Nat.le_of_ble_eq_true rfl, Nat.le_of_ble_eq_true rfl⟩ ⟨Nat.le_of_ble_eq_true rfl, Nat.le_of_ble_eq_true rfl⟩ rfl rfl rfl (Nat.le_of_ble_eq_true rfl) dX11_comment_14 rfl ?_
  refine rv_istore (q := 19) (lv' := [_, _, _, _, _, _, _, _, _, _, _]) E.1.x dX11_comment_17 (Nat.le_of_ble_eq_true rfl) rfl rfl rfl ?_
  refine rv_iload (q := 21) E.1.x dX11_comment_19 rfl rfl ?_
  refine rv_x1r (fun r14 e13 => ?_) (fun w15 e16 => rv_tr (fun _ => trivial))
  refine rC_xSv (q := 24) E (fun _ => c11_needFile E.2.1 E.1.2.2.1 e13) gX11_102 hX11_needFile ⟨rfl, rfl⟩ ⟨Nat.le_of_ble_eq_true rfl, Nat.le_of_ble_eq_true rfl⟩ ⟨Nat.le_of_ble_eq_true rfl, Nat.le_of_ble_eq_true rfl⟩ rfl rfl rfl (Nat.le_of_ble_eq_true rfl) dX11_comment_21 rfl ?_
  refine rv_iload (q := 26) E.1.x dX11_comment_24 rfl rfl ?_
  refine rv_iconst (q := 27) E.1.x dX11_comment_26 rv_ki1 rfl ?_
  refine rv_icmp_ge (q := 30) (tgt := 41) E.1.x dX11_comment_27 (by decide) rfl ?_ ?_
  · exact rv_tr (fun _ => trivial)
  · refine rv_aload_n (q := 42) E.1.x dX11_comment_41 rfl rfl ?_
    refine rv_iload (q := 44) E.1.x dX11_comment_42 rfl rfl ?_
    refine rv_iload (q := 46) E.1.x dX11_comment_44 rfl rfl ?_
    refine rv_iload (q := 48) E.1.x dX11_comment_46 rfl rfl ?_
    refine rv_iload (q := 50) E.1.x dX11_comment_48 rfl rfl ?_
    refine rv_x1r (fun r18 e17 => ?_) (fun w19 e20 => rv_tr (fun _ => trivial))
    refine rC_xVvX11 (q := 53) E ⟨rfl, rfl⟩ (fun _ => c11_needLines E.2.1 E.1.2.2.1 e17) gX11_279 hX11_needLines ⟨rfl, rfl⟩ ⟨Nat.le_of_ble_eq_true rfl, Nat.le_of_ble_eq_true rfl⟩ ⟨Nat.le_of_ble_eq_true rfl, Nat.le_of_ble_eq_true rfl⟩ rfl rfl rfl (Nat.le_of_ble_eq_true rfl) dX11_comment_50 rfl ?_
    refine rv_iload_n (q := 54) E.1.x dX11_comment_53 rfl rfl ?_
    refine rv_aload (q := 56) E.1.x dX11_comment_54 rfl rfl ?_
    refine rv_x1r (fun r22 e21 => ?_) (fun w23 e24 => rv_tr (fun _ => trivial))
    refine rC_xSv (q := 59) E (fun _ => c11_needSeen E.2.1 E.1.2.2.1 e21) gX11_283 hX11_needSeen ⟨rfl, rfl⟩ ⟨Nat.le_of_ble_eq_true rfl, Nat.le_of_ble_eq_true rfl⟩ ⟨Nat.le_of_ble_eq_true rfl, Nat.le_of_ble_eq_true rfl⟩ rfl rfl rfl (Nat.le_of_ble_eq_true rfl) dX11_comment_56 rfl ?_
    refine rv_aload_n (q := 60) E.1.x dX11_comment_59 rfl rfl ?_
    refine rv_x1r (fun r26 e25 => ?_) (fun w27 e28 => rv_tr (fun _ => trivial))
    refine rC_xVvX11 (q := 63) E ⟨rfl, rfl⟩ (fun _ => c11_needRoomForComment E.2.1 E.1.2.2.1 e25) gX11_286 hX11_needRoomForComment ⟨rfl, rfl⟩ ⟨Nat.le_of_ble_eq_true rfl, Nat.le_of_ble_eq_true rfl⟩ ⟨Nat.le_of_ble_eq_true rfl, Nat.le_of_ble_eq_true rfl⟩ rfl rfl rfl (Nat.le_of_ble_eq_true rfl) dX11_comment_60 rfl ?_
    refine rv_aload_n (q := 64) E.1.x dX11_comment_63 rfl rfl ?_
    refine rC_getX11 (q := 67) E.1 0 6 wfX11_53 rfl (Nat.le_of_ble_eq_true rfl) ⟨rfl, rfl⟩ rfl dX11_comment_64 rfl ?_
    refine rC_lsz (q := 70) E.1 1 (by decide) (cJ_size E.1.2.2.1 1) gX11_155 ⟨Nat.le_of_ble_eq_true rfl, Nat.le_of_ble_eq_true rfl⟩ ⟨Nat.le_of_ble_eq_true rfl, Nat.le_of_ble_eq_true rfl⟩ rfl (Nat.le_of_ble_eq_true rfl) dX11_comment_67 rfl ?_
    refine rv_istore (q := 72) (lv' := [_, _, _, _, _, _, _, _, _, _, _]) E.1.x dX11_comment_70 (Nat.le_of_ble_eq_true rfl) rfl rfl rfl ?_
    refine rv_aload_n (q := 73) E.1.x dX11_comment_72 rfl rfl ?_
    refine rC_getX11 (q := 76) E.1 0 6 wfX11_53 rfl (Nat.le_of_ble_eq_true rfl) ⟨rfl, rfl⟩ rfl dX11_comment_73 rfl ?_
    refine rv_wk [false, true, true, true, true, true, true, true, false, false, true] ?_
    exact b11_comment_76 E hT M a1 a2 a3 a4 a5 a6 a7 (nI (gh.1 1))
theorem c11_comment {l : Launch} {D : va_G} {cI cZ cO : ClassId} {ad : Nat → Nat} {gh : rC_gh} {de : Nat} (hfl : l.stackTraces = false) (hI : rC_I ad gh) {sz : Nat} {M : rv_Mem} {a1 : Int32} {a2 : Int32} {a3 : Int32} {a4 : Int32} {a5 : Int32} {a6 : Int32} {a7 : Bool} {r : Int32} {gh' : rC_gh} {M1 : rv_Mem} (h : f11_comment gh M a1 a2 a3 a4 a5 a6 a7 = some (.inl (r, gh', M1))) {mi : Nat} : vx_Met l yX11_comment (rv_ws yX11_comment cX11_comment 11 (some .int)) rm11_comment (rM_Px D cI cZ cO ad gh mi de sz [.ref (ad 0), .int a1, .int a2, .int a3, .int a4, .int a5, .int a6, .int (rv_i a7)] M) (rM_qi D cI cZ cO ad gh de sz r gh' M1) (rC_fx (rM_A ad gh sz)) 3 110 (rM_A ad gh sz) := rM_xmet (Qc := fun z => rM_qi D cI cZ cO ad gh de z r gh' M1) (XC := fun z => rC_fx (rM_A ad gh z)) (FR := fun z => rM_A ad gh z) hfl hI rfl (by decide) (Nat.le_of_ble_eq_true rfl) (fun p e s m args below meth c E hT => ⟨qx11_comment D cI cZ cO ad gh de below args s M, rfl, b11_comment E hT M a1 a2 a3 a4 a5 a6 a7⟩) h
set_option maxRecDepth 100000 in
theorem bx11_comment {p : Program} {l : Launch} {e : Env} {s : State} {m : MethodId} {args : Array Value} {below : List Frame} {meth : Method} {c : Code} {D : va_G} {cI cZ cO : ClassId} {ad : Nat → Nat} {gh : rC_gh} {de : Nat} (E : rC_X D cI cZ cO ad gh RX11 cX11_comment 11 (some .int) p l s m args meth c) (M : rv_Mem) (a1 : Int32) (a2 : Int32) (a3 : Int32) (a4 : Int32) (a5 : Int32) (a6 : Int32) (a7 : Bool) : rv_M (rC_G D cI cZ cO ad gh de) (rC_A ad gh s.heap.size) p l e rmx11_comment s m args below meth c 0 0 (qy11_comment D cI cZ cO ad gh de below args s M) (f11_comment gh M a1 a2 a3 a4 a5 a6 a7) 0 [some (.ref (ad 0)), some (.int a1), some (.int a2), some (.int a3), some (.int a4), some (.int a5), some (.int a6), some (.int (rv_i a7)), none, none, none] [] M := by
  unfold f11_comment
  refine rv_iload_n (q := 1) E.1.x dX11_comment_0 rfl rfl ?_
  refine rv_x1r (fun r2 e1 => ?_) (fun w3 e4 => rC_ySv E (fun _ => c11_needPerson_x E.2.1 E.1.2.2.1 e4) rfl gX11_152 hX11_needPerson ⟨rfl, rfl⟩ ⟨Nat.le_of_ble_eq_true rfl, Nat.le_of_ble_eq_true rfl⟩ ⟨Nat.le_of_ble_eq_true rfl, Nat.le_of_ble_eq_true rfl⟩ rfl rfl rfl (Nat.le_of_ble_eq_true rfl) dX11_comment_1 ⟨Nat.le_of_ble_eq_true rfl, Nat.le_of_ble_eq_true rfl⟩)
  refine rC_xSv (q := 4) E (fun _ => c11_needPerson E.2.1 E.1.2.2.1 e1) gX11_152 hX11_needPerson ⟨rfl, rfl⟩ ⟨Nat.le_of_ble_eq_true rfl, Nat.le_of_ble_eq_true rfl⟩ ⟨Nat.le_of_ble_eq_true rfl, Nat.le_of_ble_eq_true rfl⟩ rfl rfl rfl (Nat.le_of_ble_eq_true rfl) dX11_comment_1 rfl ?_
  refine rv_aload_n (q := 5) E.1.x dX11_comment_4 rfl rfl ?_
  refine rv_iload_n (q := 6) E.1.x dX11_comment_5 rfl rfl ?_
  refine rv_x1r (fun r6 e5 => ?_) (fun w7 e8 => rC_yVrX11 E ⟨rfl, rfl⟩ (fun _ => c11_needChange_x E.2.1 E.1.2.2.1 e8) rfl gX11_91 hX11_needChange ⟨rfl, rfl⟩ ⟨Nat.le_of_ble_eq_true rfl, Nat.le_of_ble_eq_true rfl⟩ ⟨Nat.le_of_ble_eq_true rfl, Nat.le_of_ble_eq_true rfl⟩ rfl rfl rfl (Nat.le_of_ble_eq_true rfl) dX11_comment_6 ⟨Nat.le_of_ble_eq_true rfl, Nat.le_of_ble_eq_true rfl⟩)
  refine rC_xVrX11 (q := 9) E ⟨rfl, rfl⟩ (fun _ => c11_needChange E.2.1 E.1.2.2.1 e5) gX11_91 hX11_needChange ⟨rfl, rfl⟩ ⟨Nat.le_of_ble_eq_true rfl, Nat.le_of_ble_eq_true rfl⟩ ⟨Nat.le_of_ble_eq_true rfl, Nat.le_of_ble_eq_true rfl⟩ rfl rfl rfl (Nat.le_of_ble_eq_true rfl) dX11_comment_6 rfl ?_
  refine rv_astore (q := 11) (lv' := [_, _, _, _, _, _, _, _, _, _, _]) E.1.x dX11_comment_9 (Nat.le_of_ble_eq_true rfl) rfl rfl rfl ?_
  refine rv_aload (q := 13) E.1.x dX11_comment_11 rfl rfl ?_
  refine rv_iload_n (q := 14) E.1.x dX11_comment_13 rfl rfl ?_
  refine rv_x1r (fun r10 e9 => ?_) (fun w11 e12 => rC_ySi E (fun _ => c11_needSet_x E.2.1 E.1.2.2.1 e12) rfl gX11_95 hX11_needSet ⟨rfl, rfl⟩ ⟨Nat.le_of_ble_eq_true rfl, Nat.le_of_ble_eq_true rfl⟩ ⟨Nat.le_of_ble_eq_true rfl, Nat.le_of_ble_eq_true rfl⟩ rfl rfl rfl (Nat.le_of_ble_eq_true rfl) dX11_comment_14 ⟨Nat.le_of_ble_eq_true rfl, Nat.le_of_ble_eq_true rfl⟩)
  refine rC_xSi (q := 17) E (fun _ => c11_needSet E.2.1 E.1.2.2.1 e9) gX11_95 hX11_needSet ⟨rfl, rfl⟩ ⟨Nat.le_of_ble_eq_true rfl, Nat.le_of_ble_eq_true rfl⟩ ⟨Nat.le_of_ble_eq_true rfl, Nat.le_of_ble_eq_true rfl⟩ rfl rfl rfl (Nat.le_of_ble_eq_true rfl) dX11_comment_14 rfl ?_
  refine rv_istore (q := 19) (lv' := [_, _, _, _, _, _, _, _, _, _, _]) E.1.x dX11_comment_17 (Nat.le_of_ble_eq_true rfl) rfl rfl rfl ?_
  refine rv_iload (q := 21) E.1.x dX11_comment_19 rfl rfl ?_
  refine rv_x1r (fun r14 e13 => ?_) (fun w15 e16 => rC_ySv E (fun _ => c11_needFile_x E.2.1 E.1.2.2.1 e16) rfl gX11_102 hX11_needFile ⟨rfl, rfl⟩ ⟨Nat.le_of_ble_eq_true rfl, Nat.le_of_ble_eq_true rfl⟩ ⟨Nat.le_of_ble_eq_true rfl, Nat.le_of_ble_eq_true rfl⟩ rfl rfl rfl (Nat.le_of_ble_eq_true rfl) dX11_comment_21 ⟨Nat.le_of_ble_eq_true rfl, Nat.le_of_ble_eq_true rfl⟩)
  refine rC_xSv (q := 24) E (fun _ => c11_needFile E.2.1 E.1.2.2.1 e13) gX11_102 hX11_needFile ⟨rfl, rfl⟩ ⟨Nat.le_of_ble_eq_true rfl, Nat.le_of_ble_eq_true rfl⟩ ⟨Nat.le_of_ble_eq_true rfl, Nat.le_of_ble_eq_true rfl⟩ rfl rfl rfl (Nat.le_of_ble_eq_true rfl) dX11_comment_21 rfl ?_
  refine rv_iload (q := 26) E.1.x dX11_comment_24 rfl rfl ?_
  refine rv_iconst (q := 27) E.1.x dX11_comment_26 rv_ki1 rfl ?_
  refine rv_icmp_ge (q := 30) (tgt := 41) E.1.x dX11_comment_27 (by decide) rfl ?_ ?_
  · exact rC_throwW (x := 2) E rfl (by decide +kernel) rC_xk2 rC_xi2 rC_xg2 rC_xn2 rC_xo2 E.2.2.2.2.2.2.2.1 (is := 277) (text := "no lines") (by decide +kernel) rfl rfl dX11_comment_30 dX11_comment_33 dX11_comment_34 dX11_comment_37 dX11_comment_40 (Nat.le_of_ble_eq_true rfl) (Nat.le_of_ble_eq_true rfl) ⟨Nat.le_of_ble_eq_true rfl, Nat.le_of_ble_eq_true rfl⟩ ⟨Nat.le_of_ble_eq_true rfl, Nat.le_of_ble_eq_true rfl⟩
  · refine rv_aload_n (q := 42) E.1.x dX11_comment_41 rfl rfl ?_
    refine rv_iload (q := 44) E.1.x dX11_comment_42 rfl rfl ?_
    refine rv_iload (q := 46) E.1.x dX11_comment_44 rfl rfl ?_
    refine rv_iload (q := 48) E.1.x dX11_comment_46 rfl rfl ?_
    refine rv_iload (q := 50) E.1.x dX11_comment_48 rfl rfl ?_
    refine rv_x1r (fun r18 e17 => ?_) (fun w19 e20 => rC_yVvX11 E ⟨rfl, rfl⟩ (fun _ => c11_needLines_x E.2.1 E.1.2.2.1 e20) rfl gX11_279 hX11_needLines ⟨rfl, rfl⟩ ⟨Nat.le_of_ble_eq_true rfl, Nat.le_of_ble_eq_true rfl⟩ ⟨Nat.le_of_ble_eq_true rfl, Nat.le_of_ble_eq_true rfl⟩ rfl rfl rfl (Nat.le_of_ble_eq_true rfl) dX11_comment_50 ⟨Nat.le_of_ble_eq_true rfl, Nat.le_of_ble_eq_true rfl⟩)
    refine rC_xVvX11 (q := 53) E ⟨rfl, rfl⟩ (fun _ => c11_needLines E.2.1 E.1.2.2.1 e17) gX11_279 hX11_needLines ⟨rfl, rfl⟩ ⟨Nat.le_of_ble_eq_true rfl, Nat.le_of_ble_eq_true rfl⟩ ⟨Nat.le_of_ble_eq_true rfl, Nat.le_of_ble_eq_true rfl⟩ rfl rfl rfl (Nat.le_of_ble_eq_true rfl) dX11_comment_50 rfl ?_
    refine rv_iload_n (q := 54) E.1.x dX11_comment_53 rfl rfl ?_
    refine rv_aload (q := 56) E.1.x dX11_comment_54 rfl rfl ?_
    refine rv_x1r (fun r22 e21 => ?_) (fun w23 e24 => rC_ySv E (fun _ => c11_needSeen_x E.2.1 E.1.2.2.1 e24) rfl gX11_283 hX11_needSeen ⟨rfl, rfl⟩ ⟨Nat.le_of_ble_eq_true rfl, Nat.le_of_ble_eq_true rfl⟩ ⟨Nat.le_of_ble_eq_true rfl, Nat.le_of_ble_eq_true rfl⟩ rfl rfl rfl (Nat.le_of_ble_eq_true rfl) dX11_comment_56 ⟨Nat.le_of_ble_eq_true rfl, Nat.le_of_ble_eq_true rfl⟩)
    refine rC_xSv (q := 59) E (fun _ => c11_needSeen E.2.1 E.1.2.2.1 e21) gX11_283 hX11_needSeen ⟨rfl, rfl⟩ ⟨Nat.le_of_ble_eq_true rfl, Nat.le_of_ble_eq_true rfl⟩ ⟨Nat.le_of_ble_eq_true rfl, Nat.le_of_ble_eq_true rfl⟩ rfl rfl rfl (Nat.le_of_ble_eq_true rfl) dX11_comment_56 rfl ?_
    refine rv_aload_n (q := 60) E.1.x dX11_comment_59 rfl rfl ?_
    refine rv_x1r (fun r26 e25 => ?_) (fun w27 e28 => rC_yVvX11 E ⟨rfl, rfl⟩ (fun _ => c11_needRoomForComment_x E.2.1 E.1.2.2.1 e28) rfl gX11_286 hX11_needRoomForComment ⟨rfl, rfl⟩ ⟨Nat.le_of_ble_eq_true rfl, Nat.le_of_ble_eq_true rfl⟩ ⟨Nat.le_of_ble_eq_true rfl, Nat.le_of_ble_eq_true rfl⟩ rfl rfl rfl (Nat.le_of_ble_eq_true rfl) dX11_comment_60 ⟨Nat.le_of_ble_eq_true rfl, Nat.le_of_ble_eq_true rfl⟩)
    refine rC_xVvX11 (q := 63) E ⟨rfl, rfl⟩ (fun _ => c11_needRoomForComment E.2.1 E.1.2.2.1 e25) gX11_286 hX11_needRoomForComment ⟨rfl, rfl⟩ ⟨Nat.le_of_ble_eq_true rfl, Nat.le_of_ble_eq_true rfl⟩ ⟨Nat.le_of_ble_eq_true rfl, Nat.le_of_ble_eq_true rfl⟩ rfl rfl rfl (Nat.le_of_ble_eq_true rfl) dX11_comment_60 rfl ?_
    refine rv_aload_n (q := 64) E.1.x dX11_comment_63 rfl rfl ?_
    refine rC_getX11 (q := 67) E.1 0 6 wfX11_53 rfl (Nat.le_of_ble_eq_true rfl) ⟨rfl, rfl⟩ rfl dX11_comment_64 rfl ?_
    refine rC_lsz (q := 70) E.1 1 (by decide) (cJ_size E.1.2.2.1 1) gX11_155 ⟨Nat.le_of_ble_eq_true rfl, Nat.le_of_ble_eq_true rfl⟩ ⟨Nat.le_of_ble_eq_true rfl, Nat.le_of_ble_eq_true rfl⟩ rfl (Nat.le_of_ble_eq_true rfl) dX11_comment_67 rfl ?_
    refine rv_istore (q := 72) (lv' := [_, _, _, _, _, _, _, _, _, _, _]) E.1.x dX11_comment_70 (Nat.le_of_ble_eq_true rfl) rfl rfl rfl ?_
    refine rv_aload_n (q := 73) E.1.x dX11_comment_72 rfl rfl ?_
    refine rC_getX11 (q := 76) E.1 0 6 wfX11_53 rfl (Nat.le_of_ble_eq_true rfl) ⟨rfl, rfl⟩ rfl dX11_comment_73 rfl ?_
    refine rv_wk [false, true, true, true, true, true, true, true, false, false, true] ?_
    exact bx11_comment_76 E M a1 a2 a3 a4 a5 a6 a7 (nI (gh.1 1))
theorem c11_comment_x {l : Launch} {D : va_G} {cI cZ cO : ClassId} {ad : Nat → Nat} {gh : rC_gh} {de : Nat} (hfl : l.stackTraces = false) (hI : rC_I ad gh) {sz : Nat} {M : rv_Mem} {a1 : Int32} {a2 : Int32} {a3 : Int32} {a4 : Int32} {a5 : Int32} {a6 : Int32} {a7 : Bool} {x : Nat} (h : f11_comment gh M a1 a2 a3 a4 a5 a6 a7 = some (.inr x)) {mi : Nat} : vx_Met l yX11_comment (rv_ws yX11_comment cX11_comment 11 (some .int)) rmx11_comment (rM_Px D cI cZ cO ad gh mi de sz [.ref (ad 0), .int a1, .int a2, .int a3, .int a4, .int a5, .int a6, .int (rv_i a7)] M) (rC_fi (rC_A ad gh sz)) (rC_xc D cI cZ cO ad gh de (rC_A ad gh sz) x M) 1 6 (rC_A ad gh sz) := rM_xmet (Qc := fun z => rC_fi (rC_A ad gh z)) (XC := fun z => rC_xc D cI cZ cO ad gh de (rC_A ad gh z) x M) (FR := fun z => rC_A ad gh z) hfl hI rfl (by decide) (Nat.le_of_ble_eq_true rfl) (fun p e s m args below meth c E hT => ⟨qy11_comment D cI cZ cO ad gh de below args s M, rfl, bx11_comment E M a1 a2 a3 a4 a5 a6 a7⟩) h
set_option maxRecDepth 100000 in
theorem b11_answer {p : Program} {l : Launch} {e : Env} {s : State} {m : MethodId} {args : Array Value} {below : List Frame} {meth : Method} {c : Code} {D : va_G} {cI cZ cO : ClassId} {ad : Nat → Nat} {gh : rC_gh} {de : Nat} (E : rC_X D cI cZ cO ad gh RX11 cX11_answer 5 (some .int) p l s m args meth c) {mi : Nat} (hT : rM_tk mi de (rM_A ad gh s.heap.size) s) (M : rv_Mem) (a1 : Int32) (a2 : Int32) (a3 : Bool) : rv_M (rC_G D cI cZ cO ad gh de) (rC_A ad gh s.heap.size) p l e rm11_answer s m args below meth c 0 0 (qx11_answer D cI cZ cO ad gh de below args s M) (f11_answer gh M a1 a2 a3) 0 [some (.ref (ad 0)), some (.int a1), some (.int a2), some (.int (rv_i a3)), none] [] M := by
  unfold f11_answer
  refine rv_iload_n (q := 1) E.1.x dX11_answer_0 rfl rfl ?_
  refine rv_x1r (fun r2 e1 => ?_) (fun w3 e4 => rv_tr (fun _ => trivial))
  refine rC_xSv (q := 4) E (fun _ => c11_needPerson E.2.1 E.1.2.2.1 e1) gX11_152 hX11_needPerson ⟨rfl, rfl⟩ ⟨Nat.le_of_ble_eq_true rfl, Nat.le_of_ble_eq_true rfl⟩ ⟨Nat.le_of_ble_eq_true rfl, Nat.le_of_ble_eq_true rfl⟩ rfl rfl rfl (Nat.le_of_ble_eq_true rfl) dX11_answer_1 rfl ?_
  refine rv_aload_n (q := 5) E.1.x dX11_answer_4 rfl rfl ?_
  refine rv_iload_n (q := 6) E.1.x dX11_answer_5 rfl rfl ?_
  refine rv_x1r (fun r6 e5 => ?_) (fun w7 e8 => rv_tr (fun _ => trivial))
  refine rC_xVrX11 (q := 9) E ⟨rfl, rfl⟩ (fun _ => c11_needComment E.2.1 E.1.2.2.1 e5) gX11_299 hX11_needComment ⟨rfl, rfl⟩ ⟨Nat.le_of_ble_eq_true rfl, Nat.le_of_ble_eq_true rfl⟩ ⟨Nat.le_of_ble_eq_true rfl, Nat.le_of_ble_eq_true rfl⟩ rfl rfl rfl (Nat.le_of_ble_eq_true rfl) dX11_answer_6 rfl ?_
  refine rv_astore (q := 11) (lv' := [_, _, _, _, _]) E.1.x dX11_answer_9 (Nat.le_of_ble_eq_true rfl) rfl rfl rfl ?_
  refine rv_aload (q := 13) E.1.x dX11_answer_11 rfl rfl ?_
  refine rv_g (fun g9 => ?_)
  refine rC_getX1 (q := 16) E.1 r6 4 wfX11_303 rfl (Nat.le_of_ble_eq_true rfl) (rC_at_of g9) rfl dX11_answer_13 rfl ?_
  refine rv_ifz_eq (q := 19) (tgt := 28) E.1.x dX11_answer_16 (by decide) rfl ?_ ?_
  · refine rv_aload (q := 21) E.1.x dX11_answer_19 rfl rfl ?_
    refine rC_getX1 (q := 24) E.1 r6 1 wfX11_306 rfl (Nat.le_of_ble_eq_true rfl) (rC_at_of g9) rfl dX11_answer_21 rfl ?_
    refine rv_iload_n (q := 25) E.1.x dX11_answer_24 rfl rfl ?_
    refine rv_icmp_eq (q := 28) (tgt := 39) E.1.x dX11_answer_25 (by decide) rfl ?_ ?_
    · exact rv_tr (fun _ => trivial)
    · refine rv_iload_n (q := 40) E.1.x dX11_answer_39 rfl rfl ?_
      refine rv_aload_n (q := 41) E.1.x dX11_answer_40 rfl rfl ?_
      refine rv_aload (q := 43) E.1.x dX11_answer_41 rfl rfl ?_
      refine rC_getX1 (q := 46) E.1 r6 3 wfX11_311 rfl (Nat.le_of_ble_eq_true rfl) (rC_at_of g9) rfl dX11_answer_43 rfl ?_
      refine rv_g (fun g10 => ?_)
      refine rC_getX7 (q := 49) E.1 (gh.2 r6) 0 wfX11_315 rfl (Nat.le_of_ble_eq_true rfl) (rC_at_of g10) rfl dX11_answer_46 rfl ?_
      refine rv_x1r (fun r12 e11 => ?_) (fun w13 e14 => rv_tr (fun _ => trivial))
      refine rC_xVrX11 (q := 52) E ⟨rfl, rfl⟩ (fun _ => c11_needChange E.2.1 E.1.2.2.1 e11) gX11_91 hX11_needChange ⟨rfl, rfl⟩ ⟨Nat.le_of_ble_eq_true rfl, Nat.le_of_ble_eq_true rfl⟩ ⟨Nat.le_of_ble_eq_true rfl, Nat.le_of_ble_eq_true rfl⟩ rfl rfl rfl (Nat.le_of_ble_eq_true rfl) dX11_answer_49 rfl ?_
      refine rv_x1r (fun r16 e15 => ?_) (fun w17 e18 => rv_tr (fun _ => trivial))
      refine rC_xSv (q := 55) E (fun _ => c11_needSeen E.2.1 E.1.2.2.1 e15) gX11_283 hX11_needSeen ⟨rfl, rfl⟩ ⟨Nat.le_of_ble_eq_true rfl, Nat.le_of_ble_eq_true rfl⟩ ⟨Nat.le_of_ble_eq_true rfl, Nat.le_of_ble_eq_true rfl⟩ rfl rfl rfl (Nat.le_of_ble_eq_true rfl) dX11_answer_52 rfl ?_
      refine rv_aload_n (q := 56) E.1.x dX11_answer_55 rfl rfl ?_
      refine rv_x1r (fun r20 e19 => ?_) (fun w21 e22 => rv_tr (fun _ => trivial))
      refine rC_xVvX11 (q := 59) E ⟨rfl, rfl⟩ (fun _ => c11_needRoomForComment E.2.1 E.1.2.2.1 e19) gX11_286 hX11_needRoomForComment ⟨rfl, rfl⟩ ⟨Nat.le_of_ble_eq_true rfl, Nat.le_of_ble_eq_true rfl⟩ ⟨Nat.le_of_ble_eq_true rfl, Nat.le_of_ble_eq_true rfl⟩ rfl rfl rfl (Nat.le_of_ble_eq_true rfl) dX11_answer_56 rfl ?_
      refine rv_aload_n (q := 60) E.1.x dX11_answer_59 rfl rfl ?_
      refine rC_getX11 (q := 63) E.1 0 6 wfX11_53 rfl (Nat.le_of_ble_eq_true rfl) ⟨rfl, rfl⟩ rfl dX11_answer_60 rfl ?_
      refine rv_wk [true, true, true, true, true] ?_
      exact b11_answer_63 E hT M a1 a2 a3 r6
  · exact rv_tr (fun _ => trivial)
theorem c11_answer {l : Launch} {D : va_G} {cI cZ cO : ClassId} {ad : Nat → Nat} {gh : rC_gh} {de : Nat} (hfl : l.stackTraces = false) (hI : rC_I ad gh) {sz : Nat} {M : rv_Mem} {a1 : Int32} {a2 : Int32} {a3 : Bool} {r : Int32} {gh' : rC_gh} {M1 : rv_Mem} (h : f11_answer gh M a1 a2 a3 = some (.inl (r, gh', M1))) {mi : Nat} : vx_Met l yX11_answer (rv_ws yX11_answer cX11_answer 5 (some .int)) rm11_answer (rM_Px D cI cZ cO ad gh mi de sz [.ref (ad 0), .int a1, .int a2, .int (rv_i a3)] M) (rM_qi D cI cZ cO ad gh de sz r gh' M1) (rC_fx (rM_A ad gh sz)) 2 105 (rM_A ad gh sz) := rM_xmet (Qc := fun z => rM_qi D cI cZ cO ad gh de z r gh' M1) (XC := fun z => rC_fx (rM_A ad gh z)) (FR := fun z => rM_A ad gh z) hfl hI rfl (by decide) (Nat.le_of_ble_eq_true rfl) (fun p e s m args below meth c E hT => ⟨qx11_answer D cI cZ cO ad gh de below args s M, rfl, b11_answer E hT M a1 a2 a3⟩) h
set_option maxRecDepth 100000 in
theorem bx11_answer {p : Program} {l : Launch} {e : Env} {s : State} {m : MethodId} {args : Array Value} {below : List Frame} {meth : Method} {c : Code} {D : va_G} {cI cZ cO : ClassId} {ad : Nat → Nat} {gh : rC_gh} {de : Nat} (E : rC_X D cI cZ cO ad gh RX11 cX11_answer 5 (some .int) p l s m args meth c) (M : rv_Mem) (a1 : Int32) (a2 : Int32) (a3 : Bool) : rv_M (rC_G D cI cZ cO ad gh de) (rC_A ad gh s.heap.size) p l e rmx11_answer s m args below meth c 0 0 (qy11_answer D cI cZ cO ad gh de below args s M) (f11_answer gh M a1 a2 a3) 0 [some (.ref (ad 0)), some (.int a1), some (.int a2), some (.int (rv_i a3)), none] [] M := by
  unfold f11_answer
  refine rv_iload_n (q := 1) E.1.x dX11_answer_0 rfl rfl ?_
  refine rv_x1r (fun r2 e1 => ?_) (fun w3 e4 => rC_ySv E (fun _ => c11_needPerson_x E.2.1 E.1.2.2.1 e4) rfl gX11_152 hX11_needPerson ⟨rfl, rfl⟩ ⟨Nat.le_of_ble_eq_true rfl, Nat.le_of_ble_eq_true rfl⟩ ⟨Nat.le_of_ble_eq_true rfl, Nat.le_of_ble_eq_true rfl⟩ rfl rfl rfl (Nat.le_of_ble_eq_true rfl) dX11_answer_1 ⟨Nat.le_of_ble_eq_true rfl, Nat.le_of_ble_eq_true rfl⟩)
  refine rC_xSv (q := 4) E (fun _ => c11_needPerson E.2.1 E.1.2.2.1 e1) gX11_152 hX11_needPerson ⟨rfl, rfl⟩ ⟨Nat.le_of_ble_eq_true rfl, Nat.le_of_ble_eq_true rfl⟩ ⟨Nat.le_of_ble_eq_true rfl, Nat.le_of_ble_eq_true rfl⟩ rfl rfl rfl (Nat.le_of_ble_eq_true rfl) dX11_answer_1 rfl ?_
  refine rv_aload_n (q := 5) E.1.x dX11_answer_4 rfl rfl ?_
  refine rv_iload_n (q := 6) E.1.x dX11_answer_5 rfl rfl ?_
  refine rv_x1r (fun r6 e5 => ?_) (fun w7 e8 => rC_yVrX11 E ⟨rfl, rfl⟩ (fun _ => c11_needComment_x E.2.1 E.1.2.2.1 e8) rfl gX11_299 hX11_needComment ⟨rfl, rfl⟩ ⟨Nat.le_of_ble_eq_true rfl, Nat.le_of_ble_eq_true rfl⟩ ⟨Nat.le_of_ble_eq_true rfl, Nat.le_of_ble_eq_true rfl⟩ rfl rfl rfl (Nat.le_of_ble_eq_true rfl) dX11_answer_6 ⟨Nat.le_of_ble_eq_true rfl, Nat.le_of_ble_eq_true rfl⟩)
  refine rC_xVrX11 (q := 9) E ⟨rfl, rfl⟩ (fun _ => c11_needComment E.2.1 E.1.2.2.1 e5) gX11_299 hX11_needComment ⟨rfl, rfl⟩ ⟨Nat.le_of_ble_eq_true rfl, Nat.le_of_ble_eq_true rfl⟩ ⟨Nat.le_of_ble_eq_true rfl, Nat.le_of_ble_eq_true rfl⟩ rfl rfl rfl (Nat.le_of_ble_eq_true rfl) dX11_answer_6 rfl ?_
  refine rv_astore (q := 11) (lv' := [_, _, _, _, _]) E.1.x dX11_answer_9 (Nat.le_of_ble_eq_true rfl) rfl rfl rfl ?_
  refine rv_aload (q := 13) E.1.x dX11_answer_11 rfl rfl ?_
  refine rv_g (fun g9 => ?_)
  refine rC_getX1 (q := 16) E.1 r6 4 wfX11_303 rfl (Nat.le_of_ble_eq_true rfl) (rC_at_of g9) rfl dX11_answer_13 rfl ?_
  refine rv_ifz_eq (q := 19) (tgt := 28) E.1.x dX11_answer_16 (by decide) rfl ?_ ?_
  · refine rv_aload (q := 21) E.1.x dX11_answer_19 rfl rfl ?_
    refine rC_getX1 (q := 24) E.1 r6 1 wfX11_306 rfl (Nat.le_of_ble_eq_true rfl) (rC_at_of g9) rfl dX11_answer_21 rfl ?_
    refine rv_iload_n (q := 25) E.1.x dX11_answer_24 rfl rfl ?_
    refine rv_icmp_eq (q := 28) (tgt := 39) E.1.x dX11_answer_25 (by decide) rfl ?_ ?_
    · exact rC_throwW (x := 3) E rfl (by decide +kernel) rC_xk3 rC_xi3 rC_xg3 rC_xn3 rC_xo3 E.2.2.2.2.2.2.2.2.1 (is := 309) (text := "the comment takes no answers") (by decide +kernel) rfl rfl dX11_answer_28 dX11_answer_31 dX11_answer_32 dX11_answer_35 dX11_answer_38 (Nat.le_of_ble_eq_true rfl) (Nat.le_of_ble_eq_true rfl) ⟨Nat.le_of_ble_eq_true rfl, Nat.le_of_ble_eq_true rfl⟩ ⟨Nat.le_of_ble_eq_true rfl, Nat.le_of_ble_eq_true rfl⟩
    · refine rv_iload_n (q := 40) E.1.x dX11_answer_39 rfl rfl ?_
      refine rv_aload_n (q := 41) E.1.x dX11_answer_40 rfl rfl ?_
      refine rv_aload (q := 43) E.1.x dX11_answer_41 rfl rfl ?_
      refine rC_getX1 (q := 46) E.1 r6 3 wfX11_311 rfl (Nat.le_of_ble_eq_true rfl) (rC_at_of g9) rfl dX11_answer_43 rfl ?_
      refine rv_g (fun g10 => ?_)
      refine rC_getX7 (q := 49) E.1 (gh.2 r6) 0 wfX11_315 rfl (Nat.le_of_ble_eq_true rfl) (rC_at_of g10) rfl dX11_answer_46 rfl ?_
      refine rv_x1r (fun r12 e11 => ?_) (fun w13 e14 => rC_yVrX11 E ⟨rfl, rfl⟩ (fun _ => c11_needChange_x E.2.1 E.1.2.2.1 e14) rfl gX11_91 hX11_needChange ⟨rfl, rfl⟩ ⟨Nat.le_of_ble_eq_true rfl, Nat.le_of_ble_eq_true rfl⟩ ⟨Nat.le_of_ble_eq_true rfl, Nat.le_of_ble_eq_true rfl⟩ rfl rfl rfl (Nat.le_of_ble_eq_true rfl) dX11_answer_49 ⟨Nat.le_of_ble_eq_true rfl, Nat.le_of_ble_eq_true rfl⟩)
      refine rC_xVrX11 (q := 52) E ⟨rfl, rfl⟩ (fun _ => c11_needChange E.2.1 E.1.2.2.1 e11) gX11_91 hX11_needChange ⟨rfl, rfl⟩ ⟨Nat.le_of_ble_eq_true rfl, Nat.le_of_ble_eq_true rfl⟩ ⟨Nat.le_of_ble_eq_true rfl, Nat.le_of_ble_eq_true rfl⟩ rfl rfl rfl (Nat.le_of_ble_eq_true rfl) dX11_answer_49 rfl ?_
      refine rv_x1r (fun r16 e15 => ?_) (fun w17 e18 => rC_ySv E (fun _ => c11_needSeen_x E.2.1 E.1.2.2.1 e18) rfl gX11_283 hX11_needSeen ⟨rfl, rfl⟩ ⟨Nat.le_of_ble_eq_true rfl, Nat.le_of_ble_eq_true rfl⟩ ⟨Nat.le_of_ble_eq_true rfl, Nat.le_of_ble_eq_true rfl⟩ rfl rfl rfl (Nat.le_of_ble_eq_true rfl) dX11_answer_52 ⟨Nat.le_of_ble_eq_true rfl, Nat.le_of_ble_eq_true rfl⟩)
      refine rC_xSv (q := 55) E (fun _ => c11_needSeen E.2.1 E.1.2.2.1 e15) gX11_283 hX11_needSeen ⟨rfl, rfl⟩ ⟨Nat.le_of_ble_eq_true rfl, Nat.le_of_ble_eq_true rfl⟩ ⟨Nat.le_of_ble_eq_true rfl, Nat.le_of_ble_eq_true rfl⟩ rfl rfl rfl (Nat.le_of_ble_eq_true rfl) dX11_answer_52 rfl ?_
      refine rv_aload_n (q := 56) E.1.x dX11_answer_55 rfl rfl ?_
      refine rv_x1r (fun r20 e19 => ?_) (fun w21 e22 => rC_yVvX11 E ⟨rfl, rfl⟩ (fun _ => c11_needRoomForComment_x E.2.1 E.1.2.2.1 e22) rfl gX11_286 hX11_needRoomForComment ⟨rfl, rfl⟩ ⟨Nat.le_of_ble_eq_true rfl, Nat.le_of_ble_eq_true rfl⟩ ⟨Nat.le_of_ble_eq_true rfl, Nat.le_of_ble_eq_true rfl⟩ rfl rfl rfl (Nat.le_of_ble_eq_true rfl) dX11_answer_56 ⟨Nat.le_of_ble_eq_true rfl, Nat.le_of_ble_eq_true rfl⟩)
      refine rC_xVvX11 (q := 59) E ⟨rfl, rfl⟩ (fun _ => c11_needRoomForComment E.2.1 E.1.2.2.1 e19) gX11_286 hX11_needRoomForComment ⟨rfl, rfl⟩ ⟨Nat.le_of_ble_eq_true rfl, Nat.le_of_ble_eq_true rfl⟩ ⟨Nat.le_of_ble_eq_true rfl, Nat.le_of_ble_eq_true rfl⟩ rfl rfl rfl (Nat.le_of_ble_eq_true rfl) dX11_answer_56 rfl ?_
      refine rv_aload_n (q := 60) E.1.x dX11_answer_59 rfl rfl ?_
      refine rC_getX11 (q := 63) E.1 0 6 wfX11_53 rfl (Nat.le_of_ble_eq_true rfl) ⟨rfl, rfl⟩ rfl dX11_answer_60 rfl ?_
      refine rv_wk [true, true, true, true, true] ?_
      exact bx11_answer_63 E M a1 a2 a3 r6
  · exact rC_throwW (x := 3) E rfl (by decide +kernel) rC_xk3 rC_xi3 rC_xg3 rC_xn3 rC_xo3 E.2.2.2.2.2.2.2.2.1 (is := 309) (text := "the comment takes no answers") (by decide +kernel) rfl rfl dX11_answer_28 dX11_answer_31 dX11_answer_32 dX11_answer_35 dX11_answer_38 (Nat.le_of_ble_eq_true rfl) (Nat.le_of_ble_eq_true rfl) ⟨Nat.le_of_ble_eq_true rfl, Nat.le_of_ble_eq_true rfl⟩ ⟨Nat.le_of_ble_eq_true rfl, Nat.le_of_ble_eq_true rfl⟩
theorem c11_answer_x {l : Launch} {D : va_G} {cI cZ cO : ClassId} {ad : Nat → Nat} {gh : rC_gh} {de : Nat} (hfl : l.stackTraces = false) (hI : rC_I ad gh) {sz : Nat} {M : rv_Mem} {a1 : Int32} {a2 : Int32} {a3 : Bool} {x : Nat} (h : f11_answer gh M a1 a2 a3 = some (.inr x)) {mi : Nat} : vx_Met l yX11_answer (rv_ws yX11_answer cX11_answer 5 (some .int)) rmx11_answer (rM_Px D cI cZ cO ad gh mi de sz [.ref (ad 0), .int a1, .int a2, .int (rv_i a3)] M) (rC_fi (rC_A ad gh sz)) (rC_xc D cI cZ cO ad gh de (rC_A ad gh sz) x M) 1 6 (rC_A ad gh sz) := rM_xmet (Qc := fun z => rC_fi (rC_A ad gh z)) (XC := fun z => rC_xc D cI cZ cO ad gh de (rC_A ad gh z) x M) (FR := fun z => rC_A ad gh z) hfl hI rfl (by decide) (Nat.le_of_ble_eq_true rfl) (fun p e s m args below meth c E hT => ⟨qy11_answer D cI cZ cO ad gh de below args s M, rfl, bx11_answer E M a1 a2 a3⟩) h
set_option maxRecDepth 100000 in
theorem b11_find {p : Program} {l : Launch} {e : Env} {s : State} {m : MethodId} {args : Array Value} {below : List Frame} {meth : Method} {c : Code} {D : va_G} {cI cZ cO : ClassId} {ad : Nat → Nat} {gh : rC_gh} {de : Nat} (E : rC_X D cI cZ cO ad gh RX11 cX11_find 8 (some .int) p l s m args meth c) {mi : Nat} (hT : rM_tk mi de (rM_A ad gh s.heap.size) s) (M : rv_Mem) (a1 : Int32) (a2 : Int32) (a3 : Int32) (a4 : Int32) (a5 : Int32) (a6 : Int32) : rv_M (rC_G D cI cZ cO ad gh de) (rC_A ad gh s.heap.size) p l e rm11_find s m args below meth c 0 0 (qx11_find D cI cZ cO ad gh de below args s M) (f11_find gh M a1 a2 a3 a4 a5 a6) 0 [some (.ref (ad 0)), some (.int a1), some (.int a2), some (.int a3), some (.int a4), some (.int a5), some (.int a6), none] [] M := by
  unfold f11_find
  refine rv_aload_n (q := 1) E.1.x dX11_find_0 rfl rfl ?_
  refine rv_iload_n (q := 2) E.1.x dX11_find_1 rfl rfl ?_
  refine rv_x1r (fun r2 e1 => ?_) (fun w3 e4 => rv_tr (fun _ => trivial))
  refine rC_xVrX11 (q := 5) E ⟨rfl, rfl⟩ (fun _ => c11_needChange E.2.1 E.1.2.2.1 e1) gX11_91 hX11_needChange ⟨rfl, rfl⟩ ⟨Nat.le_of_ble_eq_true rfl, Nat.le_of_ble_eq_true rfl⟩ ⟨Nat.le_of_ble_eq_true rfl, Nat.le_of_ble_eq_true rfl⟩ rfl rfl rfl (Nat.le_of_ble_eq_true rfl) dX11_find_2 rfl ?_
  refine rv_iload_n (q := 6) E.1.x dX11_find_5 rfl rfl ?_
  refine rv_x1r (fun r6 e5 => ?_) (fun w7 e8 => rv_tr (fun _ => trivial))
  refine rC_xSi (q := 9) E (fun _ => c11_needSet E.2.1 E.1.2.2.1 e5) gX11_95 hX11_needSet ⟨rfl, rfl⟩ ⟨Nat.le_of_ble_eq_true rfl, Nat.le_of_ble_eq_true rfl⟩ ⟨Nat.le_of_ble_eq_true rfl, Nat.le_of_ble_eq_true rfl⟩ rfl rfl rfl (Nat.le_of_ble_eq_true rfl) dX11_find_6 rfl ?_
  refine rv_istore (q := 11) (lv' := [_, _, _, _, _, _, _, _]) E.1.x dX11_find_9 (Nat.le_of_ble_eq_true rfl) rfl rfl rfl ?_
  refine rv_iload_n (q := 12) E.1.x dX11_find_11 rfl rfl ?_
  refine rv_x1r (fun r10 e9 => ?_) (fun w11 e12 => rv_tr (fun _ => trivial))
  refine rC_xSv (q := 15) E (fun _ => c11_needFile E.2.1 E.1.2.2.1 e9) gX11_102 hX11_needFile ⟨rfl, rfl⟩ ⟨Nat.le_of_ble_eq_true rfl, Nat.le_of_ble_eq_true rfl⟩ ⟨Nat.le_of_ble_eq_true rfl, Nat.le_of_ble_eq_true rfl⟩ rfl rfl rfl (Nat.le_of_ble_eq_true rfl) dX11_find_12 rfl ?_
  refine rv_iload (q := 17) E.1.x dX11_find_15 rfl rfl ?_
  refine rv_if_ge (q := 20) (tgt := 31) E.1.x dX11_find_17 (by decide) rfl ?_ ?_
  · exact rv_tr (fun _ => trivial)
  · refine rv_aload_n (q := 32) E.1.x dX11_find_31 rfl rfl ?_
    refine rv_iload (q := 34) E.1.x dX11_find_32 rfl rfl ?_
    refine rv_iload_n (q := 35) E.1.x dX11_find_34 rfl rfl ?_
    refine rv_iload (q := 37) E.1.x dX11_find_35 rfl rfl ?_
    refine rv_iload (q := 39) E.1.x dX11_find_37 rfl rfl ?_
    refine rv_x1r (fun r14 e13 => ?_) (fun w15 e16 => rv_tr (fun _ => trivial))
    refine rC_xVvX11 (q := 42) E ⟨rfl, rfl⟩ (fun _ => c11_needLines E.2.1 E.1.2.2.1 e13) gX11_279 hX11_needLines ⟨rfl, rfl⟩ ⟨Nat.le_of_ble_eq_true rfl, Nat.le_of_ble_eq_true rfl⟩ ⟨Nat.le_of_ble_eq_true rfl, Nat.le_of_ble_eq_true rfl⟩ rfl rfl rfl (Nat.le_of_ble_eq_true rfl) dX11_find_39 rfl ?_
    refine rv_iload (q := 44) E.1.x dX11_find_42 rfl rfl ?_
    refine rv_iconst (q := 45) E.1.x dX11_find_44 rv_kim1 rfl ?_
    refine rv_icmp_lt (q := 48) (tgt := 56) E.1.x dX11_find_45 (by decide) rfl ?_ ?_
    · refine rv_iload (q := 50) E.1.x dX11_find_48 rfl rfl ?_
      refine rv_sipush (q := 53) E.1.x dX11_find_50 rv_ks400 rfl ?_
      refine rv_icmp_lt (q := 56) (tgt := 66) E.1.x dX11_find_53 (by decide) rfl ?_ ?_
      · exact rv_tr (fun _ => trivial)
      · refine rv_aload_n (q := 67) E.1.x dX11_find_66 rfl rfl ?_
        refine rC_getX11 (q := 70) E.1 0 7 wfX11_56 rfl (Nat.le_of_ble_eq_true rfl) ⟨rfl, rfl⟩ rfl dX11_find_67 rfl ?_
        refine rC_lsz (q := 73) E.1 2 (by decide) (cJ_size E.1.2.2.1 2) gX11_155 ⟨Nat.le_of_ble_eq_true rfl, Nat.le_of_ble_eq_true rfl⟩ ⟨Nat.le_of_ble_eq_true rfl, Nat.le_of_ble_eq_true rfl⟩ rfl (Nat.le_of_ble_eq_true rfl) dX11_find_70 rfl ?_
        refine rv_bipush (q := 75) E.1.x dX11_find_73 rv_kb40 rfl ?_
        refine rv_icmp_lt (q := 78) (tgt := 89) E.1.x dX11_find_75 (by decide) rfl ?_ ?_
        · exact rv_tr (fun _ => trivial)
        · refine rv_aload_n (q := 90) E.1.x dX11_find_89 rfl rfl ?_
          refine rC_getX11 (q := 93) E.1 0 7 wfX11_56 rfl (Nat.le_of_ble_eq_true rfl) ⟨rfl, rfl⟩ rfl dX11_find_90 rfl ?_
          refine rv_wk [true, true, true, true, true, true, true, true] ?_
          exact b11_find_93 E hT M a1 a2 a3 a4 a5 a6 r6
    · exact rv_tr (fun _ => trivial)
theorem c11_find {l : Launch} {D : va_G} {cI cZ cO : ClassId} {ad : Nat → Nat} {gh : rC_gh} {de : Nat} (hfl : l.stackTraces = false) (hI : rC_I ad gh) {sz : Nat} {M : rv_Mem} {a1 : Int32} {a2 : Int32} {a3 : Int32} {a4 : Int32} {a5 : Int32} {a6 : Int32} {r : Int32} {gh' : rC_gh} {M1 : rv_Mem} (h : f11_find gh M a1 a2 a3 a4 a5 a6 = some (.inl (r, gh', M1))) {mi : Nat} : vx_Met l yX11_find (rv_ws yX11_find cX11_find 8 (some .int)) rm11_find (rM_Px D cI cZ cO ad gh mi de sz [.ref (ad 0), .int a1, .int a2, .int a3, .int a4, .int a5, .int a6] M) (rM_qi D cI cZ cO ad gh de sz r gh' M1) (rC_fx (rM_A ad gh sz)) 3 108 (rM_A ad gh sz) := rM_xmet (Qc := fun z => rM_qi D cI cZ cO ad gh de z r gh' M1) (XC := fun z => rC_fx (rM_A ad gh z)) (FR := fun z => rM_A ad gh z) hfl hI rfl (by decide) (Nat.le_of_ble_eq_true rfl) (fun p e s m args below meth c E hT => ⟨qx11_find D cI cZ cO ad gh de below args s M, rfl, b11_find E hT M a1 a2 a3 a4 a5 a6⟩) h
set_option maxRecDepth 100000 in
theorem bx11_find {p : Program} {l : Launch} {e : Env} {s : State} {m : MethodId} {args : Array Value} {below : List Frame} {meth : Method} {c : Code} {D : va_G} {cI cZ cO : ClassId} {ad : Nat → Nat} {gh : rC_gh} {de : Nat} (E : rC_X D cI cZ cO ad gh RX11 cX11_find 8 (some .int) p l s m args meth c) (M : rv_Mem) (a1 : Int32) (a2 : Int32) (a3 : Int32) (a4 : Int32) (a5 : Int32) (a6 : Int32) : rv_M (rC_G D cI cZ cO ad gh de) (rC_A ad gh s.heap.size) p l e rmx11_find s m args below meth c 0 0 (qy11_find D cI cZ cO ad gh de below args s M) (f11_find gh M a1 a2 a3 a4 a5 a6) 0 [some (.ref (ad 0)), some (.int a1), some (.int a2), some (.int a3), some (.int a4), some (.int a5), some (.int a6), none] [] M := by
  unfold f11_find
  refine rv_aload_n (q := 1) E.1.x dX11_find_0 rfl rfl ?_
  refine rv_iload_n (q := 2) E.1.x dX11_find_1 rfl rfl ?_
  refine rv_x1r (fun r2 e1 => ?_) (fun w3 e4 => rC_yVrX11 E ⟨rfl, rfl⟩ (fun _ => c11_needChange_x E.2.1 E.1.2.2.1 e4) rfl gX11_91 hX11_needChange ⟨rfl, rfl⟩ ⟨Nat.le_of_ble_eq_true rfl, Nat.le_of_ble_eq_true rfl⟩ ⟨Nat.le_of_ble_eq_true rfl, Nat.le_of_ble_eq_true rfl⟩ rfl rfl rfl (Nat.le_of_ble_eq_true rfl) dX11_find_2 ⟨Nat.le_of_ble_eq_true rfl, Nat.le_of_ble_eq_true rfl⟩)
  refine rC_xVrX11 (q := 5) E ⟨rfl, rfl⟩ (fun _ => c11_needChange E.2.1 E.1.2.2.1 e1) gX11_91 hX11_needChange ⟨rfl, rfl⟩ ⟨Nat.le_of_ble_eq_true rfl, Nat.le_of_ble_eq_true rfl⟩ ⟨Nat.le_of_ble_eq_true rfl, Nat.le_of_ble_eq_true rfl⟩ rfl rfl rfl (Nat.le_of_ble_eq_true rfl) dX11_find_2 rfl ?_
  refine rv_iload_n (q := 6) E.1.x dX11_find_5 rfl rfl ?_
  refine rv_x1r (fun r6 e5 => ?_) (fun w7 e8 => rC_ySi E (fun _ => c11_needSet_x E.2.1 E.1.2.2.1 e8) rfl gX11_95 hX11_needSet ⟨rfl, rfl⟩ ⟨Nat.le_of_ble_eq_true rfl, Nat.le_of_ble_eq_true rfl⟩ ⟨Nat.le_of_ble_eq_true rfl, Nat.le_of_ble_eq_true rfl⟩ rfl rfl rfl (Nat.le_of_ble_eq_true rfl) dX11_find_6 ⟨Nat.le_of_ble_eq_true rfl, Nat.le_of_ble_eq_true rfl⟩)
  refine rC_xSi (q := 9) E (fun _ => c11_needSet E.2.1 E.1.2.2.1 e5) gX11_95 hX11_needSet ⟨rfl, rfl⟩ ⟨Nat.le_of_ble_eq_true rfl, Nat.le_of_ble_eq_true rfl⟩ ⟨Nat.le_of_ble_eq_true rfl, Nat.le_of_ble_eq_true rfl⟩ rfl rfl rfl (Nat.le_of_ble_eq_true rfl) dX11_find_6 rfl ?_
  refine rv_istore (q := 11) (lv' := [_, _, _, _, _, _, _, _]) E.1.x dX11_find_9 (Nat.le_of_ble_eq_true rfl) rfl rfl rfl ?_
  refine rv_iload_n (q := 12) E.1.x dX11_find_11 rfl rfl ?_
  refine rv_x1r (fun r10 e9 => ?_) (fun w11 e12 => rC_ySv E (fun _ => c11_needFile_x E.2.1 E.1.2.2.1 e12) rfl gX11_102 hX11_needFile ⟨rfl, rfl⟩ ⟨Nat.le_of_ble_eq_true rfl, Nat.le_of_ble_eq_true rfl⟩ ⟨Nat.le_of_ble_eq_true rfl, Nat.le_of_ble_eq_true rfl⟩ rfl rfl rfl (Nat.le_of_ble_eq_true rfl) dX11_find_12 ⟨Nat.le_of_ble_eq_true rfl, Nat.le_of_ble_eq_true rfl⟩)
  refine rC_xSv (q := 15) E (fun _ => c11_needFile E.2.1 E.1.2.2.1 e9) gX11_102 hX11_needFile ⟨rfl, rfl⟩ ⟨Nat.le_of_ble_eq_true rfl, Nat.le_of_ble_eq_true rfl⟩ ⟨Nat.le_of_ble_eq_true rfl, Nat.le_of_ble_eq_true rfl⟩ rfl rfl rfl (Nat.le_of_ble_eq_true rfl) dX11_find_12 rfl ?_
  refine rv_iload (q := 17) E.1.x dX11_find_15 rfl rfl ?_
  refine rv_if_ge (q := 20) (tgt := 31) E.1.x dX11_find_17 (by decide) rfl ?_ ?_
  · exact rC_throwW (x := 2) E rfl (by decide +kernel) rC_xk2 rC_xi2 rC_xg2 rC_xn2 rC_xo2 E.2.2.2.2.2.2.2.1 (is := 359) (text := "no such lines") (by decide +kernel) rfl rfl dX11_find_20 dX11_find_23 dX11_find_24 dX11_find_27 dX11_find_30 (Nat.le_of_ble_eq_true rfl) (Nat.le_of_ble_eq_true rfl) ⟨Nat.le_of_ble_eq_true rfl, Nat.le_of_ble_eq_true rfl⟩ ⟨Nat.le_of_ble_eq_true rfl, Nat.le_of_ble_eq_true rfl⟩
  · refine rv_aload_n (q := 32) E.1.x dX11_find_31 rfl rfl ?_
    refine rv_iload (q := 34) E.1.x dX11_find_32 rfl rfl ?_
    refine rv_iload_n (q := 35) E.1.x dX11_find_34 rfl rfl ?_
    refine rv_iload (q := 37) E.1.x dX11_find_35 rfl rfl ?_
    refine rv_iload (q := 39) E.1.x dX11_find_37 rfl rfl ?_
    refine rv_x1r (fun r14 e13 => ?_) (fun w15 e16 => rC_yVvX11 E ⟨rfl, rfl⟩ (fun _ => c11_needLines_x E.2.1 E.1.2.2.1 e16) rfl gX11_279 hX11_needLines ⟨rfl, rfl⟩ ⟨Nat.le_of_ble_eq_true rfl, Nat.le_of_ble_eq_true rfl⟩ ⟨Nat.le_of_ble_eq_true rfl, Nat.le_of_ble_eq_true rfl⟩ rfl rfl rfl (Nat.le_of_ble_eq_true rfl) dX11_find_39 ⟨Nat.le_of_ble_eq_true rfl, Nat.le_of_ble_eq_true rfl⟩)
    refine rC_xVvX11 (q := 42) E ⟨rfl, rfl⟩ (fun _ => c11_needLines E.2.1 E.1.2.2.1 e13) gX11_279 hX11_needLines ⟨rfl, rfl⟩ ⟨Nat.le_of_ble_eq_true rfl, Nat.le_of_ble_eq_true rfl⟩ ⟨Nat.le_of_ble_eq_true rfl, Nat.le_of_ble_eq_true rfl⟩ rfl rfl rfl (Nat.le_of_ble_eq_true rfl) dX11_find_39 rfl ?_
    refine rv_iload (q := 44) E.1.x dX11_find_42 rfl rfl ?_
    refine rv_iconst (q := 45) E.1.x dX11_find_44 rv_kim1 rfl ?_
    refine rv_icmp_lt (q := 48) (tgt := 56) E.1.x dX11_find_45 (by decide) rfl ?_ ?_
    · refine rv_iload (q := 50) E.1.x dX11_find_48 rfl rfl ?_
      refine rv_sipush (q := 53) E.1.x dX11_find_50 rv_ks400 rfl ?_
      refine rv_icmp_lt (q := 56) (tgt := 66) E.1.x dX11_find_53 (by decide) rfl ?_ ?_
      · exact rC_throw (x := 2) E rfl (by decide +kernel) rC_xk2 rC_xi2 rC_xg2 rC_xn2 rC_xo2 E.2.2.2.2.2.2.2.1 (is := 118) (text := "no such line") (by decide +kernel) rfl rfl dX11_find_56 dX11_find_59 dX11_find_60 dX11_find_62 dX11_find_65 (Nat.le_of_ble_eq_true rfl) (Nat.le_of_ble_eq_true rfl) ⟨Nat.le_of_ble_eq_true rfl, Nat.le_of_ble_eq_true rfl⟩ ⟨Nat.le_of_ble_eq_true rfl, Nat.le_of_ble_eq_true rfl⟩
      · refine rv_aload_n (q := 67) E.1.x dX11_find_66 rfl rfl ?_
        refine rC_getX11 (q := 70) E.1 0 7 wfX11_56 rfl (Nat.le_of_ble_eq_true rfl) ⟨rfl, rfl⟩ rfl dX11_find_67 rfl ?_
        refine rC_lsz (q := 73) E.1 2 (by decide) (cJ_size E.1.2.2.1 2) gX11_155 ⟨Nat.le_of_ble_eq_true rfl, Nat.le_of_ble_eq_true rfl⟩ ⟨Nat.le_of_ble_eq_true rfl, Nat.le_of_ble_eq_true rfl⟩ rfl (Nat.le_of_ble_eq_true rfl) dX11_find_70 rfl ?_
        refine rv_bipush (q := 75) E.1.x dX11_find_73 rv_kb40 rfl ?_
        refine rv_icmp_lt (q := 78) (tgt := 89) E.1.x dX11_find_75 (by decide) rfl ?_ ?_
        · exact rC_throwW (x := 3) E rfl (by decide +kernel) rC_xk3 rC_xi3 rC_xg3 rC_xn3 rC_xo3 E.2.2.2.2.2.2.2.2.1 (is := 361) (text := "no room for a finding") (by decide +kernel) rfl rfl dX11_find_78 dX11_find_81 dX11_find_82 dX11_find_85 dX11_find_88 (Nat.le_of_ble_eq_true rfl) (Nat.le_of_ble_eq_true rfl) ⟨Nat.le_of_ble_eq_true rfl, Nat.le_of_ble_eq_true rfl⟩ ⟨Nat.le_of_ble_eq_true rfl, Nat.le_of_ble_eq_true rfl⟩
        · refine rv_aload_n (q := 90) E.1.x dX11_find_89 rfl rfl ?_
          refine rC_getX11 (q := 93) E.1 0 7 wfX11_56 rfl (Nat.le_of_ble_eq_true rfl) ⟨rfl, rfl⟩ rfl dX11_find_90 rfl ?_
          refine rv_wk [true, true, true, true, true, true, true, true] ?_
          exact bx11_find_93 E M a1 a2 a3 a4 a5 a6 r6
    · exact rC_throw (x := 2) E rfl (by decide +kernel) rC_xk2 rC_xi2 rC_xg2 rC_xn2 rC_xo2 E.2.2.2.2.2.2.2.1 (is := 118) (text := "no such line") (by decide +kernel) rfl rfl dX11_find_56 dX11_find_59 dX11_find_60 dX11_find_62 dX11_find_65 (Nat.le_of_ble_eq_true rfl) (Nat.le_of_ble_eq_true rfl) ⟨Nat.le_of_ble_eq_true rfl, Nat.le_of_ble_eq_true rfl⟩ ⟨Nat.le_of_ble_eq_true rfl, Nat.le_of_ble_eq_true rfl⟩
theorem c11_find_x {l : Launch} {D : va_G} {cI cZ cO : ClassId} {ad : Nat → Nat} {gh : rC_gh} {de : Nat} (hfl : l.stackTraces = false) (hI : rC_I ad gh) {sz : Nat} {M : rv_Mem} {a1 : Int32} {a2 : Int32} {a3 : Int32} {a4 : Int32} {a5 : Int32} {a6 : Int32} {x : Nat} (h : f11_find gh M a1 a2 a3 a4 a5 a6 = some (.inr x)) {mi : Nat} : vx_Met l yX11_find (rv_ws yX11_find cX11_find 8 (some .int)) rmx11_find (rM_Px D cI cZ cO ad gh mi de sz [.ref (ad 0), .int a1, .int a2, .int a3, .int a4, .int a5, .int a6] M) (rC_fi (rC_A ad gh sz)) (rC_xc D cI cZ cO ad gh de (rC_A ad gh sz) x M) 1 6 (rC_A ad gh sz) := rM_xmet (Qc := fun z => rC_fi (rC_A ad gh z)) (XC := fun z => rC_xc D cI cZ cO ad gh de (rC_A ad gh z) x M) (FR := fun z => rC_A ad gh z) hfl hI rfl (by decide) (Nat.le_of_ble_eq_true rfl) (fun p e s m args below meth c E hT => ⟨qy11_find D cI cZ cO ad gh de below args s M, rfl, bx11_find E M a1 a2 a3 a4 a5 a6⟩) h
