abbrev rm0_addCommit : Room := { frames := 0, cells := 0, slots := 0, locals := 0 }
set_option maxRecDepth 100000 in
theorem b0_addCommit {p : Program} {l : Launch} {e : Env} {s : State} {m : MethodId} {args : Array Value} {below : List Frame} {meth : Method} {c : Code} {D : va_G} {cI cZ cO : ClassId} {ad : Nat → Nat} {gh : rC_gh} {de : Nat} (E : rC_E D cI cZ cO ad gh (rC_K ad gh) RX0 cX0_addCommit 2 none p s m args meth c) (M : rv_Mem) (a0 : Nat) (a1 : Int32) : rv_M (rC_G D cI cZ cO ad gh de) (rC_K ad gh) p l e rm0_addCommit s m args below meth c 0 0 (rC_qV D cI cZ cO ad gh de below args s) (f0_addCommit gh M a0 a1) 0 [some (.ref (ad a0)), some (.int a1)] [] M := by
  unfold f0_addCommit
  refine rv_aload_n (q := 1) E.x dX0_addCommit_0 rfl rfl ?_
  refine rv_g (fun g1 => ?_)
  refine rC_getX0 (q := 4) E a0 4 wfX0_34 rfl (Nat.le_of_ble_eq_true rfl) (rC_at_of g1) rfl dX0_addCommit_1 rfl ?_
  refine rv_aload_n (q := 5) E.x dX0_addCommit_4 rfl rfl ?_
  refine rC_getX0 (q := 8) E a0 3 wfX0_9 rfl (Nat.le_of_ble_eq_true rfl) (rC_at_of g1) rfl dX0_addCommit_5 rfl ?_
  refine rC_alen (q := 9) (n := 80) (v := 80) E (Or.inl (rC_arCh g1)) (by decide) dX0_addCommit_8 rfl ?_
  refine rv_icmp_ge (q := 12) (tgt := 32) E.x dX0_addCommit_9 (by decide) rfl ?_ ?_
  · refine rv_aload_n (q := 13) E.x dX0_addCommit_12 rfl rfl ?_
    refine rC_getX0 (q := 16) E a0 3 wfX0_9 rfl (Nat.le_of_ble_eq_true rfl) (rC_at_of g1) rfl dX0_addCommit_13 rfl ?_
    refine rv_aload_n (q := 17) E.x dX0_addCommit_16 rfl rfl ?_
    refine rC_getX0 (q := 20) E a0 4 wfX0_34 rfl (Nat.le_of_ble_eq_true rfl) (rC_at_of g1) rfl dX0_addCommit_17 rfl ?_
    refine rv_iload_n (q := 21) E.x dX0_addCommit_20 rfl rfl ?_
    refine rC_iast (q := 22) (n := 80) E (rC_arCh g1) dX0_addCommit_21 rfl ?_
    refine rv_ltm (fun M2 => ?_)
    refine rv_aload_n (q := 23) E.x dX0_addCommit_22 rfl rfl ?_
    refine rv_dup (q := 24) E.x dX0_addCommit_23 rfl rfl ?_
    refine rC_getX0 (q := 27) E a0 4 wfX0_34 rfl (Nat.le_of_ble_eq_true rfl) (rC_at_of g1) rfl dX0_addCommit_24 rfl ?_
    refine rv_iconst (q := 28) E.x dX0_addCommit_27 rv_ki1 rfl ?_
    refine rv_iadd (q := 29) E.x dX0_addCommit_28 rfl ?_
    refine rC_putX0 (q := 32) E a0 4 wfX0_34 rfl (Nat.le_of_ble_eq_true rfl) (rC_at_of g1) rfl ⟨rfl, rfl⟩ dX0_addCommit_29 rfl ?_
    refine rv_ltm (fun M3 => ?_)
    exact rC_vret E rfl dX0_addCommit_32
  · exact rC_vret E rfl dX0_addCommit_32
theorem c0_addCommit {l : Launch} {D : va_G} {cI cZ cO : ClassId} {ad : Nat → Nat} {gh : rC_gh} {de : Nat} (hI : rC_I ad gh) {M : rv_Mem} {a0 : Nat} {a1 : Int32} {M1 : rv_Mem} (h : f0_addCommit gh M a0 a1 = some M1) : Met l yX0_addCommit (rv_ws yX0_addCommit cX0_addCommit 2 none) rm0_addCommit (rC_Pc D cI cZ cO ad gh de [.ref (ad a0), .int a1] M) (rC_QV D cI cZ cO ad gh de M1) 0 0 (rC_K ad gh) := rC_met hI rfl (by decide) (Nat.le_of_ble_eq_true rfl) (fun p e s m args below meth c E => ⟨(rC_qV D cI cZ cO ad gh de below args s), rfl, b0_addCommit E M a0 a1⟩) h
abbrev rm9_read : Room := { frames := 0, cells := 0, slots := 0, locals := 0 }
set_option maxRecDepth 100000 in
theorem b9_read {p : Program} {l : Launch} {e : Env} {s : State} {m : MethodId} {args : Array Value} {below : List Frame} {meth : Method} {c : Code} {D : va_G} {cI cZ cO : ClassId} {ad : Nat → Nat} {gh : rC_gh} {de : Nat} (E : rC_E D cI cZ cO ad gh (rC_K ad gh) RX9 cX9_read 2 (some .int) p s m args meth c) (M : rv_Mem) (a1 : Nat) (a2 : Int32) : rv_M (rC_G D cI cZ cO ad gh de) (rC_K ad gh) p l e rm9_read s m args below meth c 0 0 (rC_qI D cI cZ cO ad gh de below args s M) (f9_read gh M a1 a2) 0 [some (.ref (ad a1)), some (.int a2)] [] M := by
  unfold f9_read
  refine rv_iload_n (q := 1) E.x dX9_read_0 rfl rfl ?_
  refine rv_if_lt (q := 4) (tgt := 16) E.x dX9_read_1 (by decide) rfl ?_ ?_
  · refine rv_iload_n (q := 5) E.x dX9_read_4 rfl rfl ?_
    refine rv_aload_n (q := 6) E.x dX9_read_5 rfl rfl ?_
    refine rv_g (fun g1 => ?_)
    refine rC_alen (q := 7) (n := (rC_ln a1)) (v := (nI (rC_ln a1))) E (Or.inl (rC_arP g1)) rfl dX9_read_6 rfl ?_
    refine rv_icmp_ge (q := 10) (tgt := 16) E.x dX9_read_7 (by decide) rfl ?_ ?_
    · refine rv_aload_n (q := 11) E.x dX9_read_10 rfl rfl ?_
      refine rv_iload_n (q := 12) E.x dX9_read_11 rfl rfl ?_
      refine rC_iald (q := 13) (n := (rC_ln a1)) E (rC_arP g1) dX9_read_12 rfl ?_
      refine rv_goto (q := 17) E.x dX9_read_13 (by decide) ?_
      exact rC_iret E rfl dX9_read_17
    · refine rv_iconst (q := 17) E.x dX9_read_16 rv_kim1 rfl ?_
      exact rC_iret E rfl dX9_read_17
  · refine rv_iconst (q := 17) E.x dX9_read_16 rv_kim1 rfl ?_
    exact rC_iret E rfl dX9_read_17
theorem c9_read {l : Launch} {D : va_G} {cI cZ cO : ClassId} {ad : Nat → Nat} {gh : rC_gh} {de : Nat} (hI : rC_I ad gh) {M : rv_Mem} {a1 : Nat} {a2 : Int32} {r : Int32} (h : f9_read gh M a1 a2 = some r) : Met l yX9_read (rv_ws yX9_read cX9_read 2 (some .int)) rm9_read (rC_Pc D cI cZ cO ad gh de [.ref (ad a1), .int a2] M) (rC_QI D cI cZ cO ad gh de r M) 0 0 (rC_K ad gh) := rC_met hI rfl (by decide) (Nat.le_of_ble_eq_true rfl) (fun p e s m args below meth c E => ⟨(rC_qI D cI cZ cO ad gh de below args s M), rfl, b9_read E M a1 a2⟩) h
abbrev rm0_commitAt : Room := { frames := 1, cells := 0, slots := 0, locals := 21 }
set_option maxRecDepth 100000 in
theorem b0_commitAt {p : Program} {l : Launch} {e : Env} {s : State} {m : MethodId} {args : Array Value} {below : List Frame} {meth : Method} {c : Code} {D : va_G} {cI cZ cO : ClassId} {ad : Nat → Nat} {gh : rC_gh} {de : Nat} (E : rC_E D cI cZ cO ad gh (rC_K ad gh) RX0 cX0_commitAt 2 (some .int) p s m args meth c) (M : rv_Mem) (a0 : Nat) (a1 : Int32) : rv_M (rC_G D cI cZ cO ad gh de) (rC_K ad gh) p l e rm0_commitAt s m args below meth c 0 0 (rC_qI D cI cZ cO ad gh de below args s M) (f0_commitAt gh M a0 a1) 0 [some (.ref (ad a0)), some (.int a1)] [] M := by
  unfold f0_commitAt
  refine rv_iload_n (q := 1) E.x dX0_commitAt_0 rfl rfl ?_
  refine rv_aload_n (q := 2) E.x dX0_commitAt_1 rfl rfl ?_
  refine rv_g (fun g1 => ?_)
  refine rC_getX0 (q := 5) E a0 4 wfX0_34 rfl (Nat.le_of_ble_eq_true rfl) (rC_at_of g1) rfl dX0_commitAt_2 rfl ?_
  refine rv_icmp_ge (q := 8) (tgt := 19) E.x dX0_commitAt_5 (by decide) rfl ?_ ?_
  · refine rv_aload_n (q := 9) E.x dX0_commitAt_8 rfl rfl ?_
    refine rC_getX0 (q := 12) E a0 3 wfX0_9 rfl (Nat.le_of_ble_eq_true rfl) (rC_at_of g1) rfl dX0_commitAt_9 rfl ?_
    refine rv_iload_n (q := 13) E.x dX0_commitAt_12 rfl rfl ?_
    refine rv_b1 (fun r3 e2 => ?_)
    refine rC_callsi (q := 16) E (c9_read E.2.2.1 e2) gX0_37 hX9_read ⟨rfl, rfl⟩ ⟨Nat.le_of_ble_eq_true rfl, Nat.le_of_ble_eq_true rfl⟩ ⟨Nat.le_of_ble_eq_true rfl, Nat.le_of_ble_eq_true rfl⟩ rfl rfl rfl (Nat.le_of_ble_eq_true rfl) dX0_commitAt_13 rfl ?_
    refine rv_goto (q := 20) E.x dX0_commitAt_16 (by decide) ?_
    exact rC_iret E rfl dX0_commitAt_20
  · refine rv_iconst (q := 20) E.x dX0_commitAt_19 rv_kim1 rfl ?_
    exact rC_iret E rfl dX0_commitAt_20
theorem c0_commitAt {l : Launch} {D : va_G} {cI cZ cO : ClassId} {ad : Nat → Nat} {gh : rC_gh} {de : Nat} (hI : rC_I ad gh) {M : rv_Mem} {a0 : Nat} {a1 : Int32} {r : Int32} (h : f0_commitAt gh M a0 a1 = some r) : Met l yX0_commitAt (rv_ws yX0_commitAt cX0_commitAt 2 (some .int)) rm0_commitAt (rC_Pc D cI cZ cO ad gh de [.ref (ad a0), .int a1] M) (rC_QI D cI cZ cO ad gh de r M) 0 0 (rC_K ad gh) := rC_met hI rfl (by decide) (Nat.le_of_ble_eq_true rfl) (fun p e s m args below meth c E => ⟨(rC_qI D cI cZ cO ad gh de below args s M), rfl, b0_commitAt E M a0 a1⟩) h
abbrev rm0_takePart : Room := { frames := 0, cells := 0, slots := 0, locals := 0 }
set_option maxRecDepth 100000 in
theorem b0_takePart {p : Program} {l : Launch} {e : Env} {s : State} {m : MethodId} {args : Array Value} {below : List Frame} {meth : Method} {c : Code} {D : va_G} {cI cZ cO : ClassId} {ad : Nat → Nat} {gh : rC_gh} {de : Nat} (E : rC_E D cI cZ cO ad gh (rC_K ad gh) RX0 cX0_takePart 2 none p s m args meth c) (M : rv_Mem) (a0 : Nat) (a1 : Int32) : rv_M (rC_G D cI cZ cO ad gh de) (rC_K ad gh) p l e rm0_takePart s m args below meth c 0 0 (rC_qV D cI cZ cO ad gh de below args s) (f0_takePart gh M a0 a1) 0 [some (.ref (ad a0)), some (.int a1)] [] M := by
  unfold f0_takePart
  refine rv_iload_n (q := 1) E.x dX0_takePart_0 rfl rfl ?_
  refine rv_aload_n (q := 2) E.x dX0_takePart_1 rfl rfl ?_
  refine rv_g (fun g1 => ?_)
  refine rC_getX0 (q := 5) E a0 1 wfX0_28 rfl (Nat.le_of_ble_eq_true rfl) (rC_at_of g1) rfl dX0_takePart_2 rfl ?_
  refine rv_icmp_eq (q := 8) (tgt := 20) E.x dX0_takePart_5 (by decide) rfl ?_ ?_
  · refine rv_aload_n (q := 9) E.x dX0_takePart_8 rfl rfl ?_
    refine rv_dup (q := 10) E.x dX0_takePart_9 rfl rfl ?_
    refine rC_getX0 (q := 13) E a0 9 wfX0_43 rfl (Nat.le_of_ble_eq_true rfl) (rC_at_of g1) rfl dX0_takePart_10 rfl ?_
    refine rv_iconst (q := 14) E.x dX0_takePart_13 rv_ki1 rfl ?_
    refine rv_iload_n (q := 15) E.x dX0_takePart_14 rfl rfl ?_
    refine rv_ishl (q := 16) E.x dX0_takePart_15 rfl ?_
    refine rv_ior (q := 17) E.x dX0_takePart_16 rfl ?_
    refine rC_putX0 (q := 20) E a0 9 wfX0_43 rfl (Nat.le_of_ble_eq_true rfl) (rC_at_of g1) rfl ⟨rfl, rfl⟩ dX0_takePart_17 rfl ?_
    refine rv_ltm (fun M2 => ?_)
    exact rC_vret E rfl dX0_takePart_20
  · exact rC_vret E rfl dX0_takePart_20
theorem c0_takePart {l : Launch} {D : va_G} {cI cZ cO : ClassId} {ad : Nat → Nat} {gh : rC_gh} {de : Nat} (hI : rC_I ad gh) {M : rv_Mem} {a0 : Nat} {a1 : Int32} {M1 : rv_Mem} (h : f0_takePart gh M a0 a1 = some M1) : Met l yX0_takePart (rv_ws yX0_takePart cX0_takePart 2 none) rm0_takePart (rC_Pc D cI cZ cO ad gh de [.ref (ad a0), .int a1] M) (rC_QV D cI cZ cO ad gh de M1) 0 0 (rC_K ad gh) := rC_met hI rfl (by decide) (Nat.le_of_ble_eq_true rfl) (fun p e s m args below meth c E => ⟨(rC_qV D cI cZ cO ad gh de below args s), rfl, b0_takePart E M a0 a1⟩) h
abbrev rm0_giveTurns : Room := { frames := 0, cells := 0, slots := 0, locals := 0 }
set_option maxRecDepth 100000 in
theorem b0_giveTurns {p : Program} {l : Launch} {e : Env} {s : State} {m : MethodId} {args : Array Value} {below : List Frame} {meth : Method} {c : Code} {D : va_G} {cI cZ cO : ClassId} {ad : Nat → Nat} {gh : rC_gh} {de : Nat} (E : rC_E D cI cZ cO ad gh (rC_K ad gh) RX0 cX0_giveTurns 2 none p s m args meth c) (M : rv_Mem) (a0 : Nat) (a1 : Int32) : rv_M (rC_G D cI cZ cO ad gh de) (rC_K ad gh) p l e rm0_giveTurns s m args below meth c 0 0 (rC_qV D cI cZ cO ad gh de below args s) (f0_giveTurns gh M a0 a1) 0 [some (.ref (ad a0)), some (.int a1)] [] M := by
  unfold f0_giveTurns
  refine rv_aload_n (q := 1) E.x dX0_giveTurns_0 rfl rfl ?_
  refine rv_g (fun g1 => ?_)
  refine rC_getX0 (q := 4) E a0 5 wfX0_15 rfl (Nat.le_of_ble_eq_true rfl) (rC_at_of g1) rfl dX0_giveTurns_1 rfl ?_
  refine rv_if_ne (q := 7) (tgt := 24) E.x dX0_giveTurns_4 (by decide) rfl ?_ ?_
  · refine rv_aload_n (q := 8) E.x dX0_giveTurns_7 rfl rfl ?_
    refine rC_getX0 (q := 11) E a0 6 wfX0_46 rfl (Nat.le_of_ble_eq_true rfl) (rC_at_of g1) rfl dX0_giveTurns_8 rfl ?_
    refine rv_ifz_ne (q := 14) (tgt := 24) E.x dX0_giveTurns_11 (by decide) rfl ?_ ?_
    · refine rv_aload_n (q := 15) E.x dX0_giveTurns_14 rfl rfl ?_
      refine rv_dup (q := 16) E.x dX0_giveTurns_15 rfl rfl ?_
      refine rC_getX0 (q := 19) E a0 10 wfX0_50 rfl (Nat.le_of_ble_eq_true rfl) (rC_at_of g1) rfl dX0_giveTurns_16 rfl ?_
      refine rv_iload_n (q := 20) E.x dX0_giveTurns_19 rfl rfl ?_
      refine rv_ior (q := 21) E.x dX0_giveTurns_20 rfl ?_
      refine rC_putX0 (q := 24) E a0 10 wfX0_50 rfl (Nat.le_of_ble_eq_true rfl) (rC_at_of g1) rfl ⟨rfl, rfl⟩ dX0_giveTurns_21 rfl ?_
      refine rv_ltm (fun M2 => ?_)
      exact rC_vret E rfl dX0_giveTurns_24
    · exact rC_vret E rfl dX0_giveTurns_24
  · exact rC_vret E rfl dX0_giveTurns_24
theorem c0_giveTurns {l : Launch} {D : va_G} {cI cZ cO : ClassId} {ad : Nat → Nat} {gh : rC_gh} {de : Nat} (hI : rC_I ad gh) {M : rv_Mem} {a0 : Nat} {a1 : Int32} {M1 : rv_Mem} (h : f0_giveTurns gh M a0 a1 = some M1) : Met l yX0_giveTurns (rv_ws yX0_giveTurns cX0_giveTurns 2 none) rm0_giveTurns (rC_Pc D cI cZ cO ad gh de [.ref (ad a0), .int a1] M) (rC_QV D cI cZ cO ad gh de M1) 0 0 (rC_K ad gh) := rC_met hI rfl (by decide) (Nat.le_of_ble_eq_true rfl) (fun p e s m args below meth c E => ⟨(rC_qV D cI cZ cO ad gh de below args s), rfl, b0_giveTurns E M a0 a1⟩) h
abbrev rm9_sizeOf : Room := { frames := 0, cells := 0, slots := 0, locals := 0 }
set_option maxRecDepth 100000 in
theorem b9_sizeOf {p : Program} {l : Launch} {e : Env} {s : State} {m : MethodId} {args : Array Value} {below : List Frame} {meth : Method} {c : Code} {D : va_G} {cI cZ cO : ClassId} {ad : Nat → Nat} {gh : rC_gh} {de : Nat} (E : rC_E D cI cZ cO ad gh (rC_K ad gh) RX9 cX9_sizeOf 4 (some .int) p s m args meth c) (M : rv_Mem) (a1 : Int32) (a2 : Int32) : rv_M (rC_G D cI cZ cO ad gh de) (rC_K ad gh) p l e rm9_sizeOf s m args below meth c 0 0 (rC_qI D cI cZ cO ad gh de below args s M) (f9_sizeOf gh M a1 a2) 0 [some (.ref (ad 1)), some (.int a1), some (.int a2), none] [] M := by
  unfold f9_sizeOf
  refine rv_iload_n (q := 1) E.x dX9_sizeOf_0 rfl rfl ?_
  refine rv_iconst (q := 2) E.x dX9_sizeOf_1 rv_ki4 rfl ?_
  refine rv_imul (q := 3) E.x dX9_sizeOf_2 rfl ?_
  refine rv_iload_n (q := 4) E.x dX9_sizeOf_3 rfl rfl ?_
  refine rv_iadd (q := 5) E.x dX9_sizeOf_4 rfl ?_
  refine rv_istore_n (q := 6) (lv' := [_, _, _, _]) E.x dX9_sizeOf_5 (Nat.le_of_ble_eq_true rfl) rfl rfl rfl ?_
  refine rv_iload_n (q := 7) E.x dX9_sizeOf_6 rfl rfl ?_
  refine rv_if_lt (q := 10) (tgt := 28) E.x dX9_sizeOf_7 (by decide) rfl ?_ ?_
  · refine rv_iload_n (q := 11) E.x dX9_sizeOf_10 rfl rfl ?_
    refine rv_aload_n (q := 12) E.x dX9_sizeOf_11 rfl rfl ?_
    refine rC_getX9 (q := 15) E 1 1 wfX9_15 rfl (Nat.le_of_ble_eq_true rfl) ⟨rfl, rfl⟩ rfl dX9_sizeOf_12 rfl ?_
    refine rC_alen (q := 16) (n := 328) (v := 328) E (Or.inl ⟨rfl, rfl, rfl⟩) (by decide) dX9_sizeOf_15 rfl ?_
    refine rv_icmp_ge (q := 19) (tgt := 28) E.x dX9_sizeOf_16 (by decide) rfl ?_ ?_
    · refine rv_aload_n (q := 20) E.x dX9_sizeOf_19 rfl rfl ?_
      refine rC_getX9 (q := 23) E 1 1 wfX9_15 rfl (Nat.le_of_ble_eq_true rfl) ⟨rfl, rfl⟩ rfl dX9_sizeOf_20 rfl ?_
      refine rv_iload_n (q := 24) E.x dX9_sizeOf_23 rfl rfl ?_
      refine rC_iald (q := 25) (n := 328) E ⟨rfl, rfl, rfl⟩ dX9_sizeOf_24 rfl ?_
      refine rv_goto (q := 29) E.x dX9_sizeOf_25 (by decide) ?_
      exact rC_iret E rfl dX9_sizeOf_29
    · refine rv_iconst (q := 29) E.x dX9_sizeOf_28 rv_kim1 rfl ?_
      exact rC_iret E rfl dX9_sizeOf_29
  · refine rv_iconst (q := 29) E.x dX9_sizeOf_28 rv_kim1 rfl ?_
    exact rC_iret E rfl dX9_sizeOf_29
theorem c9_sizeOf {l : Launch} {D : va_G} {cI cZ cO : ClassId} {ad : Nat → Nat} {gh : rC_gh} {de : Nat} (hI : rC_I ad gh) {M : rv_Mem} {a1 : Int32} {a2 : Int32} {r : Int32} (h : f9_sizeOf gh M a1 a2 = some r) : Met l yX9_sizeOf (rv_ws yX9_sizeOf cX9_sizeOf 4 (some .int)) rm9_sizeOf (rC_Pc D cI cZ cO ad gh de [.ref (ad 1), .int a1, .int a2] M) (rC_QI D cI cZ cO ad gh de r M) 0 0 (rC_K ad gh) := rC_met hI rfl (by decide) (Nat.le_of_ble_eq_true rfl) (fun p e s m args below meth c E => ⟨(rC_qI D cI cZ cO ad gh de below args s M), rfl, b9_sizeOf E M a1 a2⟩) h
abbrev rm9_lineAt : Room := { frames := 0, cells := 0, slots := 0, locals := 0 }
set_option maxRecDepth 100000 in
theorem b9_lineAt_37 {p : Program} {l : Launch} {e : Env} {s : State} {m : MethodId} {args : Array Value} {below : List Frame} {meth : Method} {c : Code} {D : va_G} {cI cZ cO : ClassId} {ad : Nat → Nat} {gh : rC_gh} {de : Nat} (E : rC_E D cI cZ cO ad gh (rC_K ad gh) RX9 cX9_lineAt 6 (some .int) p s m args meth c) (M : rv_Mem)   : ∀ (x3 : Int32) (x4 : Int32) (s0 : Bool), rv_M (rC_G D cI cZ cO ad gh de) (rC_K ad gh) p l e rm9_lineAt s m args below meth c 0 0 (rC_qI D cI cZ cO ad gh de below args s M) (f9_lineAt_37 gh M x3 x4 s0) 37 [some (.ref (ad 1)), none, none, some (.int x3), some (.int x4), none] [.int (rv_i s0)] M := by
  intro x3 x4 s0
  unfold f9_lineAt_37
  refine rv_istore (q := 39) (lv' := [_, _, _, _, _, _]) E.x dX9_lineAt_37 (Nat.le_of_ble_eq_true rfl) rfl rfl rfl ?_
  refine rv_iload (q := 41) E.x dX9_lineAt_39 rfl rfl ?_
  refine rv_ifz_eq (q := 44) (tgt := 70) E.x dX9_lineAt_41 (by decide) rfl ?_ ?_
  · refine rv_iload_n (q := 45) E.x dX9_lineAt_44 rfl rfl ?_
    refine rv_aload_n (q := 46) E.x dX9_lineAt_45 rfl rfl ?_
    refine rC_getX9 (q := 49) E 1 1 wfX9_15 rfl (Nat.le_of_ble_eq_true rfl) ⟨rfl, rfl⟩ rfl dX9_lineAt_46 rfl ?_
    refine rv_iload (q := 51) E.x dX9_lineAt_49 rfl rfl ?_
    refine rC_iald (q := 52) (n := 328) E ⟨rfl, rfl, rfl⟩ dX9_lineAt_51 rfl ?_
    refine rv_icmp_ge (q := 55) (tgt := 70) E.x dX9_lineAt_52 (by decide) rfl ?_ ?_
    · refine rv_aload_n (q := 56) E.x dX9_lineAt_55 rfl rfl ?_
      refine rC_getX9 (q := 59) E 1 0 wfX9_11 rfl (Nat.le_of_ble_eq_true rfl) ⟨rfl, rfl⟩ rfl dX9_lineAt_56 rfl ?_
      refine rv_iload (q := 61) E.x dX9_lineAt_59 rfl rfl ?_
      refine rv_bipush (q := 63) E.x dX9_lineAt_61 rv_kb10 rfl ?_
      refine rv_imul (q := 64) E.x dX9_lineAt_63 rfl ?_
      refine rv_iload_n (q := 65) E.x dX9_lineAt_64 rfl rfl ?_
      refine rv_iadd (q := 66) E.x dX9_lineAt_65 rfl ?_
      refine rC_iald (q := 67) (n := 3280) E ⟨rfl, rfl, rfl⟩ dX9_lineAt_66 rfl ?_
      refine rv_goto (q := 71) E.x dX9_lineAt_67 (by decide) ?_
      exact rC_iret E rfl dX9_lineAt_71
    · refine rv_iconst (q := 71) E.x dX9_lineAt_70 rv_kim1 rfl ?_
      exact rC_iret E rfl dX9_lineAt_71
  · refine rv_iconst (q := 71) E.x dX9_lineAt_70 rv_kim1 rfl ?_
    exact rC_iret E rfl dX9_lineAt_71
set_option maxRecDepth 100000 in
theorem b9_lineAt_36 {p : Program} {l : Launch} {e : Env} {s : State} {m : MethodId} {args : Array Value} {below : List Frame} {meth : Method} {c : Code} {D : va_G} {cI cZ cO : ClassId} {ad : Nat → Nat} {gh : rC_gh} {de : Nat} (E : rC_E D cI cZ cO ad gh (rC_K ad gh) RX9 cX9_lineAt 6 (some .int) p s m args meth c) (M : rv_Mem)   : ∀ (x3 : Int32) (x4 : Int32), rv_M (rC_G D cI cZ cO ad gh de) (rC_K ad gh) p l e rm9_lineAt s m args below meth c 0 0 (rC_qI D cI cZ cO ad gh de below args s M) (f9_lineAt_36 gh M x3 x4) 36 [some (.ref (ad 1)), none, none, some (.int x3), some (.int x4), none] [] M := by
  intro x3 x4
  unfold f9_lineAt_36
  refine rv_iconst (q := 37) E.x dX9_lineAt_36 rv_ki0 rfl ?_
  refine rv_wk [true, false, false, true, true, false] ?_
  exact b9_lineAt_37 E M x3 x4 false
set_option maxRecDepth 100000 in
theorem b9_lineAt {p : Program} {l : Launch} {e : Env} {s : State} {m : MethodId} {args : Array Value} {below : List Frame} {meth : Method} {c : Code} {D : va_G} {cI cZ cO : ClassId} {ad : Nat → Nat} {gh : rC_gh} {de : Nat} (E : rC_E D cI cZ cO ad gh (rC_K ad gh) RX9 cX9_lineAt 6 (some .int) p s m args meth c) (M : rv_Mem) (a1 : Int32) (a2 : Int32) (a3 : Int32) : rv_M (rC_G D cI cZ cO ad gh de) (rC_K ad gh) p l e rm9_lineAt s m args below meth c 0 0 (rC_qI D cI cZ cO ad gh de below args s M) (f9_lineAt gh M a1 a2 a3) 0 [some (.ref (ad 1)), some (.int a1), some (.int a2), some (.int a3), none, none] [] M := by
  unfold f9_lineAt
  refine rv_iload_n (q := 1) E.x dX9_lineAt_0 rfl rfl ?_
  refine rv_iconst (q := 2) E.x dX9_lineAt_1 rv_ki4 rfl ?_
  refine rv_imul (q := 3) E.x dX9_lineAt_2 rfl ?_
  refine rv_iload_n (q := 4) E.x dX9_lineAt_3 rfl rfl ?_
  refine rv_iadd (q := 5) E.x dX9_lineAt_4 rfl ?_
  refine rv_istore (q := 7) (lv' := [_, _, _, _, _, _]) E.x dX9_lineAt_5 (Nat.le_of_ble_eq_true rfl) rfl rfl rfl ?_
  refine rv_iload (q := 9) E.x dX9_lineAt_7 rfl rfl ?_
  refine rv_if_lt (q := 12) (tgt := 36) E.x dX9_lineAt_9 (by decide) rfl ?_ ?_
  · refine rv_iload (q := 14) E.x dX9_lineAt_12 rfl rfl ?_
    refine rv_aload_n (q := 15) E.x dX9_lineAt_14 rfl rfl ?_
    refine rC_getX9 (q := 18) E 1 1 wfX9_15 rfl (Nat.le_of_ble_eq_true rfl) ⟨rfl, rfl⟩ rfl dX9_lineAt_15 rfl ?_
    refine rC_alen (q := 19) (n := 328) (v := 328) E (Or.inl ⟨rfl, rfl, rfl⟩) (by decide) dX9_lineAt_18 rfl ?_
    refine rv_icmp_ge (q := 22) (tgt := 36) E.x dX9_lineAt_19 (by decide) rfl ?_ ?_
    · refine rv_iload_n (q := 23) E.x dX9_lineAt_22 rfl rfl ?_
      refine rv_if_lt (q := 26) (tgt := 36) E.x dX9_lineAt_23 (by decide) rfl ?_ ?_
      · refine rv_iload_n (q := 27) E.x dX9_lineAt_26 rfl rfl ?_
        refine rv_bipush (q := 29) E.x dX9_lineAt_27 rv_kb10 rfl ?_
        refine rv_icmp_ge (q := 32) (tgt := 36) E.x dX9_lineAt_29 (by decide) rfl ?_ ?_
        · refine rv_iconst (q := 33) E.x dX9_lineAt_32 rv_ki1 rfl ?_
          refine rv_goto (q := 37) E.x dX9_lineAt_33 (by decide) ?_
          refine rv_wk [true, false, false, true, true, false] ?_
          exact b9_lineAt_37 E M a3 ((a1 * 4) + a2) true
        · refine rv_wk [true, false, false, true, true, false] ?_
          exact b9_lineAt_36 E M a3 ((a1 * 4) + a2)
      · refine rv_wk [true, false, false, true, true, false] ?_
        exact b9_lineAt_36 E M a3 ((a1 * 4) + a2)
    · refine rv_wk [true, false, false, true, true, false] ?_
      exact b9_lineAt_36 E M a3 ((a1 * 4) + a2)
  · refine rv_wk [true, false, false, true, true, false] ?_
    exact b9_lineAt_36 E M a3 ((a1 * 4) + a2)
theorem c9_lineAt {l : Launch} {D : va_G} {cI cZ cO : ClassId} {ad : Nat → Nat} {gh : rC_gh} {de : Nat} (hI : rC_I ad gh) {M : rv_Mem} {a1 : Int32} {a2 : Int32} {a3 : Int32} {r : Int32} (h : f9_lineAt gh M a1 a2 a3 = some r) : Met l yX9_lineAt (rv_ws yX9_lineAt cX9_lineAt 6 (some .int)) rm9_lineAt (rC_Pc D cI cZ cO ad gh de [.ref (ad 1), .int a1, .int a2, .int a3] M) (rC_QI D cI cZ cO ad gh de r M) 0 0 (rC_K ad gh) := rC_met hI rfl (by decide) (Nat.le_of_ble_eq_true rfl) (fun p e s m args below meth c E => ⟨(rC_qI D cI cZ cO ad gh de below args s M), rfl, b9_lineAt E M a1 a2 a3⟩) h
abbrev rm3_readLines : Room := { frames := 1, cells := 0, slots := 0, locals := 30 }
set_option maxRecDepth 100000 in
theorem b3_readLines_52 {p : Program} {l : Launch} {e : Env} {s : State} {m : MethodId} {args : Array Value} {below : List Frame} {meth : Method} {c : Code} {D : va_G} {cI cZ cO : ClassId} {ad : Nat → Nat} {gh : rC_gh} {de : Nat} (E : rC_E D cI cZ cO ad gh (rC_K ad gh) RX3 cX3_readLines 8 (some .int) p s m args meth c) (k17 : rv_Mem → Int32 → Int32 → Bool → Nat → Int32 → Int32 → Option (Int32 × rv_Mem)) (h17 : ∀ (M : rv_Mem) (x1 : Int32) (x2 : Int32) (x3 : Bool) (x4 : Nat) (x5 : Int32) (x6 : Int32), rv_M (rC_G D cI cZ cO ad gh de) (rC_K ad gh) p l e rm3_readLines s m args below meth c 0 0 (rC_qIW D cI cZ cO ad gh de below args s) (k17 M x1 x2 x3 x4 x5 x6) 17 [some (.ref (ad 1)), some (.int x1), some (.int x2), some (.int (rv_i x3)), some (.ref (ad x4)), some (.int x5), some (.int x6), none] [] M) : ∀ (M : rv_Mem) (x1 : Int32) (x2 : Int32) (x3 : Bool) (x4 : Nat) (x5 : Int32) (x6 : Int32) (s0 : Nat) (s1 : Int32) (s2 : Int32), rv_M (rC_G D cI cZ cO ad gh de) (rC_K ad gh) p l e rm3_readLines s m args below meth c 0 0 (rC_qIW D cI cZ cO ad gh de below args s) (f3_readLines_52 gh k17 M x1 x2 x3 x4 x5 x6 s0 s1 s2) 52 [some (.ref (ad 1)), some (.int x1), some (.int x2), some (.int (rv_i x3)), some (.ref (ad x4)), some (.int x5), some (.int x6), none] [.int s2, .int s1, .ref (ad s0)] M := by
  intro M x1 x2 x3 x4 x5 x6 s0 s1 s2
  unfold f3_readLines_52
  refine rv_g (fun g1 => ?_)
  refine rC_iast (q := 53) (n := (rC_ln s0)) E (rC_arP g1) dX3_readLines_52 rfl ?_
  refine rv_ltm (fun M2 => ?_)
  refine rv_iinc (q := 56) (lv' := [_, _, _, _, _, _, _, _]) E.x dX3_readLines_53 rv_ki1 rfl rfl rfl rfl ?_
  refine rv_goto (q := 17) E.x dX3_readLines_56 (by decide) ?_
  refine rv_wk [true, true, true, true, true, true, true, false] ?_
  exact h17 M2 x1 x2 x3 x4 x5 (x6 + 1)
set_option maxRecDepth 100000 in
theorem b3_readLines_17_s {p : Program} {l : Launch} {e : Env} {s : State} {m : MethodId} {args : Array Value} {below : List Frame} {meth : Method} {c : Code} {D : va_G} {cI cZ cO : ClassId} {ad : Nat → Nat} {gh : rC_gh} {de : Nat} (E : rC_E D cI cZ cO ad gh (rC_K ad gh) RX3 cX3_readLines 8 (some .int) p s m args meth c)   (k17 : rv_Mem → Int32 → Int32 → Bool → Nat → Int32 → Int32 → Option (Int32 × rv_Mem)) (h17 : ∀ (M : rv_Mem) (x1 : Int32) (x2 : Int32) (x3 : Bool) (x4 : Nat) (x5 : Int32) (x6 : Int32), rv_M (rC_G D cI cZ cO ad gh de) (rC_K ad gh) p l e rm3_readLines s m args below meth c 0 0 (rC_qIW D cI cZ cO ad gh de below args s) (k17 M x1 x2 x3 x4 x5 x6) 17 [some (.ref (ad 1)), some (.int x1), some (.int x2), some (.int (rv_i x3)), some (.ref (ad x4)), some (.int x5), some (.int x6), none] [] M) : ∀ (M : rv_Mem) (x1 : Int32) (x2 : Int32) (x3 : Bool) (x4 : Nat) (x5 : Int32) (x6 : Int32), rv_M (rC_G D cI cZ cO ad gh de) (rC_K ad gh) p l e rm3_readLines s m args below meth c 0 0 (rC_qIW D cI cZ cO ad gh de below args s) (f3_readLines_17_s gh k17 M x1 x2 x3 x4 x5 x6) 17 [some (.ref (ad 1)), some (.int x1), some (.int x2), some (.int (rv_i x3)), some (.ref (ad x4)), some (.int x5), some (.int x6), none] [] M := by
  intro M x1 x2 x3 x4 x5 x6
  unfold f3_readLines_17_s
  refine rv_iload (q := 19) E.x dX3_readLines_17 rfl rfl ?_
  refine rv_iload (q := 21) E.x dX3_readLines_19 rfl rfl ?_
  refine rv_icmp_ge (q := 24) (tgt := 59) E.x dX3_readLines_21 (by decide) rfl ?_ ?_
  · refine rv_aload_n (q := 25) E.x dX3_readLines_24 rfl rfl ?_
    refine rv_iload_n (q := 26) E.x dX3_readLines_25 rfl rfl ?_
    refine rv_iload_n (q := 27) E.x dX3_readLines_26 rfl rfl ?_
    refine rv_iload (q := 29) E.x dX3_readLines_27 rfl rfl ?_
    refine rv_b1 (fun r2 e1 => ?_)
    refine rC_calliX9 (q := 32) E ⟨rfl, rfl⟩ (c9_lineAt E.2.2.1 e1) gX3_67 hX9_lineAt ⟨rfl, rfl⟩ ⟨Nat.le_of_ble_eq_true rfl, Nat.le_of_ble_eq_true rfl⟩ ⟨Nat.le_of_ble_eq_true rfl, Nat.le_of_ble_eq_true rfl⟩ rfl rfl rfl (Nat.le_of_ble_eq_true rfl) dX3_readLines_29 rfl ?_
    refine rv_istore (q := 34) (lv' := [_, _, _, _, _, _, _, _]) E.x dX3_readLines_32 (Nat.le_of_ble_eq_true rfl) rfl rfl rfl ?_
    refine rv_aload (q := 36) E.x dX3_readLines_34 rfl rfl ?_
    refine rv_iload (q := 38) E.x dX3_readLines_36 rfl rfl ?_
    refine rv_iload_n (q := 39) E.x dX3_readLines_38 rfl rfl ?_
    refine rv_ifz_eq (q := 42) (tgt := 50) E.x dX3_readLines_39 (by decide) rfl ?_ ?_
    · refine rv_iload (q := 44) E.x dX3_readLines_42 rfl rfl ?_
      refine rv_bipush (q := 46) E.x dX3_readLines_44 rv_kb100 rfl ?_
      refine rv_irem (q := 47) E.x dX3_readLines_46 (by decide) rfl ?_
      refine rv_goto (q := 52) E.x dX3_readLines_47 (by decide) ?_
      refine rv_wk [true, true, true, true, true, true, true, false] ?_
      exact b3_readLines_52 E k17 h17 M x1 x2 x3 x4 x5 x6 x4 x6 (r2 - r2 / 100 * 100)
    · refine rv_iload (q := 52) E.x dX3_readLines_50 rfl rfl ?_
      refine rv_wk [true, true, true, true, true, true, true, false] ?_
      exact b3_readLines_52 E k17 h17 M x1 x2 x3 x4 x5 x6 x4 x6 r2
  · refine rv_iload (q := 61) E.x dX3_readLines_59 rfl rfl ?_
    exact rC_iret E rfl dX3_readLines_61
theorem b3_readLines_17 {p : Program} {l : Launch} {e : Env} {s : State} {m : MethodId} {args : Array Value} {below : List Frame} {meth : Method} {c : Code} {D : va_G} {cI cZ cO : ClassId} {ad : Nat → Nat} {gh : rC_gh} {de : Nat} (E : rC_E D cI cZ cO ad gh (rC_K ad gh) RX3 cX3_readLines 8 (some .int) p s m args meth c)   : ∀ (n : Nat), ∀ (M : rv_Mem) (x1 : Int32) (x2 : Int32) (x3 : Bool) (x4 : Nat) (x5 : Int32) (x6 : Int32), rv_M (rC_G D cI cZ cO ad gh de) (rC_K ad gh) p l e rm3_readLines s m args below meth c 0 0 (rC_qIW D cI cZ cO ad gh de below args s) (f3_readLines_17 gh n M x1 x2 x3 x4 x5 x6) 17 [some (.ref (ad 1)), some (.int x1), some (.int x2), some (.int (rv_i x3)), some (.ref (ad x4)), some (.int x5), some (.int x6), none] [] M := by
  intro n
  induction n with
  | zero => exact fun _ _ _ _ _ _ _ => rv_stuck
  | succ n ih => exact b3_readLines_17_s E  (f3_readLines_17 gh n) ih
set_option maxRecDepth 100000 in
theorem b3_readLines {p : Program} {l : Launch} {e : Env} {s : State} {m : MethodId} {args : Array Value} {below : List Frame} {meth : Method} {c : Code} {D : va_G} {cI cZ cO : ClassId} {ad : Nat → Nat} {gh : rC_gh} {de : Nat} (E : rC_E D cI cZ cO ad gh (rC_K ad gh) RX3 cX3_readLines 8 (some .int) p s m args meth c) (M : rv_Mem) (a2 : Int32) (a3 : Int32) (a4 : Bool) (a5 : Nat) : rv_M (rC_G D cI cZ cO ad gh de) (rC_K ad gh) p l e rm3_readLines s m args below meth c 0 0 (rC_qIW D cI cZ cO ad gh de below args s) (f3_readLines gh M a2 a3 a4 a5) 0 [some (.ref (ad 1)), some (.int a2), some (.int a3), some (.int (rv_i a4)), some (.ref (ad a5)), none, none, none] [] M := by
  unfold f3_readLines
  refine rv_aload_n (q := 1) E.x dX3_readLines_0 rfl rfl ?_
  refine rv_iload_n (q := 2) E.x dX3_readLines_1 rfl rfl ?_
  refine rv_iload_n (q := 3) E.x dX3_readLines_2 rfl rfl ?_
  refine rv_b1 (fun r2 e1 => ?_)
  refine rC_calliX9 (q := 6) E ⟨rfl, rfl⟩ (c9_sizeOf E.2.2.1 e1) gX3_56 hX9_sizeOf ⟨rfl, rfl⟩ ⟨Nat.le_of_ble_eq_true rfl, Nat.le_of_ble_eq_true rfl⟩ ⟨Nat.le_of_ble_eq_true rfl, Nat.le_of_ble_eq_true rfl⟩ rfl rfl rfl (Nat.le_of_ble_eq_true rfl) dX3_readLines_3 rfl ?_
  refine rv_aload (q := 8) E.x dX3_readLines_6 rfl rfl ?_
  refine rv_g (fun g3 => ?_)
  refine rC_alen (q := 9) (n := (rC_ln a5)) (v := (nI (rC_ln a5))) E (Or.inl (rC_arP g3)) rfl dX3_readLines_8 rfl ?_
  refine rC_mmin (q := 12) E wmX3_62 rfl rfl (Nat.le_of_ble_eq_true rfl) (Nat.le_of_ble_eq_true rfl) ⟨Nat.le_of_ble_eq_true rfl, Nat.le_of_ble_eq_true rfl⟩ dX3_readLines_9 rfl ?_
  refine rv_istore (q := 14) (lv' := [_, _, _, _, _, _, _, _]) E.x dX3_readLines_12 (Nat.le_of_ble_eq_true rfl) rfl rfl rfl ?_
  refine rv_iconst (q := 15) E.x dX3_readLines_14 rv_ki0 rfl ?_
  refine rv_istore (q := 17) (lv' := [_, _, _, _, _, _, _, _]) E.x dX3_readLines_15 (Nat.le_of_ble_eq_true rfl) rfl rfl rfl ?_
  refine rv_wk [true, true, true, true, true, true, true, false] ?_
  exact b3_readLines_17 E rv_FU M a2 a3 a4 a5 (if (nI (rC_ln a5)) < r2 then (nI (rC_ln a5)) else r2) 0
theorem c3_readLines {l : Launch} {D : va_G} {cI cZ cO : ClassId} {ad : Nat → Nat} {gh : rC_gh} {de : Nat} (hI : rC_I ad gh) {M : rv_Mem} {a2 : Int32} {a3 : Int32} {a4 : Bool} {a5 : Nat} {r : Int32} {M1 : rv_Mem} (h : f3_readLines gh M a2 a3 a4 a5 = some (r, M1)) : Met l yX3_readLines (rv_ws yX3_readLines cX3_readLines 8 (some .int)) rm3_readLines (rC_Pc D cI cZ cO ad gh de [.ref (ad 1), .int a2, .int a3, .int (rv_i a4), .ref (ad a5)] M) (rC_QI D cI cZ cO ad gh de r M1) 0 0 (rC_K ad gh) := rC_met hI rfl (by decide) (Nat.le_of_ble_eq_true rfl) (fun p e s m args below meth c E => ⟨(rC_qIW D cI cZ cO ad gh de below args s), rfl, b3_readLines E M a2 a3 a4 a5⟩) h
abbrev rm3_countPairs : Room := { frames := 1, cells := 0, slots := 0, locals := 30 }
set_option maxRecDepth 100000 in
theorem b3_countPairs_101 {p : Program} {l : Launch} {e : Env} {s : State} {m : MethodId} {args : Array Value} {below : List Frame} {meth : Method} {c : Code} {D : va_G} {cI cZ cO : ClassId} {ad : Nat → Nat} {gh : rC_gh} {de : Nat} (E : rC_E D cI cZ cO ad gh (rC_K ad gh) RX3 cX3_countPairs 4 none p s m args meth c) (k5 : rv_Mem → Nat → Int32 → Option (rv_Mem)) (k14 : rv_Mem → Nat → Int32 → Int32 → Option (rv_Mem)) (h5 : ∀ (M : rv_Mem) (x0 : Nat) (x1 : Int32), rv_M (rC_G D cI cZ cO ad gh de) (rC_K ad gh) p l e rm3_countPairs s m args below meth c 0 0 (rC_qV D cI cZ cO ad gh de below args s) (k5 M x0 x1) 5 [some (.ref (ad x0)), some (.int x1), none, none] [] M) (h14 : ∀ (M : rv_Mem) (x0 : Nat) (x1 : Int32) (x2 : Int32), rv_M (rC_G D cI cZ cO ad gh de) (rC_K ad gh) p l e rm3_countPairs s m args below meth c 0 0 (rC_qV D cI cZ cO ad gh de below args s) (k14 M x0 x1 x2) 14 [some (.ref (ad x0)), some (.int x1), some (.int x2), none] [] M) : ∀ (M : rv_Mem) (x0 : Nat) (x1 : Int32) (x2 : Int32) (x3 : Int32), rv_M (rC_G D cI cZ cO ad gh de) (rC_K ad gh) p l e rm3_countPairs s m args below meth c 0 0 (rC_qV D cI cZ cO ad gh de below args s) (f3_countPairs_101 gh k5 k14 M x0 x1 x2 x3) 101 [some (.ref (ad x0)), some (.int x1), some (.int x2), some (.int x3)] [] M := by
  intro M x0 x1 x2 x3
  unfold f3_countPairs_101
  refine rv_aload_n (q := 102) E.x dX3_countPairs_101 rfl rfl ?_
  refine rv_g (fun g1 => ?_)
  refine rC_getX3 (q := 105) E x0 2 wfX3_18 rfl (Nat.le_of_ble_eq_true rfl) (rC_at_of g1) rfl dX3_countPairs_102 rfl ?_
  refine rv_iload_n (q := 106) E.x dX3_countPairs_105 rfl rfl ?_
  refine rv_bipush (q := 108) E.x dX3_countPairs_106 rv_kb11 rfl ?_
  refine rv_imul (q := 109) E.x dX3_countPairs_108 rfl ?_
  refine rv_iload_n (q := 110) E.x dX3_countPairs_109 rfl rfl ?_
  refine rv_iadd (q := 111) E.x dX3_countPairs_110 rfl ?_
  refine rv_iload_n (q := 112) E.x dX3_countPairs_111 rfl rfl ?_
  refine rC_iast (q := 113) (n := 121) E (rC_arCm g1 22 (by decide)) dX3_countPairs_112 rfl ?_
  refine rv_ltm (fun M2 => ?_)
  refine rv_iinc (q := 116) (lv' := [_, _, _, _]) E.x dX3_countPairs_113 rv_kim1 rfl rfl rfl rfl ?_
  refine rv_goto (q := 14) E.x dX3_countPairs_116 (by decide) ?_
  refine rv_wk [true, true, true, false] ?_
  exact h14 M2 x0 x1 (x2 + (-1))
set_option maxRecDepth 100000 in
theorem b3_countPairs_100 {p : Program} {l : Launch} {e : Env} {s : State} {m : MethodId} {args : Array Value} {below : List Frame} {meth : Method} {c : Code} {D : va_G} {cI cZ cO : ClassId} {ad : Nat → Nat} {gh : rC_gh} {de : Nat} (E : rC_E D cI cZ cO ad gh (rC_K ad gh) RX3 cX3_countPairs 4 none p s m args meth c) (k5 : rv_Mem → Nat → Int32 → Option (rv_Mem)) (k14 : rv_Mem → Nat → Int32 → Int32 → Option (rv_Mem)) (h5 : ∀ (M : rv_Mem) (x0 : Nat) (x1 : Int32), rv_M (rC_G D cI cZ cO ad gh de) (rC_K ad gh) p l e rm3_countPairs s m args below meth c 0 0 (rC_qV D cI cZ cO ad gh de below args s) (k5 M x0 x1) 5 [some (.ref (ad x0)), some (.int x1), none, none] [] M) (h14 : ∀ (M : rv_Mem) (x0 : Nat) (x1 : Int32) (x2 : Int32), rv_M (rC_G D cI cZ cO ad gh de) (rC_K ad gh) p l e rm3_countPairs s m args below meth c 0 0 (rC_qV D cI cZ cO ad gh de below args s) (k14 M x0 x1 x2) 14 [some (.ref (ad x0)), some (.int x1), some (.int x2), none] [] M) : ∀ (M : rv_Mem) (x0 : Nat) (x1 : Int32) (x2 : Int32) (s0 : Int32), rv_M (rC_G D cI cZ cO ad gh de) (rC_K ad gh) p l e rm3_countPairs s m args below meth c 0 0 (rC_qV D cI cZ cO ad gh de below args s) (f3_countPairs_100 gh k5 k14 M x0 x1 x2 s0) 100 [some (.ref (ad x0)), some (.int x1), some (.int x2), none] [.int s0] M := by
  intro M x0 x1 x2 s0
  unfold f3_countPairs_100
  refine rv_istore_n (q := 101) (lv' := [_, _, _, _]) E.x dX3_countPairs_100 (Nat.le_of_ble_eq_true rfl) rfl rfl rfl ?_
  refine rv_wk [true, true, true, true] ?_
  exact b3_countPairs_101 E k5 k14 h5 h14 M x0 x1 x2 s0
set_option maxRecDepth 100000 in
theorem b3_countPairs_14_s {p : Program} {l : Launch} {e : Env} {s : State} {m : MethodId} {args : Array Value} {below : List Frame} {meth : Method} {c : Code} {D : va_G} {cI cZ cO : ClassId} {ad : Nat → Nat} {gh : rC_gh} {de : Nat} (E : rC_E D cI cZ cO ad gh (rC_K ad gh) RX3 cX3_countPairs 4 none p s m args meth c) (k5 : rv_Mem → Nat → Int32 → Option (rv_Mem)) (h5 : ∀ (M : rv_Mem) (x0 : Nat) (x1 : Int32), rv_M (rC_G D cI cZ cO ad gh de) (rC_K ad gh) p l e rm3_countPairs s m args below meth c 0 0 (rC_qV D cI cZ cO ad gh de below args s) (k5 M x0 x1) 5 [some (.ref (ad x0)), some (.int x1), none, none] [] M) (k14 : rv_Mem → Nat → Int32 → Int32 → Option (rv_Mem)) (h14 : ∀ (M : rv_Mem) (x0 : Nat) (x1 : Int32) (x2 : Int32), rv_M (rC_G D cI cZ cO ad gh de) (rC_K ad gh) p l e rm3_countPairs s m args below meth c 0 0 (rC_qV D cI cZ cO ad gh de below args s) (k14 M x0 x1 x2) 14 [some (.ref (ad x0)), some (.int x1), some (.int x2), none] [] M) : ∀ (M : rv_Mem) (x0 : Nat) (x1 : Int32) (x2 : Int32), rv_M (rC_G D cI cZ cO ad gh de) (rC_K ad gh) p l e rm3_countPairs s m args below meth c 0 0 (rC_qV D cI cZ cO ad gh de below args s) (f3_countPairs_14_s gh k5 k14 M x0 x1 x2) 14 [some (.ref (ad x0)), some (.int x1), some (.int x2), none] [] M := by
  intro M x0 x1 x2
  unfold f3_countPairs_14_s
  refine rv_iload_n (q := 15) E.x dX3_countPairs_14 rfl rfl ?_
  refine rv_if_lt (q := 18) (tgt := 119) E.x dX3_countPairs_15 (by decide) rfl ?_ ?_
  · refine rv_iconst (q := 19) E.x dX3_countPairs_18 rv_ki0 rfl ?_
    refine rv_istore_n (q := 20) (lv' := [_, _, _, _]) E.x dX3_countPairs_19 (Nat.le_of_ble_eq_true rfl) rfl rfl rfl ?_
    refine rv_iload_n (q := 21) E.x dX3_countPairs_20 rfl rfl ?_
    refine rv_aload_n (q := 22) E.x dX3_countPairs_21 rfl rfl ?_
    refine rv_g (fun g1 => ?_)
    refine rC_getX3 (q := 25) E x0 8 wfX3_40 rfl (Nat.le_of_ble_eq_true rfl) (rC_at_of g1) rfl dX3_countPairs_22 rfl ?_
    refine rv_icmp_ge (q := 28) (tgt := 101) E.x dX3_countPairs_25 (by decide) rfl ?_ ?_
    · refine rv_iload_n (q := 29) E.x dX3_countPairs_28 rfl rfl ?_
      refine rv_aload_n (q := 30) E.x dX3_countPairs_29 rfl rfl ?_
      refine rC_getX3 (q := 33) E x0 9 wfX3_44 rfl (Nat.le_of_ble_eq_true rfl) (rC_at_of g1) rfl dX3_countPairs_30 rfl ?_
      refine rv_icmp_ge (q := 36) (tgt := 101) E.x dX3_countPairs_33 (by decide) rfl ?_ ?_
      · refine rv_aload_n (q := 37) E.x dX3_countPairs_36 rfl rfl ?_
        refine rC_getX3 (q := 40) E x0 0 wfX3_9 rfl (Nat.le_of_ble_eq_true rfl) (rC_at_of g1) rfl dX3_countPairs_37 rfl ?_
        refine rv_iload_n (q := 41) E.x dX3_countPairs_40 rfl rfl ?_
        refine rC_iald (q := 42) (n := 10) E (rC_arCm g1 18 (by decide)) dX3_countPairs_41 rfl ?_
        refine rv_aload_n (q := 43) E.x dX3_countPairs_42 rfl rfl ?_
        refine rC_getX3 (q := 46) E x0 1 wfX3_15 rfl (Nat.le_of_ble_eq_true rfl) (rC_at_of g1) rfl dX3_countPairs_43 rfl ?_
        refine rv_iload_n (q := 47) E.x dX3_countPairs_46 rfl rfl ?_
        refine rC_iald (q := 48) (n := 10) E (rC_arCm g1 20 (by decide)) dX3_countPairs_47 rfl ?_
        refine rv_icmp_ne (q := 51) (tgt := 71) E.x dX3_countPairs_48 (by decide) rfl ?_ ?_
        · refine rv_aload_n (q := 52) E.x dX3_countPairs_51 rfl rfl ?_
          refine rC_getX3 (q := 55) E x0 2 wfX3_18 rfl (Nat.le_of_ble_eq_true rfl) (rC_at_of g1) rfl dX3_countPairs_52 rfl ?_
          refine rv_iload_n (q := 56) E.x dX3_countPairs_55 rfl rfl ?_
          refine rv_iconst (q := 57) E.x dX3_countPairs_56 rv_ki1 rfl ?_
          refine rv_iadd (q := 58) E.x dX3_countPairs_57 rfl ?_
          refine rv_bipush (q := 60) E.x dX3_countPairs_58 rv_kb11 rfl ?_
          refine rv_imul (q := 61) E.x dX3_countPairs_60 rfl ?_
          refine rv_iload_n (q := 62) E.x dX3_countPairs_61 rfl rfl ?_
          refine rv_iadd (q := 63) E.x dX3_countPairs_62 rfl ?_
          refine rv_iconst (q := 64) E.x dX3_countPairs_63 rv_ki1 rfl ?_
          refine rv_iadd (q := 65) E.x dX3_countPairs_64 rfl ?_
          refine rC_iald (q := 66) (n := 121) E (rC_arCm g1 22 (by decide)) dX3_countPairs_65 rfl ?_
          refine rv_iconst (q := 67) E.x dX3_countPairs_66 rv_ki1 rfl ?_
          refine rv_iadd (q := 68) E.x dX3_countPairs_67 rfl ?_
          refine rv_goto (q := 100) E.x dX3_countPairs_68 (by decide) ?_
          refine rv_wk [true, true, true, false] ?_
          exact b3_countPairs_100 E k5 k14 h5 h14 M x0 x1 x2 ((M (x0 + 22) (((((x1 + 1) * 11) + x2) + 1)).toNatClampNeg) + 1)
        · refine rv_aload_n (q := 72) E.x dX3_countPairs_71 rfl rfl ?_
          refine rC_getX3 (q := 75) E x0 2 wfX3_18 rfl (Nat.le_of_ble_eq_true rfl) (rC_at_of g1) rfl dX3_countPairs_72 rfl ?_
          refine rv_iload_n (q := 76) E.x dX3_countPairs_75 rfl rfl ?_
          refine rv_iconst (q := 77) E.x dX3_countPairs_76 rv_ki1 rfl ?_
          refine rv_iadd (q := 78) E.x dX3_countPairs_77 rfl ?_
          refine rv_bipush (q := 80) E.x dX3_countPairs_78 rv_kb11 rfl ?_
          refine rv_imul (q := 81) E.x dX3_countPairs_80 rfl ?_
          refine rv_iload_n (q := 82) E.x dX3_countPairs_81 rfl rfl ?_
          refine rv_iadd (q := 83) E.x dX3_countPairs_82 rfl ?_
          refine rC_iald (q := 84) (n := 121) E (rC_arCm g1 22 (by decide)) dX3_countPairs_83 rfl ?_
          refine rv_aload_n (q := 85) E.x dX3_countPairs_84 rfl rfl ?_
          refine rC_getX3 (q := 88) E x0 2 wfX3_18 rfl (Nat.le_of_ble_eq_true rfl) (rC_at_of g1) rfl dX3_countPairs_85 rfl ?_
          refine rv_iload_n (q := 89) E.x dX3_countPairs_88 rfl rfl ?_
          refine rv_bipush (q := 91) E.x dX3_countPairs_89 rv_kb11 rfl ?_
          refine rv_imul (q := 92) E.x dX3_countPairs_91 rfl ?_
          refine rv_iload_n (q := 93) E.x dX3_countPairs_92 rfl rfl ?_
          refine rv_iadd (q := 94) E.x dX3_countPairs_93 rfl ?_
          refine rv_iconst (q := 95) E.x dX3_countPairs_94 rv_ki1 rfl ?_
          refine rv_iadd (q := 96) E.x dX3_countPairs_95 rfl ?_
          refine rC_iald (q := 97) (n := 121) E (rC_arCm g1 22 (by decide)) dX3_countPairs_96 rfl ?_
          refine rC_mmax (q := 100) E wmX3_71 rfl rfl (Nat.le_of_ble_eq_true rfl) (Nat.le_of_ble_eq_true rfl) ⟨Nat.le_of_ble_eq_true rfl, Nat.le_of_ble_eq_true rfl⟩ dX3_countPairs_97 rfl ?_
          refine rv_wk [true, true, true, false] ?_
          exact b3_countPairs_100 E k5 k14 h5 h14 M x0 x1 x2 (if (M (x0 + 22) ((((x1 + 1) * 11) + x2)).toNatClampNeg) < (M (x0 + 22) ((((x1 * 11) + x2) + 1)).toNatClampNeg) then (M (x0 + 22) ((((x1 * 11) + x2) + 1)).toNatClampNeg) else (M (x0 + 22) ((((x1 + 1) * 11) + x2)).toNatClampNeg))
      · refine rv_wk [true, true, true, true] ?_
        exact b3_countPairs_101 E k5 k14 h5 h14 M x0 x1 x2 0
    · refine rv_wk [true, true, true, true] ?_
      exact b3_countPairs_101 E k5 k14 h5 h14 M x0 x1 x2 0
  · refine rv_iinc (q := 122) (lv' := [_, _, _, _]) E.x dX3_countPairs_119 rv_kim1 rfl rfl rfl rfl ?_
    refine rv_goto (q := 5) E.x dX3_countPairs_122 (by decide) ?_
    refine rv_wk [true, true, false, false] ?_
    exact h5 M x0 (x1 + (-1))
theorem b3_countPairs_14 {p : Program} {l : Launch} {e : Env} {s : State} {m : MethodId} {args : Array Value} {below : List Frame} {meth : Method} {c : Code} {D : va_G} {cI cZ cO : ClassId} {ad : Nat → Nat} {gh : rC_gh} {de : Nat} (E : rC_E D cI cZ cO ad gh (rC_K ad gh) RX3 cX3_countPairs 4 none p s m args meth c) (k5 : rv_Mem → Nat → Int32 → Option (rv_Mem)) (h5 : ∀ (M : rv_Mem) (x0 : Nat) (x1 : Int32), rv_M (rC_G D cI cZ cO ad gh de) (rC_K ad gh) p l e rm3_countPairs s m args below meth c 0 0 (rC_qV D cI cZ cO ad gh de below args s) (k5 M x0 x1) 5 [some (.ref (ad x0)), some (.int x1), none, none] [] M) : ∀ (n : Nat), ∀ (M : rv_Mem) (x0 : Nat) (x1 : Int32) (x2 : Int32), rv_M (rC_G D cI cZ cO ad gh de) (rC_K ad gh) p l e rm3_countPairs s m args below meth c 0 0 (rC_qV D cI cZ cO ad gh de below args s) (f3_countPairs_14 gh k5 n M x0 x1 x2) 14 [some (.ref (ad x0)), some (.int x1), some (.int x2), none] [] M := by
  intro n
  induction n with
  | zero => exact fun _ _ _ _ => rv_stuck
  | succ n ih => exact b3_countPairs_14_s E k5 h5 (f3_countPairs_14 gh k5 n) ih
set_option maxRecDepth 100000 in
theorem b3_countPairs_5_s {p : Program} {l : Launch} {e : Env} {s : State} {m : MethodId} {args : Array Value} {below : List Frame} {meth : Method} {c : Code} {D : va_G} {cI cZ cO : ClassId} {ad : Nat → Nat} {gh : rC_gh} {de : Nat} (E : rC_E D cI cZ cO ad gh (rC_K ad gh) RX3 cX3_countPairs 4 none p s m args meth c)   (k5 : rv_Mem → Nat → Int32 → Option (rv_Mem)) (h5 : ∀ (M : rv_Mem) (x0 : Nat) (x1 : Int32), rv_M (rC_G D cI cZ cO ad gh de) (rC_K ad gh) p l e rm3_countPairs s m args below meth c 0 0 (rC_qV D cI cZ cO ad gh de below args s) (k5 M x0 x1) 5 [some (.ref (ad x0)), some (.int x1), none, none] [] M) : ∀ (M : rv_Mem) (x0 : Nat) (x1 : Int32), rv_M (rC_G D cI cZ cO ad gh de) (rC_K ad gh) p l e rm3_countPairs s m args below meth c 0 0 (rC_qV D cI cZ cO ad gh de below args s) (f3_countPairs_5_s gh k5 M x0 x1) 5 [some (.ref (ad x0)), some (.int x1), none, none] [] M := by
  intro M x0 x1
  unfold f3_countPairs_5_s
  refine rv_iload_n (q := 6) E.x dX3_countPairs_5 rfl rfl ?_
  refine rv_if_lt (q := 9) (tgt := 125) E.x dX3_countPairs_6 (by decide) rfl ?_ ?_
  · refine rv_aload_n (q := 10) E.x dX3_countPairs_9 rfl rfl ?_
    refine rv_g (fun g1 => ?_)
    refine rC_getX3 (q := 13) E x0 9 wfX3_44 rfl (Nat.le_of_ble_eq_true rfl) (rC_at_of g1) rfl dX3_countPairs_10 rfl ?_
    refine rv_istore_n (q := 14) (lv' := [_, _, _, _]) E.x dX3_countPairs_13 (Nat.le_of_ble_eq_true rfl) rfl rfl rfl ?_
    refine rv_wk [true, true, true, false] ?_
    exact b3_countPairs_14 E k5 h5 rv_FU M x0 x1 (M x0 9)
  · exact rC_vret E rfl dX3_countPairs_125
theorem b3_countPairs_5 {p : Program} {l : Launch} {e : Env} {s : State} {m : MethodId} {args : Array Value} {below : List Frame} {meth : Method} {c : Code} {D : va_G} {cI cZ cO : ClassId} {ad : Nat → Nat} {gh : rC_gh} {de : Nat} (E : rC_E D cI cZ cO ad gh (rC_K ad gh) RX3 cX3_countPairs 4 none p s m args meth c)   : ∀ (n : Nat), ∀ (M : rv_Mem) (x0 : Nat) (x1 : Int32), rv_M (rC_G D cI cZ cO ad gh de) (rC_K ad gh) p l e rm3_countPairs s m args below meth c 0 0 (rC_qV D cI cZ cO ad gh de below args s) (f3_countPairs_5 gh n M x0 x1) 5 [some (.ref (ad x0)), some (.int x1), none, none] [] M := by
  intro n
  induction n with
  | zero => exact fun _ _ _ => rv_stuck
  | succ n ih => exact b3_countPairs_5_s E  (f3_countPairs_5 gh n) ih
set_option maxRecDepth 100000 in
theorem b3_countPairs {p : Program} {l : Launch} {e : Env} {s : State} {m : MethodId} {args : Array Value} {below : List Frame} {meth : Method} {c : Code} {D : va_G} {cI cZ cO : ClassId} {ad : Nat → Nat} {gh : rC_gh} {de : Nat} (E : rC_E D cI cZ cO ad gh (rC_K ad gh) RX3 cX3_countPairs 4 none p s m args meth c) (M : rv_Mem) (a0 : Nat) : rv_M (rC_G D cI cZ cO ad gh de) (rC_K ad gh) p l e rm3_countPairs s m args below meth c 0 0 (rC_qV D cI cZ cO ad gh de below args s) (f3_countPairs gh M a0) 0 [some (.ref (ad a0)), none, none, none] [] M := by
  unfold f3_countPairs
  refine rv_aload_n (q := 1) E.x dX3_countPairs_0 rfl rfl ?_
  refine rv_g (fun g1 => ?_)
  refine rC_getX3 (q := 4) E a0 8 wfX3_40 rfl (Nat.le_of_ble_eq_true rfl) (rC_at_of g1) rfl dX3_countPairs_1 rfl ?_
  refine rv_istore_n (q := 5) (lv' := [_, _, _, _]) E.x dX3_countPairs_4 (Nat.le_of_ble_eq_true rfl) rfl rfl rfl ?_
  refine rv_wk [true, true, false, false] ?_
  exact b3_countPairs_5 E rv_FU M a0 (M a0 8)
theorem c3_countPairs {l : Launch} {D : va_G} {cI cZ cO : ClassId} {ad : Nat → Nat} {gh : rC_gh} {de : Nat} (hI : rC_I ad gh) {M : rv_Mem} {a0 : Nat} {M1 : rv_Mem} (h : f3_countPairs gh M a0 = some M1) : Met l yX3_countPairs (rv_ws yX3_countPairs cX3_countPairs 4 none) rm3_countPairs (rC_Pc D cI cZ cO ad gh de [.ref (ad a0)] M) (rC_QV D cI cZ cO ad gh de M1) 0 0 (rC_K ad gh) := rC_met hI rfl (by decide) (Nat.le_of_ble_eq_true rfl) (fun p e s m args below meth c E => ⟨(rC_qV D cI cZ cO ad gh de below args s), rfl, b3_countPairs E M a0⟩) h
abbrev rmJ_fill : Room := { frames := 0, cells := 0, slots := 0, locals := 0 }
set_option maxRecDepth 100000 in
theorem bJ_fill_5_s {p : Program} {l : Launch} {e : Env} {s : State} {m : MethodId} {args : Array Value} {below : List Frame} {meth : Method} {c : Code} {D : va_G} {cI cZ cO : ClassId} {ad : Nat → Nat} {gh : rC_gh} {de : Nat} (E : rC_E D cI cZ cO ad gh (rC_K ad gh) RJ7 cJ7_fill_53178 4 none p s m args meth c)   (k5 : rv_Mem → Nat → Int32 → Int32 → Int32 → Option (rv_Mem)) (h5 : ∀ (M : rv_Mem) (x0 : Nat) (x1 : Int32) (x2 : Int32) (x3 : Int32), rv_M (rC_G D cI cZ cO ad gh de) (rC_K ad gh) p l e rmJ_fill s m args below meth c 0 0 (rC_qV D cI cZ cO ad gh de below args s) (k5 M x0 x1 x2 x3) 5 [some (.ref (ad x0)), some (.int x1), some (.int x2), some (.int x3)] [] M) : ∀ (M : rv_Mem) (x0 : Nat) (x1 : Int32) (x2 : Int32) (x3 : Int32), rv_M (rC_G D cI cZ cO ad gh de) (rC_K ad gh) p l e rmJ_fill s m args below meth c 0 0 (rC_qV D cI cZ cO ad gh de below args s) (fJ_fill_5_s gh k5 M x0 x1 x2 x3) 5 [some (.ref (ad x0)), some (.int x1), some (.int x2), some (.int x3)] [] M := by
  intro M x0 x1 x2 x3
  unfold fJ_fill_5_s
  refine rv_iload_n (q := 6) E.x dJ7_fill_53178_5 rfl rfl ?_
  refine rv_iload_n (q := 7) E.x dJ7_fill_53178_6 rfl rfl ?_
  refine rv_icmp_ge (q := 10) (tgt := 20) E.x dJ7_fill_53178_7 (by decide) rfl ?_ ?_
  · refine rv_aload_n (q := 11) E.x dJ7_fill_53178_10 rfl rfl ?_
    refine rv_iload_n (q := 12) E.x dJ7_fill_53178_11 rfl rfl ?_
    refine rv_iload_n (q := 13) E.x dJ7_fill_53178_12 rfl rfl ?_
    refine rv_g (fun g1 => ?_)
    refine rC_iast (q := 14) (n := (rC_ln x0)) E (rC_arP g1) dJ7_fill_53178_13 rfl ?_
    refine rv_ltm (fun M2 => ?_)
    refine rv_iinc (q := 17) (lv' := [_, _, _, _]) E.x dJ7_fill_53178_14 rv_ki1 rfl rfl rfl rfl ?_
    refine rv_goto (q := 5) E.x dJ7_fill_53178_17 (by decide) ?_
    refine rv_wk [true, true, true, true] ?_
    exact h5 M2 x0 x1 (x2 + 1) x3
  · exact rC_vret E rfl dJ7_fill_53178_20
theorem bJ_fill_5 {p : Program} {l : Launch} {e : Env} {s : State} {m : MethodId} {args : Array Value} {below : List Frame} {meth : Method} {c : Code} {D : va_G} {cI cZ cO : ClassId} {ad : Nat → Nat} {gh : rC_gh} {de : Nat} (E : rC_E D cI cZ cO ad gh (rC_K ad gh) RJ7 cJ7_fill_53178 4 none p s m args meth c)   : ∀ (n : Nat), ∀ (M : rv_Mem) (x0 : Nat) (x1 : Int32) (x2 : Int32) (x3 : Int32), rv_M (rC_G D cI cZ cO ad gh de) (rC_K ad gh) p l e rmJ_fill s m args below meth c 0 0 (rC_qV D cI cZ cO ad gh de below args s) (fJ_fill_5 gh n M x0 x1 x2 x3) 5 [some (.ref (ad x0)), some (.int x1), some (.int x2), some (.int x3)] [] M := by
  intro n
  induction n with
  | zero => exact fun _ _ _ _ _ => rv_stuck
  | succ n ih => exact bJ_fill_5_s E  (fJ_fill_5 gh n) ih
set_option maxRecDepth 100000 in
theorem bJ_fill {p : Program} {l : Launch} {e : Env} {s : State} {m : MethodId} {args : Array Value} {below : List Frame} {meth : Method} {c : Code} {D : va_G} {cI cZ cO : ClassId} {ad : Nat → Nat} {gh : rC_gh} {de : Nat} (E : rC_E D cI cZ cO ad gh (rC_K ad gh) RJ7 cJ7_fill_53178 4 none p s m args meth c) (M : rv_Mem) (a1 : Nat) (a2 : Int32) : rv_M (rC_G D cI cZ cO ad gh de) (rC_K ad gh) p l e rmJ_fill s m args below meth c 0 0 (rC_qV D cI cZ cO ad gh de below args s) (fJ_fill gh M a1 a2) 0 [some (.ref (ad a1)), some (.int a2), none, none] [] M := by
  unfold fJ_fill
  refine rv_iconst (q := 1) E.x dJ7_fill_53178_0 rv_ki0 rfl ?_
  refine rv_istore_n (q := 2) (lv' := [_, _, _, _]) E.x dJ7_fill_53178_1 (Nat.le_of_ble_eq_true rfl) rfl rfl rfl ?_
  refine rv_aload_n (q := 3) E.x dJ7_fill_53178_2 rfl rfl ?_
  refine rv_g (fun g1 => ?_)
  refine rC_alen (q := 4) (n := (rC_ln a1)) (v := (nI (rC_ln a1))) E (Or.inl (rC_arP g1)) rfl dJ7_fill_53178_3 rfl ?_
  refine rv_istore_n (q := 5) (lv' := [_, _, _, _]) E.x dJ7_fill_53178_4 (Nat.le_of_ble_eq_true rfl) rfl rfl rfl ?_
  refine rv_wk [true, true, true, true] ?_
  exact bJ_fill_5 E rv_FU M a1 a2 0 (nI (rC_ln a1))
theorem cJ_fill {l : Launch} {D : va_G} {cI cZ cO : ClassId} {ad : Nat → Nat} {gh : rC_gh} {de : Nat} (hI : rC_I ad gh) {M : rv_Mem} {a1 : Nat} {a2 : Int32} {M1 : rv_Mem} (h : fJ_fill gh M a1 a2 = some M1) : Met l yJ7_fill_53178 (rv_ws yJ7_fill_53178 cJ7_fill_53178 4 none) rmJ_fill (rC_Pc D cI cZ cO ad gh de [.ref (ad a1), .int a2] M) (rC_QV D cI cZ cO ad gh de M1) 0 0 (rC_K ad gh) := rC_met hI rfl (by decide) (Nat.le_of_ble_eq_true rfl) (fun p e s m args below meth c E => ⟨(rC_qV D cI cZ cO ad gh de below args s), rfl, bJ_fill E M a1 a2⟩) h
abbrev rm3_pairLines : Room := { frames := 1, cells := 0, slots := 0, locals := 23 }
set_option maxRecDepth 100000 in
theorem b3_pairLines_103 {p : Program} {l : Launch} {e : Env} {s : State} {m : MethodId} {args : Array Value} {below : List Frame} {meth : Method} {c : Code} {D : va_G} {cI cZ cO : ClassId} {ad : Nat → Nat} {gh : rC_gh} {de : Nat} (E : rC_E D cI cZ cO ad gh (rC_K ad gh) RX3 cX3_pairLines 4 none p s m args meth c) (k14 : rv_Mem → Nat → Int32 → Int32 → Int32 → Option (rv_Mem)) (h14 : ∀ (M : rv_Mem) (x0 : Nat) (x1 : Int32) (x2 : Int32) (x3 : Int32), rv_M (rC_G D cI cZ cO ad gh de) (rC_K ad gh) p l e rm3_pairLines s m args below meth c 0 0 (rC_qV D cI cZ cO ad gh de below args s) (k14 M x0 x1 x2 x3) 14 [some (.ref (ad x0)), some (.int x1), some (.int x2), some (.int x3)] [] M) : ∀ (M : rv_Mem) (x0 : Nat) (x1 : Int32) (x2 : Int32) (x3 : Int32), rv_M (rC_G D cI cZ cO ad gh de) (rC_K ad gh) p l e rm3_pairLines s m args below meth c 0 0 (rC_qV D cI cZ cO ad gh de below args s) (f3_pairLines_103 gh k14 M x0 x1 x2 x3) 103 [some (.ref (ad x0)), some (.int x1), some (.int x2), some (.int x3)] [] M := by
  intro M x0 x1 x2 x3
  unfold f3_pairLines_103
  refine rv_iinc (q := 106) (lv' := [_, _, _, _]) E.x dX3_pairLines_103 rv_ki1 rfl rfl rfl rfl ?_
  refine rv_goto (q := 14) E.x dX3_pairLines_106 (by decide) ?_
  refine rv_wk [true, true, true, true] ?_
  exact h14 M x0 x1 x2 (x3 + 1)
set_option maxRecDepth 100000 in
theorem b3_pairLines_14_s {p : Program} {l : Launch} {e : Env} {s : State} {m : MethodId} {args : Array Value} {below : List Frame} {meth : Method} {c : Code} {D : va_G} {cI cZ cO : ClassId} {ad : Nat → Nat} {gh : rC_gh} {de : Nat} (E : rC_E D cI cZ cO ad gh (rC_K ad gh) RX3 cX3_pairLines 4 none p s m args meth c)   (k14 : rv_Mem → Nat → Int32 → Int32 → Int32 → Option (rv_Mem)) (h14 : ∀ (M : rv_Mem) (x0 : Nat) (x1 : Int32) (x2 : Int32) (x3 : Int32), rv_M (rC_G D cI cZ cO ad gh de) (rC_K ad gh) p l e rm3_pairLines s m args below meth c 0 0 (rC_qV D cI cZ cO ad gh de below args s) (k14 M x0 x1 x2 x3) 14 [some (.ref (ad x0)), some (.int x1), some (.int x2), some (.int x3)] [] M) : ∀ (M : rv_Mem) (x0 : Nat) (x1 : Int32) (x2 : Int32) (x3 : Int32), rv_M (rC_G D cI cZ cO ad gh de) (rC_K ad gh) p l e rm3_pairLines s m args below meth c 0 0 (rC_qV D cI cZ cO ad gh de below args s) (f3_pairLines_14_s gh k14 M x0 x1 x2 x3) 14 [some (.ref (ad x0)), some (.int x1), some (.int x2), some (.int x3)] [] M := by
  intro M x0 x1 x2 x3
  unfold f3_pairLines_14_s
  refine rv_iload_n (q := 15) E.x dX3_pairLines_14 rfl rfl ?_
  refine rv_bipush (q := 17) E.x dX3_pairLines_15 rv_kb20 rfl ?_
  refine rv_icmp_ge (q := 20) (tgt := 109) E.x dX3_pairLines_17 (by decide) rfl ?_ ?_
  · refine rv_iload_n (q := 21) E.x dX3_pairLines_20 rfl rfl ?_
    refine rv_aload_n (q := 22) E.x dX3_pairLines_21 rfl rfl ?_
    refine rv_g (fun g1 => ?_)
    refine rC_getX3 (q := 25) E x0 8 wfX3_40 rfl (Nat.le_of_ble_eq_true rfl) (rC_at_of g1) rfl dX3_pairLines_22 rfl ?_
    refine rv_icmp_ge (q := 28) (tgt := 109) E.x dX3_pairLines_25 (by decide) rfl ?_ ?_
    · refine rv_iload_n (q := 29) E.x dX3_pairLines_28 rfl rfl ?_
      refine rv_aload_n (q := 30) E.x dX3_pairLines_29 rfl rfl ?_
      refine rC_getX3 (q := 33) E x0 9 wfX3_44 rfl (Nat.le_of_ble_eq_true rfl) (rC_at_of g1) rfl dX3_pairLines_30 rfl ?_
      refine rv_icmp_ge (q := 36) (tgt := 109) E.x dX3_pairLines_33 (by decide) rfl ?_ ?_
      · refine rv_aload_n (q := 37) E.x dX3_pairLines_36 rfl rfl ?_
        refine rC_getX3 (q := 40) E x0 0 wfX3_9 rfl (Nat.le_of_ble_eq_true rfl) (rC_at_of g1) rfl dX3_pairLines_37 rfl ?_
        refine rv_iload_n (q := 41) E.x dX3_pairLines_40 rfl rfl ?_
        refine rC_iald (q := 42) (n := 10) E (rC_arCm g1 18 (by decide)) dX3_pairLines_41 rfl ?_
        refine rv_aload_n (q := 43) E.x dX3_pairLines_42 rfl rfl ?_
        refine rC_getX3 (q := 46) E x0 1 wfX3_15 rfl (Nat.le_of_ble_eq_true rfl) (rC_at_of g1) rfl dX3_pairLines_43 rfl ?_
        refine rv_iload_n (q := 47) E.x dX3_pairLines_46 rfl rfl ?_
        refine rC_iald (q := 48) (n := 10) E (rC_arCm g1 20 (by decide)) dX3_pairLines_47 rfl ?_
        refine rv_icmp_ne (q := 51) (tgt := 67) E.x dX3_pairLines_48 (by decide) rfl ?_ ?_
        · refine rv_aload_n (q := 52) E.x dX3_pairLines_51 rfl rfl ?_
          refine rC_getX3 (q := 55) E x0 3 wfX3_21 rfl (Nat.le_of_ble_eq_true rfl) (rC_at_of g1) rfl dX3_pairLines_52 rfl ?_
          refine rv_iload_n (q := 56) E.x dX3_pairLines_55 rfl rfl ?_
          refine rv_iload_n (q := 57) E.x dX3_pairLines_56 rfl rfl ?_
          refine rC_iast (q := 58) (n := 10) E (rC_arCm g1 24 (by decide)) dX3_pairLines_57 rfl ?_
          refine rv_ltm (fun M2 => ?_)
          refine rv_iinc (q := 61) (lv' := [_, _, _, _]) E.x dX3_pairLines_58 rv_ki1 rfl rfl rfl rfl ?_
          refine rv_iinc (q := 64) (lv' := [_, _, _, _]) E.x dX3_pairLines_61 rv_ki1 rfl rfl rfl rfl ?_
          refine rv_goto (q := 103) E.x dX3_pairLines_64 (by decide) ?_
          refine rv_wk [true, true, true, true] ?_
          exact b3_pairLines_103 E k14 h14 M2 x0 (x1 + 1) (x2 + 1) x3
        · refine rv_aload_n (q := 68) E.x dX3_pairLines_67 rfl rfl ?_
          refine rC_getX3 (q := 71) E x0 2 wfX3_18 rfl (Nat.le_of_ble_eq_true rfl) (rC_at_of g1) rfl dX3_pairLines_68 rfl ?_
          refine rv_iload_n (q := 72) E.x dX3_pairLines_71 rfl rfl ?_
          refine rv_iconst (q := 73) E.x dX3_pairLines_72 rv_ki1 rfl ?_
          refine rv_iadd (q := 74) E.x dX3_pairLines_73 rfl ?_
          refine rv_bipush (q := 76) E.x dX3_pairLines_74 rv_kb11 rfl ?_
          refine rv_imul (q := 77) E.x dX3_pairLines_76 rfl ?_
          refine rv_iload_n (q := 78) E.x dX3_pairLines_77 rfl rfl ?_
          refine rv_iadd (q := 79) E.x dX3_pairLines_78 rfl ?_
          refine rC_iald (q := 80) (n := 121) E (rC_arCm g1 22 (by decide)) dX3_pairLines_79 rfl ?_
          refine rv_aload_n (q := 81) E.x dX3_pairLines_80 rfl rfl ?_
          refine rC_getX3 (q := 84) E x0 2 wfX3_18 rfl (Nat.le_of_ble_eq_true rfl) (rC_at_of g1) rfl dX3_pairLines_81 rfl ?_
          refine rv_iload_n (q := 85) E.x dX3_pairLines_84 rfl rfl ?_
          refine rv_bipush (q := 87) E.x dX3_pairLines_85 rv_kb11 rfl ?_
          refine rv_imul (q := 88) E.x dX3_pairLines_87 rfl ?_
          refine rv_iload_n (q := 89) E.x dX3_pairLines_88 rfl rfl ?_
          refine rv_iadd (q := 90) E.x dX3_pairLines_89 rfl ?_
          refine rC_iald (q := 91) (n := 121) E (rC_arCm g1 22 (by decide)) dX3_pairLines_90 rfl ?_
          refine rv_icmp_ne (q := 94) (tgt := 100) E.x dX3_pairLines_91 (by decide) rfl ?_ ?_
          · refine rv_iinc (q := 97) (lv' := [_, _, _, _]) E.x dX3_pairLines_94 rv_ki1 rfl rfl rfl rfl ?_
            refine rv_goto (q := 103) E.x dX3_pairLines_97 (by decide) ?_
            refine rv_wk [true, true, true, true] ?_
            exact b3_pairLines_103 E k14 h14 M x0 (x1 + 1) x2 x3
          · refine rv_iinc (q := 103) (lv' := [_, _, _, _]) E.x dX3_pairLines_100 rv_ki1 rfl rfl rfl rfl ?_
            refine rv_wk [true, true, true, true] ?_
            exact b3_pairLines_103 E k14 h14 M x0 x1 (x2 + 1) x3
      · exact rC_vret E rfl dX3_pairLines_109
    · exact rC_vret E rfl dX3_pairLines_109
  · exact rC_vret E rfl dX3_pairLines_109
theorem b3_pairLines_14 {p : Program} {l : Launch} {e : Env} {s : State} {m : MethodId} {args : Array Value} {below : List Frame} {meth : Method} {c : Code} {D : va_G} {cI cZ cO : ClassId} {ad : Nat → Nat} {gh : rC_gh} {de : Nat} (E : rC_E D cI cZ cO ad gh (rC_K ad gh) RX3 cX3_pairLines 4 none p s m args meth c)   : ∀ (n : Nat), ∀ (M : rv_Mem) (x0 : Nat) (x1 : Int32) (x2 : Int32) (x3 : Int32), rv_M (rC_G D cI cZ cO ad gh de) (rC_K ad gh) p l e rm3_pairLines s m args below meth c 0 0 (rC_qV D cI cZ cO ad gh de below args s) (f3_pairLines_14 gh n M x0 x1 x2 x3) 14 [some (.ref (ad x0)), some (.int x1), some (.int x2), some (.int x3)] [] M := by
  intro n
  induction n with
  | zero => exact fun _ _ _ _ _ => rv_stuck
  | succ n ih => exact b3_pairLines_14_s E  (f3_pairLines_14 gh n) ih
set_option maxRecDepth 100000 in
theorem b3_pairLines {p : Program} {l : Launch} {e : Env} {s : State} {m : MethodId} {args : Array Value} {below : List Frame} {meth : Method} {c : Code} {D : va_G} {cI cZ cO : ClassId} {ad : Nat → Nat} {gh : rC_gh} {de : Nat} (E : rC_E D cI cZ cO ad gh (rC_K ad gh) RX3 cX3_pairLines 4 none p s m args meth c) (M : rv_Mem) (a0 : Nat) : rv_M (rC_G D cI cZ cO ad gh de) (rC_K ad gh) p l e rm3_pairLines s m args below meth c 0 0 (rC_qV D cI cZ cO ad gh de below args s) (f3_pairLines gh M a0) 0 [some (.ref (ad a0)), none, none, none] [] M := by
  unfold f3_pairLines
  refine rv_aload_n (q := 1) E.x dX3_pairLines_0 rfl rfl ?_
  refine rv_g (fun g1 => ?_)
  refine rC_getX3 (q := 4) E a0 3 wfX3_21 rfl (Nat.le_of_ble_eq_true rfl) (rC_at_of g1) rfl dX3_pairLines_1 rfl ?_
  refine rv_iconst (q := 5) E.x dX3_pairLines_4 rv_kim1 rfl ?_
  refine rv_b1 (fun M3 e2 => ?_)
  refine rC_callsv (q := 8) E (cJ_fill E.2.2.1 e2) gX3_74 hJ7_fill_53178 ⟨rfl, rfl⟩ ⟨Nat.le_of_ble_eq_true rfl, Nat.le_of_ble_eq_true rfl⟩ ⟨Nat.le_of_ble_eq_true rfl, Nat.le_of_ble_eq_true rfl⟩ rfl rfl rfl (Nat.le_of_ble_eq_true rfl) dX3_pairLines_5 rfl ?_
  refine rv_iconst (q := 9) E.x dX3_pairLines_8 rv_ki0 rfl ?_
  refine rv_istore_n (q := 10) (lv' := [_, _, _, _]) E.x dX3_pairLines_9 (Nat.le_of_ble_eq_true rfl) rfl rfl rfl ?_
  refine rv_iconst (q := 11) E.x dX3_pairLines_10 rv_ki0 rfl ?_
  refine rv_istore_n (q := 12) (lv' := [_, _, _, _]) E.x dX3_pairLines_11 (Nat.le_of_ble_eq_true rfl) rfl rfl rfl ?_
  refine rv_iconst (q := 13) E.x dX3_pairLines_12 rv_ki0 rfl ?_
  refine rv_istore_n (q := 14) (lv' := [_, _, _, _]) E.x dX3_pairLines_13 (Nat.le_of_ble_eq_true rfl) rfl rfl rfl ?_
  refine rv_wk [true, true, true, true] ?_
  exact b3_pairLines_14 E rv_FU M3 a0 0 0 0
theorem c3_pairLines {l : Launch} {D : va_G} {cI cZ cO : ClassId} {ad : Nat → Nat} {gh : rC_gh} {de : Nat} (hI : rC_I ad gh) {M : rv_Mem} {a0 : Nat} {M1 : rv_Mem} (h : f3_pairLines gh M a0 = some M1) : Met l yX3_pairLines (rv_ws yX3_pairLines cX3_pairLines 4 none) rm3_pairLines (rC_Pc D cI cZ cO ad gh de [.ref (ad a0)] M) (rC_QV D cI cZ cO ad gh de M1) 0 0 (rC_K ad gh) := rC_met hI rfl (by decide) (Nat.le_of_ble_eq_true rfl) (fun p e s m args below meth c E => ⟨(rC_qV D cI cZ cO ad gh de below args s), rfl, b3_pairLines E M a0⟩) h
abbrev rm3_gatherHunks : Room := { frames := 0, cells := 0, slots := 0, locals := 0 }
set_option maxRecDepth 100000 in
theorem b3_gatherHunks_123 {p : Program} {l : Launch} {e : Env} {s : State} {m : MethodId} {args : Array Value} {below : List Frame} {meth : Method} {c : Code} {D : va_G} {cI cZ cO : ClassId} {ad : Nat → Nat} {gh : rC_gh} {de : Nat} (E : rC_E D cI cZ cO ad gh (rC_K ad gh) RX3 cX3_gatherHunks 5 none p s m args meth c) (k11 : rv_Mem → Nat → Int32 → Int32 → Int32 → Option (rv_Mem)) (h11 : ∀ (M : rv_Mem) (x0 : Nat) (x1 : Int32) (x2 : Int32) (x3 : Int32), rv_M (rC_G D cI cZ cO ad gh de) (rC_K ad gh) p l e rm3_gatherHunks s m args below meth c 0 0 (rC_qV D cI cZ cO ad gh de below args s) (k11 M x0 x1 x2 x3) 11 [some (.ref (ad x0)), some (.int x1), some (.int x2), some (.int x3), none] [] M) : ∀ (M : rv_Mem) (x0 : Nat) (x1 : Int32) (x2 : Int32) (x3 : Int32), rv_M (rC_G D cI cZ cO ad gh de) (rC_K ad gh) p l e rm3_gatherHunks s m args below meth c 0 0 (rC_qV D cI cZ cO ad gh de below args s) (f3_gatherHunks_123 gh k11 M x0 x1 x2 x3) 123 [some (.ref (ad x0)), some (.int x1), some (.int x2), some (.int x3), none] [] M := by
  intro M x0 x1 x2 x3
  unfold f3_gatherHunks_123
  refine rv_iinc (q := 126) (lv' := [_, _, _, _, _]) E.x dX3_gatherHunks_123 rv_ki1 rfl rfl rfl rfl ?_
  refine rv_goto (q := 11) E.x dX3_gatherHunks_126 (by decide) ?_
  refine rv_wk [true, true, true, true, false] ?_
  exact h11 M x0 x1 x2 (x3 + 1)
set_option maxRecDepth 100000 in
theorem b3_gatherHunks_114 {p : Program} {l : Launch} {e : Env} {s : State} {m : MethodId} {args : Array Value} {below : List Frame} {meth : Method} {c : Code} {D : va_G} {cI cZ cO : ClassId} {ad : Nat → Nat} {gh : rC_gh} {de : Nat} (E : rC_E D cI cZ cO ad gh (rC_K ad gh) RX3 cX3_gatherHunks 5 none p s m args meth c) (k11 : rv_Mem → Nat → Int32 → Int32 → Int32 → Option (rv_Mem)) (h11 : ∀ (M : rv_Mem) (x0 : Nat) (x1 : Int32) (x2 : Int32) (x3 : Int32), rv_M (rC_G D cI cZ cO ad gh de) (rC_K ad gh) p l e rm3_gatherHunks s m args below meth c 0 0 (rC_qV D cI cZ cO ad gh de below args s) (k11 M x0 x1 x2 x3) 11 [some (.ref (ad x0)), some (.int x1), some (.int x2), some (.int x3), none] [] M) : ∀ (M : rv_Mem) (x0 : Nat) (x3 : Int32) (x4 : Int32), rv_M (rC_G D cI cZ cO ad gh de) (rC_K ad gh) p l e rm3_gatherHunks s m args below meth c 0 0 (rC_qV D cI cZ cO ad gh de below args s) (f3_gatherHunks_114 gh k11 M x0 x3 x4) 114 [some (.ref (ad x0)), none, none, some (.int x3), some (.int x4)] [] M := by
  intro M x0 x3 x4
  unfold f3_gatherHunks_114
  refine rv_iload_n (q := 115) E.x dX3_gatherHunks_114 rfl rfl ?_
  refine rv_iconst (q := 116) E.x dX3_gatherHunks_115 rv_ki1 rfl ?_
  refine rv_iadd (q := 117) E.x dX3_gatherHunks_116 rfl ?_
  refine rv_istore_n (q := 118) (lv' := [_, _, _, _, _]) E.x dX3_gatherHunks_117 (Nat.le_of_ble_eq_true rfl) rfl rfl rfl ?_
  refine rv_iload (q := 120) E.x dX3_gatherHunks_118 rfl rfl ?_
  refine rv_iconst (q := 121) E.x dX3_gatherHunks_120 rv_ki1 rfl ?_
  refine rv_iadd (q := 122) E.x dX3_gatherHunks_121 rfl ?_
  refine rv_istore_n (q := 123) (lv' := [_, _, _, _, _]) E.x dX3_gatherHunks_122 (Nat.le_of_ble_eq_true rfl) rfl rfl rfl ?_
  refine rv_wk [true, true, true, true, false] ?_
  exact b3_gatherHunks_123 E k11 h11 M x0 (x3 + 1) (x4 + 1) x3
set_option maxRecDepth 100000 in
theorem b3_gatherHunks_59 {p : Program} {l : Launch} {e : Env} {s : State} {m : MethodId} {args : Array Value} {below : List Frame} {meth : Method} {c : Code} {D : va_G} {cI cZ cO : ClassId} {ad : Nat → Nat} {gh : rC_gh} {de : Nat} (E : rC_E D cI cZ cO ad gh (rC_K ad gh) RX3 cX3_gatherHunks 5 none p s m args meth c) (k11 : rv_Mem → Nat → Int32 → Int32 → Int32 → Option (rv_Mem)) (h11 : ∀ (M : rv_Mem) (x0 : Nat) (x1 : Int32) (x2 : Int32) (x3 : Int32), rv_M (rC_G D cI cZ cO ad gh de) (rC_K ad gh) p l e rm3_gatherHunks s m args below meth c 0 0 (rC_qV D cI cZ cO ad gh de below args s) (k11 M x0 x1 x2 x3) 11 [some (.ref (ad x0)), some (.int x1), some (.int x2), some (.int x3), none] [] M) : ∀ (M : rv_Mem) (x0 : Nat) (x1 : Int32) (x2 : Int32) (x3 : Int32) (x4 : Int32), rv_M (rC_G D cI cZ cO ad gh de) (rC_K ad gh) p l e rm3_gatherHunks s m args below meth c 0 0 (rC_qV D cI cZ cO ad gh de below args s) (f3_gatherHunks_59 gh k11 M x0 x1 x2 x3 x4) 59 [some (.ref (ad x0)), some (.int x1), some (.int x2), some (.int x3), some (.int x4)] [] M := by
  intro M x0 x1 x2 x3 x4
  unfold f3_gatherHunks_59
  refine rv_aload_n (q := 60) E.x dX3_gatherHunks_59 rfl rfl ?_
  refine rv_g (fun g1 => ?_)
  refine rC_getX3 (q := 63) E x0 4 wfX3_24 rfl (Nat.le_of_ble_eq_true rfl) (rC_at_of g1) rfl dX3_gatherHunks_60 rfl ?_
  refine rv_aload_n (q := 64) E.x dX3_gatherHunks_63 rfl rfl ?_
  refine rC_getX3 (q := 67) E x0 10 wfX3_80 rfl (Nat.le_of_ble_eq_true rfl) (rC_at_of g1) rfl dX3_gatherHunks_64 rfl ?_
  refine rv_iload_n (q := 68) E.x dX3_gatherHunks_67 rfl rfl ?_
  refine rC_iast (q := 69) (n := 11) E (rC_arCm g1 26 (by decide)) dX3_gatherHunks_68 rfl ?_
  refine rv_ltm (fun M2 => ?_)
  refine rv_aload_n (q := 70) E.x dX3_gatherHunks_69 rfl rfl ?_
  refine rC_getX3 (q := 73) E x0 5 wfX3_27 rfl (Nat.le_of_ble_eq_true rfl) (rC_at_of g1) rfl dX3_gatherHunks_70 rfl ?_
  refine rv_aload_n (q := 74) E.x dX3_gatherHunks_73 rfl rfl ?_
  refine rC_getX3 (q := 77) E x0 10 wfX3_80 rfl (Nat.le_of_ble_eq_true rfl) (rC_at_of g1) rfl dX3_gatherHunks_74 rfl ?_
  refine rv_iload_n (q := 78) E.x dX3_gatherHunks_77 rfl rfl ?_
  refine rv_iload_n (q := 79) E.x dX3_gatherHunks_78 rfl rfl ?_
  refine rv_isub (q := 80) E.x dX3_gatherHunks_79 rfl ?_
  refine rC_iast (q := 81) (n := 11) E (rC_arCm g1 28 (by decide)) dX3_gatherHunks_80 rfl ?_
  refine rv_ltm (fun M3 => ?_)
  refine rv_aload_n (q := 82) E.x dX3_gatherHunks_81 rfl rfl ?_
  refine rC_getX3 (q := 85) E x0 6 wfX3_30 rfl (Nat.le_of_ble_eq_true rfl) (rC_at_of g1) rfl dX3_gatherHunks_82 rfl ?_
  refine rv_aload_n (q := 86) E.x dX3_gatherHunks_85 rfl rfl ?_
  refine rC_getX3 (q := 89) E x0 10 wfX3_80 rfl (Nat.le_of_ble_eq_true rfl) (rC_at_of g1) rfl dX3_gatherHunks_86 rfl ?_
  refine rv_iload_n (q := 90) E.x dX3_gatherHunks_89 rfl rfl ?_
  refine rC_iast (q := 91) (n := 11) E (rC_arCm g1 30 (by decide)) dX3_gatherHunks_90 rfl ?_
  refine rv_ltm (fun M4 => ?_)
  refine rv_aload_n (q := 92) E.x dX3_gatherHunks_91 rfl rfl ?_
  refine rC_getX3 (q := 95) E x0 7 wfX3_33 rfl (Nat.le_of_ble_eq_true rfl) (rC_at_of g1) rfl dX3_gatherHunks_92 rfl ?_
  refine rv_aload_n (q := 96) E.x dX3_gatherHunks_95 rfl rfl ?_
  refine rC_getX3 (q := 99) E x0 10 wfX3_80 rfl (Nat.le_of_ble_eq_true rfl) (rC_at_of g1) rfl dX3_gatherHunks_96 rfl ?_
  refine rv_iload (q := 101) E.x dX3_gatherHunks_99 rfl rfl ?_
  refine rv_iload_n (q := 102) E.x dX3_gatherHunks_101 rfl rfl ?_
  refine rv_isub (q := 103) E.x dX3_gatherHunks_102 rfl ?_
  refine rC_iast (q := 104) (n := 11) E (rC_arCm g1 32 (by decide)) dX3_gatherHunks_103 rfl ?_
  refine rv_ltm (fun M5 => ?_)
  refine rv_aload_n (q := 105) E.x dX3_gatherHunks_104 rfl rfl ?_
  refine rv_dup (q := 106) E.x dX3_gatherHunks_105 rfl rfl ?_
  refine rC_getX3 (q := 109) E x0 10 wfX3_80 rfl (Nat.le_of_ble_eq_true rfl) (rC_at_of g1) rfl dX3_gatherHunks_106 rfl ?_
  refine rv_iconst (q := 110) E.x dX3_gatherHunks_109 rv_ki1 rfl ?_
  refine rv_iadd (q := 111) E.x dX3_gatherHunks_110 rfl ?_
  refine rC_putX3 (q := 114) E x0 10 wfX3_80 rfl (Nat.le_of_ble_eq_true rfl) (rC_at_of g1) rfl ⟨rfl, rfl⟩ dX3_gatherHunks_111 rfl ?_
  refine rv_ltm (fun M6 => ?_)
  refine rv_wk [true, false, false, true, true] ?_
  exact b3_gatherHunks_114 E k11 h11 M6 x0 x3 x4
set_option maxRecDepth 100000 in
theorem b3_gatherHunks_40 {p : Program} {l : Launch} {e : Env} {s : State} {m : MethodId} {args : Array Value} {below : List Frame} {meth : Method} {c : Code} {D : va_G} {cI cZ cO : ClassId} {ad : Nat → Nat} {gh : rC_gh} {de : Nat} (E : rC_E D cI cZ cO ad gh (rC_K ad gh) RX3 cX3_gatherHunks 5 none p s m args meth c) (k11 : rv_Mem → Nat → Int32 → Int32 → Int32 → Option (rv_Mem)) (h11 : ∀ (M : rv_Mem) (x0 : Nat) (x1 : Int32) (x2 : Int32) (x3 : Int32), rv_M (rC_G D cI cZ cO ad gh de) (rC_K ad gh) p l e rm3_gatherHunks s m args below meth c 0 0 (rC_qV D cI cZ cO ad gh de below args s) (k11 M x0 x1 x2 x3) 11 [some (.ref (ad x0)), some (.int x1), some (.int x2), some (.int x3), none] [] M) : ∀ (M : rv_Mem) (x0 : Nat) (x1 : Int32) (x2 : Int32) (x3 : Int32) (s0 : Int32), rv_M (rC_G D cI cZ cO ad gh de) (rC_K ad gh) p l e rm3_gatherHunks s m args below meth c 0 0 (rC_qV D cI cZ cO ad gh de below args s) (f3_gatherHunks_40 gh k11 M x0 x1 x2 x3 s0) 40 [some (.ref (ad x0)), some (.int x1), some (.int x2), some (.int x3), none] [.int s0] M := by
  intro M x0 x1 x2 x3 s0
  unfold f3_gatherHunks_40
  refine rv_istore (q := 42) (lv' := [_, _, _, _, _]) E.x dX3_gatherHunks_40 (Nat.le_of_ble_eq_true rfl) rfl rfl rfl ?_
  refine rv_iload (q := 44) E.x dX3_gatherHunks_42 rfl rfl ?_
  refine rv_iconst (q := 45) E.x dX3_gatherHunks_44 rv_kim1 rfl ?_
  refine rv_icmp_eq (q := 48) (tgt := 123) E.x dX3_gatherHunks_45 (by decide) rfl ?_ ?_
  · refine rv_iload_n (q := 49) E.x dX3_gatherHunks_48 rfl rfl ?_
    refine rv_iload_n (q := 50) E.x dX3_gatherHunks_49 rfl rfl ?_
    refine rv_icmp_gt (q := 53) (tgt := 59) E.x dX3_gatherHunks_50 (by decide) rfl ?_ ?_
    · refine rv_iload (q := 55) E.x dX3_gatherHunks_53 rfl rfl ?_
      refine rv_iload_n (q := 56) E.x dX3_gatherHunks_55 rfl rfl ?_
      refine rv_icmp_le (q := 59) (tgt := 114) E.x dX3_gatherHunks_56 (by decide) rfl ?_ ?_
      · refine rv_wk [true, true, true, true, true] ?_
        exact b3_gatherHunks_59 E k11 h11 M x0 x1 x2 x3 s0
      · refine rv_wk [true, false, false, true, true] ?_
        exact b3_gatherHunks_114 E k11 h11 M x0 x3 s0
    · refine rv_wk [true, true, true, true, true] ?_
      exact b3_gatherHunks_59 E k11 h11 M x0 x1 x2 x3 s0
  · refine rv_wk [true, true, true, true, false] ?_
    exact b3_gatherHunks_123 E k11 h11 M x0 x1 x2 x3
set_option maxRecDepth 100000 in
theorem b3_gatherHunks_11_s {p : Program} {l : Launch} {e : Env} {s : State} {m : MethodId} {args : Array Value} {below : List Frame} {meth : Method} {c : Code} {D : va_G} {cI cZ cO : ClassId} {ad : Nat → Nat} {gh : rC_gh} {de : Nat} (E : rC_E D cI cZ cO ad gh (rC_K ad gh) RX3 cX3_gatherHunks 5 none p s m args meth c)   (k11 : rv_Mem → Nat → Int32 → Int32 → Int32 → Option (rv_Mem)) (h11 : ∀ (M : rv_Mem) (x0 : Nat) (x1 : Int32) (x2 : Int32) (x3 : Int32), rv_M (rC_G D cI cZ cO ad gh de) (rC_K ad gh) p l e rm3_gatherHunks s m args below meth c 0 0 (rC_qV D cI cZ cO ad gh de below args s) (k11 M x0 x1 x2 x3) 11 [some (.ref (ad x0)), some (.int x1), some (.int x2), some (.int x3), none] [] M) : ∀ (M : rv_Mem) (x0 : Nat) (x1 : Int32) (x2 : Int32) (x3 : Int32), rv_M (rC_G D cI cZ cO ad gh de) (rC_K ad gh) p l e rm3_gatherHunks s m args below meth c 0 0 (rC_qV D cI cZ cO ad gh de below args s) (f3_gatherHunks_11_s gh k11 M x0 x1 x2 x3) 11 [some (.ref (ad x0)), some (.int x1), some (.int x2), some (.int x3), none] [] M := by
  intro M x0 x1 x2 x3
  unfold f3_gatherHunks_11_s
  refine rv_iload_n (q := 12) E.x dX3_gatherHunks_11 rfl rfl ?_
  refine rv_aload_n (q := 13) E.x dX3_gatherHunks_12 rfl rfl ?_
  refine rv_g (fun g1 => ?_)
  refine rC_getX3 (q := 16) E x0 8 wfX3_40 rfl (Nat.le_of_ble_eq_true rfl) (rC_at_of g1) rfl dX3_gatherHunks_13 rfl ?_
  refine rv_icmp_gt (q := 19) (tgt := 129) E.x dX3_gatherHunks_16 (by decide) rfl ?_ ?_
  · refine rv_iload_n (q := 20) E.x dX3_gatherHunks_19 rfl rfl ?_
    refine rv_aload_n (q := 21) E.x dX3_gatherHunks_20 rfl rfl ?_
    refine rC_getX3 (q := 24) E x0 8 wfX3_40 rfl (Nat.le_of_ble_eq_true rfl) (rC_at_of g1) rfl dX3_gatherHunks_21 rfl ?_
    refine rv_icmp_ne (q := 27) (tgt := 34) E.x dX3_gatherHunks_24 (by decide) rfl ?_ ?_
    · refine rv_aload_n (q := 28) E.x dX3_gatherHunks_27 rfl rfl ?_
      refine rC_getX3 (q := 31) E x0 9 wfX3_44 rfl (Nat.le_of_ble_eq_true rfl) (rC_at_of g1) rfl dX3_gatherHunks_28 rfl ?_
      refine rv_goto (q := 40) E.x dX3_gatherHunks_31 (by decide) ?_
      refine rv_wk [true, true, true, true, false] ?_
      exact b3_gatherHunks_40 E k11 h11 M x0 x1 x2 x3 (M x0 9)
    · refine rv_aload_n (q := 35) E.x dX3_gatherHunks_34 rfl rfl ?_
      refine rC_getX3 (q := 38) E x0 3 wfX3_21 rfl (Nat.le_of_ble_eq_true rfl) (rC_at_of g1) rfl dX3_gatherHunks_35 rfl ?_
      refine rv_iload_n (q := 39) E.x dX3_gatherHunks_38 rfl rfl ?_
      refine rC_iald (q := 40) (n := 10) E (rC_arCm g1 24 (by decide)) dX3_gatherHunks_39 rfl ?_
      refine rv_wk [true, true, true, true, false] ?_
      exact b3_gatherHunks_40 E k11 h11 M x0 x1 x2 x3 (M (x0 + 24) (x3).toNatClampNeg)
  · exact rC_vret E rfl dX3_gatherHunks_129
theorem b3_gatherHunks_11 {p : Program} {l : Launch} {e : Env} {s : State} {m : MethodId} {args : Array Value} {below : List Frame} {meth : Method} {c : Code} {D : va_G} {cI cZ cO : ClassId} {ad : Nat → Nat} {gh : rC_gh} {de : Nat} (E : rC_E D cI cZ cO ad gh (rC_K ad gh) RX3 cX3_gatherHunks 5 none p s m args meth c)   : ∀ (n : Nat), ∀ (M : rv_Mem) (x0 : Nat) (x1 : Int32) (x2 : Int32) (x3 : Int32), rv_M (rC_G D cI cZ cO ad gh de) (rC_K ad gh) p l e rm3_gatherHunks s m args below meth c 0 0 (rC_qV D cI cZ cO ad gh de below args s) (f3_gatherHunks_11 gh n M x0 x1 x2 x3) 11 [some (.ref (ad x0)), some (.int x1), some (.int x2), some (.int x3), none] [] M := by
  intro n
  induction n with
  | zero => exact fun _ _ _ _ _ => rv_stuck
  | succ n ih => exact b3_gatherHunks_11_s E  (f3_gatherHunks_11 gh n) ih
set_option maxRecDepth 100000 in
theorem b3_gatherHunks {p : Program} {l : Launch} {e : Env} {s : State} {m : MethodId} {args : Array Value} {below : List Frame} {meth : Method} {c : Code} {D : va_G} {cI cZ cO : ClassId} {ad : Nat → Nat} {gh : rC_gh} {de : Nat} (E : rC_E D cI cZ cO ad gh (rC_K ad gh) RX3 cX3_gatherHunks 5 none p s m args meth c) (M : rv_Mem) (a0 : Nat) : rv_M (rC_G D cI cZ cO ad gh de) (rC_K ad gh) p l e rm3_gatherHunks s m args below meth c 0 0 (rC_qV D cI cZ cO ad gh de below args s) (f3_gatherHunks gh M a0) 0 [some (.ref (ad a0)), none, none, none, none] [] M := by
  unfold f3_gatherHunks
  refine rv_aload_n (q := 1) E.x dX3_gatherHunks_0 rfl rfl ?_
  refine rv_iconst (q := 2) E.x dX3_gatherHunks_1 rv_ki0 rfl ?_
  refine rv_g (fun g1 => ?_)
  refine rC_putX3 (q := 5) E a0 10 wfX3_80 rfl (Nat.le_of_ble_eq_true rfl) (rC_at_of g1) rfl ⟨rfl, rfl⟩ dX3_gatherHunks_2 rfl ?_
  refine rv_ltm (fun M2 => ?_)
  refine rv_iconst (q := 6) E.x dX3_gatherHunks_5 rv_ki0 rfl ?_
  refine rv_istore_n (q := 7) (lv' := [_, _, _, _, _]) E.x dX3_gatherHunks_6 (Nat.le_of_ble_eq_true rfl) rfl rfl rfl ?_
  refine rv_iconst (q := 8) E.x dX3_gatherHunks_7 rv_ki0 rfl ?_
  refine rv_istore_n (q := 9) (lv' := [_, _, _, _, _]) E.x dX3_gatherHunks_8 (Nat.le_of_ble_eq_true rfl) rfl rfl rfl ?_
  refine rv_iconst (q := 10) E.x dX3_gatherHunks_9 rv_ki0 rfl ?_
  refine rv_istore_n (q := 11) (lv' := [_, _, _, _, _]) E.x dX3_gatherHunks_10 (Nat.le_of_ble_eq_true rfl) rfl rfl rfl ?_
  refine rv_wk [true, true, true, true, false] ?_
  exact b3_gatherHunks_11 E rv_FU M2 a0 0 0 0
theorem c3_gatherHunks {l : Launch} {D : va_G} {cI cZ cO : ClassId} {ad : Nat → Nat} {gh : rC_gh} {de : Nat} (hI : rC_I ad gh) {M : rv_Mem} {a0 : Nat} {M1 : rv_Mem} (h : f3_gatherHunks gh M a0 = some M1) : Met l yX3_gatherHunks (rv_ws yX3_gatherHunks cX3_gatherHunks 5 none) rm3_gatherHunks (rC_Pc D cI cZ cO ad gh de [.ref (ad a0)] M) (rC_QV D cI cZ cO ad gh de M1) 0 0 (rC_K ad gh) := rC_met hI rfl (by decide) (Nat.le_of_ble_eq_true rfl) (fun p e s m args below meth c E => ⟨(rC_qV D cI cZ cO ad gh de below args s), rfl, b3_gatherHunks E M a0⟩) h
abbrev rm3_compare : Room := { frames := 2, cells := 0, slots := 0, locals := 57 }
set_option maxRecDepth 100000 in
theorem b3_compare {p : Program} {l : Launch} {e : Env} {s : State} {m : MethodId} {args : Array Value} {below : List Frame} {meth : Method} {c : Code} {D : va_G} {cI cZ cO : ClassId} {ad : Nat → Nat} {gh : rC_gh} {de : Nat} (E : rC_E D cI cZ cO ad gh (rC_K ad gh) RX3 cX3_compare 6 none p s m args meth c) (M : rv_Mem) (a0 : Nat) (a2 : Int32) (a3 : Int32) (a4 : Int32) (a5 : Bool) : rv_M (rC_G D cI cZ cO ad gh de) (rC_K ad gh) p l e rm3_compare s m args below meth c 0 0 (rC_qV D cI cZ cO ad gh de below args s) (f3_compare gh M a0 a2 a3 a4 a5) 0 [some (.ref (ad a0)), some (.ref (ad 1)), some (.int a2), some (.int a3), some (.int a4), some (.int (rv_i a5))] [] M := by
  unfold f3_compare
  refine rv_aload_n (q := 1) E.x dX3_compare_0 rfl rfl ?_
  refine rv_aload_n (q := 2) E.x dX3_compare_1 rfl rfl ?_
  refine rv_iload_n (q := 3) E.x dX3_compare_2 rfl rfl ?_
  refine rv_iload (q := 5) E.x dX3_compare_3 rfl rfl ?_
  refine rv_iload (q := 7) E.x dX3_compare_5 rfl rfl ?_
  refine rv_aload_n (q := 8) E.x dX3_compare_7 rfl rfl ?_
  refine rv_g (fun g1 => ?_)
  refine rC_getX3 (q := 11) E a0 0 wfX3_9 rfl (Nat.le_of_ble_eq_true rfl) (rC_at_of g1) rfl dX3_compare_8 rfl ?_
  refine rv_b2 (fun r3 M4 e2 => ?_)
  refine rC_callsi (q := 14) E (c3_readLines E.2.2.1 e2) gX3_36 hX3_readLines ⟨rfl, rfl⟩ ⟨Nat.le_of_ble_eq_true rfl, Nat.le_of_ble_eq_true rfl⟩ ⟨Nat.le_of_ble_eq_true rfl, Nat.le_of_ble_eq_true rfl⟩ rfl rfl rfl (Nat.le_of_ble_eq_true rfl) dX3_compare_11 rfl ?_
  refine rC_putX3 (q := 17) E a0 8 wfX3_40 rfl (Nat.le_of_ble_eq_true rfl) (rC_at_of g1) rfl ⟨rfl, rfl⟩ dX3_compare_14 rfl ?_
  refine rv_ltm (fun M5 => ?_)
  refine rv_aload_n (q := 18) E.x dX3_compare_17 rfl rfl ?_
  refine rv_aload_n (q := 19) E.x dX3_compare_18 rfl rfl ?_
  refine rv_iload_n (q := 20) E.x dX3_compare_19 rfl rfl ?_
  refine rv_iload (q := 22) E.x dX3_compare_20 rfl rfl ?_
  refine rv_iload (q := 24) E.x dX3_compare_22 rfl rfl ?_
  refine rv_aload_n (q := 25) E.x dX3_compare_24 rfl rfl ?_
  refine rC_getX3 (q := 28) E a0 1 wfX3_15 rfl (Nat.le_of_ble_eq_true rfl) (rC_at_of g1) rfl dX3_compare_25 rfl ?_
  refine rv_b2 (fun r7 M8 e6 => ?_)
  refine rC_callsi (q := 31) E (c3_readLines E.2.2.1 e6) gX3_36 hX3_readLines ⟨rfl, rfl⟩ ⟨Nat.le_of_ble_eq_true rfl, Nat.le_of_ble_eq_true rfl⟩ ⟨Nat.le_of_ble_eq_true rfl, Nat.le_of_ble_eq_true rfl⟩ rfl rfl rfl (Nat.le_of_ble_eq_true rfl) dX3_compare_28 rfl ?_
  refine rC_putX3 (q := 34) E a0 9 wfX3_44 rfl (Nat.le_of_ble_eq_true rfl) (rC_at_of g1) rfl ⟨rfl, rfl⟩ dX3_compare_31 rfl ?_
  refine rv_ltm (fun M9 => ?_)
  refine rv_aload_n (q := 35) E.x dX3_compare_34 rfl rfl ?_
  refine rv_b1 (fun M11 e10 => ?_)
  refine rC_callvX3 (q := 38) E (rC_at_of g1) (c3_countPairs E.2.2.1 e10) gX3_47 hX3_countPairs ⟨rfl, rfl⟩ ⟨Nat.le_of_ble_eq_true rfl, Nat.le_of_ble_eq_true rfl⟩ ⟨Nat.le_of_ble_eq_true rfl, Nat.le_of_ble_eq_true rfl⟩ rfl rfl rfl (Nat.le_of_ble_eq_true rfl) dX3_compare_35 rfl ?_
  refine rv_aload_n (q := 39) E.x dX3_compare_38 rfl rfl ?_
  refine rv_b1 (fun M13 e12 => ?_)
  refine rC_callvX3 (q := 42) E (rC_at_of g1) (c3_pairLines E.2.2.1 e12) gX3_50 hX3_pairLines ⟨rfl, rfl⟩ ⟨Nat.le_of_ble_eq_true rfl, Nat.le_of_ble_eq_true rfl⟩ ⟨Nat.le_of_ble_eq_true rfl, Nat.le_of_ble_eq_true rfl⟩ rfl rfl rfl (Nat.le_of_ble_eq_true rfl) dX3_compare_39 rfl ?_
  refine rv_aload_n (q := 43) E.x dX3_compare_42 rfl rfl ?_
  refine rv_b1 (fun M15 e14 => ?_)
  refine rC_callvX3 (q := 46) E (rC_at_of g1) (c3_gatherHunks E.2.2.1 e14) gX3_53 hX3_gatherHunks ⟨rfl, rfl⟩ ⟨Nat.le_of_ble_eq_true rfl, Nat.le_of_ble_eq_true rfl⟩ ⟨Nat.le_of_ble_eq_true rfl, Nat.le_of_ble_eq_true rfl⟩ rfl rfl rfl (Nat.le_of_ble_eq_true rfl) dX3_compare_43 rfl ?_
  exact rC_vret E rfl dX3_compare_46
theorem c3_compare {l : Launch} {D : va_G} {cI cZ cO : ClassId} {ad : Nat → Nat} {gh : rC_gh} {de : Nat} (hI : rC_I ad gh) {M : rv_Mem} {a0 : Nat} {a2 : Int32} {a3 : Int32} {a4 : Int32} {a5 : Bool} {M1 : rv_Mem} (h : f3_compare gh M a0 a2 a3 a4 a5 = some M1) : Met l yX3_compare (rv_ws yX3_compare cX3_compare 6 none) rm3_compare (rC_Pc D cI cZ cO ad gh de [.ref (ad a0), .ref (ad 1), .int a2, .int a3, .int a4, .int (rv_i a5)] M) (rC_QV D cI cZ cO ad gh de M1) 0 0 (rC_K ad gh) := rC_met hI rfl (by decide) (Nat.le_of_ble_eq_true rfl) (fun p e s m args below meth c E => ⟨(rC_qV D cI cZ cO ad gh de below args s), rfl, b3_compare E M a0 a2 a3 a4 a5⟩) h
abbrev rm3_isAlike : Room := { frames := 0, cells := 0, slots := 0, locals := 0 }
set_option maxRecDepth 100000 in
theorem b3_isAlike_92 {p : Program} {l : Launch} {e : Env} {s : State} {m : MethodId} {args : Array Value} {below : List Frame} {meth : Method} {c : Code} {D : va_G} {cI cZ cO : ClassId} {ad : Nat → Nat} {gh : rC_gh} {de : Nat} (E : rC_E D cI cZ cO ad gh (rC_K ad gh) RX3 cX3_isAlike 6 (some .boolean) p s m args meth c) (M : rv_Mem) (k40 : Nat → Int32 → Nat → Int32 → Bool → Int32 → Option (Bool)) (h40 : ∀ (x0 : Nat) (x1 : Int32) (x2 : Nat) (x3 : Int32) (x4 : Bool) (x5 : Int32), rv_M (rC_G D cI cZ cO ad gh de) (rC_K ad gh) p l e rm3_isAlike s m args below meth c 0 0 (rC_qZ D cI cZ cO ad gh de below args s M) (k40 x0 x1 x2 x3 x4 x5) 40 [some (.ref (ad x0)), some (.int x1), some (.ref (ad x2)), some (.int x3), some (.int (rv_i x4)), some (.int x5)] [] M) : ∀ (x0 : Nat) (x1 : Int32) (x2 : Nat) (x3 : Int32) (x5 : Int32) (s0 : Bool), rv_M (rC_G D cI cZ cO ad gh de) (rC_K ad gh) p l e rm3_isAlike s m args below meth c 0 0 (rC_qZ D cI cZ cO ad gh de below args s M) (f3_isAlike_92 gh M k40 x0 x1 x2 x3 x5 s0) 92 [some (.ref (ad x0)), some (.int x1), some (.ref (ad x2)), some (.int x3), none, some (.int x5)] [.int (rv_i s0)] M := by
  intro x0 x1 x2 x3 x5 s0
  unfold f3_isAlike_92
  refine rv_istore (q := 94) (lv' := [_, _, _, _, _, _]) E.x dX3_isAlike_92 (Nat.le_of_ble_eq_true rfl) rfl rfl rfl ?_
  refine rv_iinc (q := 97) (lv' := [_, _, _, _, _, _]) E.x dX3_isAlike_94 rv_ki1 rfl rfl rfl rfl ?_
  refine rv_goto (q := 40) E.x dX3_isAlike_97 (by decide) ?_
  refine rv_wk [true, true, true, true, true, true] ?_
  exact h40 x0 x1 x2 x3 s0 (x5 + 1)
set_option maxRecDepth 100000 in
theorem b3_isAlike_155 {p : Program} {l : Launch} {e : Env} {s : State} {m : MethodId} {args : Array Value} {below : List Frame} {meth : Method} {c : Code} {D : va_G} {cI cZ cO : ClassId} {ad : Nat → Nat} {gh : rC_gh} {de : Nat} (E : rC_E D cI cZ cO ad gh (rC_K ad gh) RX3 cX3_isAlike 6 (some .boolean) p s m args meth c) (M : rv_Mem) (k103 : Nat → Int32 → Nat → Int32 → Bool → Int32 → Option (Bool)) (h103 : ∀ (x0 : Nat) (x1 : Int32) (x2 : Nat) (x3 : Int32) (x4 : Bool) (x5 : Int32), rv_M (rC_G D cI cZ cO ad gh de) (rC_K ad gh) p l e rm3_isAlike s m args below meth c 0 0 (rC_qZ D cI cZ cO ad gh de below args s M) (k103 x0 x1 x2 x3 x4 x5) 103 [some (.ref (ad x0)), some (.int x1), some (.ref (ad x2)), some (.int x3), some (.int (rv_i x4)), some (.int x5)] [] M) : ∀ (x0 : Nat) (x1 : Int32) (x2 : Nat) (x3 : Int32) (x5 : Int32) (s0 : Bool), rv_M (rC_G D cI cZ cO ad gh de) (rC_K ad gh) p l e rm3_isAlike s m args below meth c 0 0 (rC_qZ D cI cZ cO ad gh de below args s M) (f3_isAlike_155 gh M k103 x0 x1 x2 x3 x5 s0) 155 [some (.ref (ad x0)), some (.int x1), some (.ref (ad x2)), some (.int x3), none, some (.int x5)] [.int (rv_i s0)] M := by
  intro x0 x1 x2 x3 x5 s0
  unfold f3_isAlike_155
  refine rv_istore (q := 157) (lv' := [_, _, _, _, _, _]) E.x dX3_isAlike_155 (Nat.le_of_ble_eq_true rfl) rfl rfl rfl ?_
  refine rv_iinc (q := 160) (lv' := [_, _, _, _, _, _]) E.x dX3_isAlike_157 rv_ki1 rfl rfl rfl rfl ?_
  refine rv_goto (q := 103) E.x dX3_isAlike_160 (by decide) ?_
  refine rv_wk [true, true, true, true, true, true] ?_
  exact h103 x0 x1 x2 x3 s0 (x5 + 1)
set_option maxRecDepth 100000 in
theorem b3_isAlike_103_s {p : Program} {l : Launch} {e : Env} {s : State} {m : MethodId} {args : Array Value} {below : List Frame} {meth : Method} {c : Code} {D : va_G} {cI cZ cO : ClassId} {ad : Nat → Nat} {gh : rC_gh} {de : Nat} (E : rC_E D cI cZ cO ad gh (rC_K ad gh) RX3 cX3_isAlike 6 (some .boolean) p s m args meth c) (M : rv_Mem)   (k103 : Nat → Int32 → Nat → Int32 → Bool → Int32 → Option (Bool)) (h103 : ∀ (x0 : Nat) (x1 : Int32) (x2 : Nat) (x3 : Int32) (x4 : Bool) (x5 : Int32), rv_M (rC_G D cI cZ cO ad gh de) (rC_K ad gh) p l e rm3_isAlike s m args below meth c 0 0 (rC_qZ D cI cZ cO ad gh de below args s M) (k103 x0 x1 x2 x3 x4 x5) 103 [some (.ref (ad x0)), some (.int x1), some (.ref (ad x2)), some (.int x3), some (.int (rv_i x4)), some (.int x5)] [] M) : ∀ (x0 : Nat) (x1 : Int32) (x2 : Nat) (x3 : Int32) (x4 : Bool) (x5 : Int32), rv_M (rC_G D cI cZ cO ad gh de) (rC_K ad gh) p l e rm3_isAlike s m args below meth c 0 0 (rC_qZ D cI cZ cO ad gh de below args s M) (f3_isAlike_103_s gh M k103 x0 x1 x2 x3 x4 x5) 103 [some (.ref (ad x0)), some (.int x1), some (.ref (ad x2)), some (.int x3), some (.int (rv_i x4)), some (.int x5)] [] M := by
  intro x0 x1 x2 x3 x4 x5
  unfold f3_isAlike_103_s
  refine rv_iload (q := 105) E.x dX3_isAlike_103 rfl rfl ?_
  refine rv_aload_n (q := 106) E.x dX3_isAlike_105 rfl rfl ?_
  refine rv_g (fun g1 => ?_)
  refine rC_getX3 (q := 109) E x0 7 wfX3_33 rfl (Nat.le_of_ble_eq_true rfl) (rC_at_of g1) rfl dX3_isAlike_106 rfl ?_
  refine rv_iload_n (q := 110) E.x dX3_isAlike_109 rfl rfl ?_
  refine rC_iald (q := 111) (n := 11) E (rC_arCm g1 32 (by decide)) dX3_isAlike_110 rfl ?_
  refine rv_icmp_ge (q := 114) (tgt := 163) E.x dX3_isAlike_111 (by decide) rfl ?_ ?_
  · refine rv_iload (q := 116) E.x dX3_isAlike_114 rfl rfl ?_
    refine rv_ifz_eq (q := 119) (tgt := 163) E.x dX3_isAlike_116 (by decide) rfl ?_ ?_
    · refine rv_aload_n (q := 120) E.x dX3_isAlike_119 rfl rfl ?_
      refine rC_getX3 (q := 123) E x0 1 wfX3_15 rfl (Nat.le_of_ble_eq_true rfl) (rC_at_of g1) rfl dX3_isAlike_120 rfl ?_
      refine rv_aload_n (q := 124) E.x dX3_isAlike_123 rfl rfl ?_
      refine rC_getX3 (q := 127) E x0 6 wfX3_30 rfl (Nat.le_of_ble_eq_true rfl) (rC_at_of g1) rfl dX3_isAlike_124 rfl ?_
      refine rv_iload_n (q := 128) E.x dX3_isAlike_127 rfl rfl ?_
      refine rC_iald (q := 129) (n := 11) E (rC_arCm g1 30 (by decide)) dX3_isAlike_128 rfl ?_
      refine rv_iload (q := 131) E.x dX3_isAlike_129 rfl rfl ?_
      refine rv_iadd (q := 132) E.x dX3_isAlike_131 rfl ?_
      refine rC_iald (q := 133) (n := 10) E (rC_arCm g1 20 (by decide)) dX3_isAlike_132 rfl ?_
      refine rv_aload_n (q := 134) E.x dX3_isAlike_133 rfl rfl ?_
      refine rv_g (fun g2 => ?_)
      refine rC_getX3 (q := 137) E x2 1 wfX3_15 rfl (Nat.le_of_ble_eq_true rfl) (rC_at_of g2) rfl dX3_isAlike_134 rfl ?_
      refine rv_aload_n (q := 138) E.x dX3_isAlike_137 rfl rfl ?_
      refine rC_getX3 (q := 141) E x2 6 wfX3_30 rfl (Nat.le_of_ble_eq_true rfl) (rC_at_of g2) rfl dX3_isAlike_138 rfl ?_
      refine rv_iload_n (q := 142) E.x dX3_isAlike_141 rfl rfl ?_
      refine rC_iald (q := 143) (n := 11) E (rC_arCm g2 30 (by decide)) dX3_isAlike_142 rfl ?_
      refine rv_iload (q := 145) E.x dX3_isAlike_143 rfl rfl ?_
      refine rv_iadd (q := 146) E.x dX3_isAlike_145 rfl ?_
      refine rC_iald (q := 147) (n := 10) E (rC_arCm g2 20 (by decide)) dX3_isAlike_146 rfl ?_
      refine rv_icmp_ne (q := 150) (tgt := 154) E.x dX3_isAlike_147 (by decide) rfl ?_ ?_
      · refine rv_iconst (q := 151) E.x dX3_isAlike_150 rv_ki1 rfl ?_
        refine rv_goto (q := 155) E.x dX3_isAlike_151 (by decide) ?_
        refine rv_wk [true, true, true, true, false, true] ?_
        exact b3_isAlike_155 E M k103 h103 x0 x1 x2 x3 x5 true
      · refine rv_iconst (q := 155) E.x dX3_isAlike_154 rv_ki0 rfl ?_
        refine rv_wk [true, true, true, true, false, true] ?_
        exact b3_isAlike_155 E M k103 h103 x0 x1 x2 x3 x5 false
    · refine rv_iload (q := 165) E.x dX3_isAlike_163 rfl rfl ?_
      exact rC_zret E x4 rfl dX3_isAlike_165
  · refine rv_iload (q := 165) E.x dX3_isAlike_163 rfl rfl ?_
    exact rC_zret E x4 rfl dX3_isAlike_165
theorem b3_isAlike_103 {p : Program} {l : Launch} {e : Env} {s : State} {m : MethodId} {args : Array Value} {below : List Frame} {meth : Method} {c : Code} {D : va_G} {cI cZ cO : ClassId} {ad : Nat → Nat} {gh : rC_gh} {de : Nat} (E : rC_E D cI cZ cO ad gh (rC_K ad gh) RX3 cX3_isAlike 6 (some .boolean) p s m args meth c) (M : rv_Mem)   : ∀ (n : Nat), ∀ (x0 : Nat) (x1 : Int32) (x2 : Nat) (x3 : Int32) (x4 : Bool) (x5 : Int32), rv_M (rC_G D cI cZ cO ad gh de) (rC_K ad gh) p l e rm3_isAlike s m args below meth c 0 0 (rC_qZ D cI cZ cO ad gh de below args s M) (f3_isAlike_103 gh M n x0 x1 x2 x3 x4 x5) 103 [some (.ref (ad x0)), some (.int x1), some (.ref (ad x2)), some (.int x3), some (.int (rv_i x4)), some (.int x5)] [] M := by
  intro n
  induction n with
  | zero => exact fun _ _ _ _ _ _ => rv_stuck
  | succ n ih => exact b3_isAlike_103_s E M (f3_isAlike_103 gh M n) ih
set_option maxRecDepth 100000 in
theorem b3_isAlike_100 {p : Program} {l : Launch} {e : Env} {s : State} {m : MethodId} {args : Array Value} {below : List Frame} {meth : Method} {c : Code} {D : va_G} {cI cZ cO : ClassId} {ad : Nat → Nat} {gh : rC_gh} {de : Nat} (E : rC_E D cI cZ cO ad gh (rC_K ad gh) RX3 cX3_isAlike 6 (some .boolean) p s m args meth c) (M : rv_Mem)   : ∀ (x0 : Nat) (x1 : Int32) (x2 : Nat) (x3 : Int32) (x4 : Bool), rv_M (rC_G D cI cZ cO ad gh de) (rC_K ad gh) p l e rm3_isAlike s m args below meth c 0 0 (rC_qZ D cI cZ cO ad gh de below args s M) (f3_isAlike_100 gh M x0 x1 x2 x3 x4) 100 [some (.ref (ad x0)), some (.int x1), some (.ref (ad x2)), some (.int x3), some (.int (rv_i x4)), none] [] M := by
  intro x0 x1 x2 x3 x4
  unfold f3_isAlike_100
  refine rv_iconst (q := 101) E.x dX3_isAlike_100 rv_ki0 rfl ?_
  refine rv_istore (q := 103) (lv' := [_, _, _, _, _, _]) E.x dX3_isAlike_101 (Nat.le_of_ble_eq_true rfl) rfl rfl rfl ?_
  refine rv_wk [true, true, true, true, true, true] ?_
  exact b3_isAlike_103 E M rv_FU x0 x1 x2 x3 x4 0
set_option maxRecDepth 100000 in
theorem b3_isAlike_40_s {p : Program} {l : Launch} {e : Env} {s : State} {m : MethodId} {args : Array Value} {below : List Frame} {meth : Method} {c : Code} {D : va_G} {cI cZ cO : ClassId} {ad : Nat → Nat} {gh : rC_gh} {de : Nat} (E : rC_E D cI cZ cO ad gh (rC_K ad gh) RX3 cX3_isAlike 6 (some .boolean) p s m args meth c) (M : rv_Mem)   (k40 : Nat → Int32 → Nat → Int32 → Bool → Int32 → Option (Bool)) (h40 : ∀ (x0 : Nat) (x1 : Int32) (x2 : Nat) (x3 : Int32) (x4 : Bool) (x5 : Int32), rv_M (rC_G D cI cZ cO ad gh de) (rC_K ad gh) p l e rm3_isAlike s m args below meth c 0 0 (rC_qZ D cI cZ cO ad gh de below args s M) (k40 x0 x1 x2 x3 x4 x5) 40 [some (.ref (ad x0)), some (.int x1), some (.ref (ad x2)), some (.int x3), some (.int (rv_i x4)), some (.int x5)] [] M) : ∀ (x0 : Nat) (x1 : Int32) (x2 : Nat) (x3 : Int32) (x4 : Bool) (x5 : Int32), rv_M (rC_G D cI cZ cO ad gh de) (rC_K ad gh) p l e rm3_isAlike s m args below meth c 0 0 (rC_qZ D cI cZ cO ad gh de below args s M) (f3_isAlike_40_s gh M k40 x0 x1 x2 x3 x4 x5) 40 [some (.ref (ad x0)), some (.int x1), some (.ref (ad x2)), some (.int x3), some (.int (rv_i x4)), some (.int x5)] [] M := by
  intro x0 x1 x2 x3 x4 x5
  unfold f3_isAlike_40_s
  refine rv_iload (q := 42) E.x dX3_isAlike_40 rfl rfl ?_
  refine rv_aload_n (q := 43) E.x dX3_isAlike_42 rfl rfl ?_
  refine rv_g (fun g1 => ?_)
  refine rC_getX3 (q := 46) E x0 5 wfX3_27 rfl (Nat.le_of_ble_eq_true rfl) (rC_at_of g1) rfl dX3_isAlike_43 rfl ?_
  refine rv_iload_n (q := 47) E.x dX3_isAlike_46 rfl rfl ?_
  refine rC_iald (q := 48) (n := 11) E (rC_arCm g1 28 (by decide)) dX3_isAlike_47 rfl ?_
  refine rv_icmp_ge (q := 51) (tgt := 100) E.x dX3_isAlike_48 (by decide) rfl ?_ ?_
  · refine rv_iload (q := 53) E.x dX3_isAlike_51 rfl rfl ?_
    refine rv_ifz_eq (q := 56) (tgt := 100) E.x dX3_isAlike_53 (by decide) rfl ?_ ?_
    · refine rv_aload_n (q := 57) E.x dX3_isAlike_56 rfl rfl ?_
      refine rC_getX3 (q := 60) E x0 0 wfX3_9 rfl (Nat.le_of_ble_eq_true rfl) (rC_at_of g1) rfl dX3_isAlike_57 rfl ?_
      refine rv_aload_n (q := 61) E.x dX3_isAlike_60 rfl rfl ?_
      refine rC_getX3 (q := 64) E x0 4 wfX3_24 rfl (Nat.le_of_ble_eq_true rfl) (rC_at_of g1) rfl dX3_isAlike_61 rfl ?_
      refine rv_iload_n (q := 65) E.x dX3_isAlike_64 rfl rfl ?_
      refine rC_iald (q := 66) (n := 11) E (rC_arCm g1 26 (by decide)) dX3_isAlike_65 rfl ?_
      refine rv_iload (q := 68) E.x dX3_isAlike_66 rfl rfl ?_
      refine rv_iadd (q := 69) E.x dX3_isAlike_68 rfl ?_
      refine rC_iald (q := 70) (n := 10) E (rC_arCm g1 18 (by decide)) dX3_isAlike_69 rfl ?_
      refine rv_aload_n (q := 71) E.x dX3_isAlike_70 rfl rfl ?_
      refine rv_g (fun g2 => ?_)
      refine rC_getX3 (q := 74) E x2 0 wfX3_9 rfl (Nat.le_of_ble_eq_true rfl) (rC_at_of g2) rfl dX3_isAlike_71 rfl ?_
      refine rv_aload_n (q := 75) E.x dX3_isAlike_74 rfl rfl ?_
      refine rC_getX3 (q := 78) E x2 4 wfX3_24 rfl (Nat.le_of_ble_eq_true rfl) (rC_at_of g2) rfl dX3_isAlike_75 rfl ?_
      refine rv_iload_n (q := 79) E.x dX3_isAlike_78 rfl rfl ?_
      refine rC_iald (q := 80) (n := 11) E (rC_arCm g2 26 (by decide)) dX3_isAlike_79 rfl ?_
      refine rv_iload (q := 82) E.x dX3_isAlike_80 rfl rfl ?_
      refine rv_iadd (q := 83) E.x dX3_isAlike_82 rfl ?_
      refine rC_iald (q := 84) (n := 10) E (rC_arCm g2 18 (by decide)) dX3_isAlike_83 rfl ?_
      refine rv_icmp_ne (q := 87) (tgt := 91) E.x dX3_isAlike_84 (by decide) rfl ?_ ?_
      · refine rv_iconst (q := 88) E.x dX3_isAlike_87 rv_ki1 rfl ?_
        refine rv_goto (q := 92) E.x dX3_isAlike_88 (by decide) ?_
        refine rv_wk [true, true, true, true, false, true] ?_
        exact b3_isAlike_92 E M k40 h40 x0 x1 x2 x3 x5 true
      · refine rv_iconst (q := 92) E.x dX3_isAlike_91 rv_ki0 rfl ?_
        refine rv_wk [true, true, true, true, false, true] ?_
        exact b3_isAlike_92 E M k40 h40 x0 x1 x2 x3 x5 false
    · refine rv_wk [true, true, true, true, true, false] ?_
      exact b3_isAlike_100 E M x0 x1 x2 x3 x4
  · refine rv_wk [true, true, true, true, true, false] ?_
    exact b3_isAlike_100 E M x0 x1 x2 x3 x4
theorem b3_isAlike_40 {p : Program} {l : Launch} {e : Env} {s : State} {m : MethodId} {args : Array Value} {below : List Frame} {meth : Method} {c : Code} {D : va_G} {cI cZ cO : ClassId} {ad : Nat → Nat} {gh : rC_gh} {de : Nat} (E : rC_E D cI cZ cO ad gh (rC_K ad gh) RX3 cX3_isAlike 6 (some .boolean) p s m args meth c) (M : rv_Mem)   : ∀ (n : Nat), ∀ (x0 : Nat) (x1 : Int32) (x2 : Nat) (x3 : Int32) (x4 : Bool) (x5 : Int32), rv_M (rC_G D cI cZ cO ad gh de) (rC_K ad gh) p l e rm3_isAlike s m args below meth c 0 0 (rC_qZ D cI cZ cO ad gh de below args s M) (f3_isAlike_40 gh M n x0 x1 x2 x3 x4 x5) 40 [some (.ref (ad x0)), some (.int x1), some (.ref (ad x2)), some (.int x3), some (.int (rv_i x4)), some (.int x5)] [] M := by
  intro n
  induction n with
  | zero => exact fun _ _ _ _ _ _ => rv_stuck
  | succ n ih => exact b3_isAlike_40_s E M (f3_isAlike_40 gh M n) ih
set_option maxRecDepth 100000 in
theorem b3_isAlike_35 {p : Program} {l : Launch} {e : Env} {s : State} {m : MethodId} {args : Array Value} {below : List Frame} {meth : Method} {c : Code} {D : va_G} {cI cZ cO : ClassId} {ad : Nat → Nat} {gh : rC_gh} {de : Nat} (E : rC_E D cI cZ cO ad gh (rC_K ad gh) RX3 cX3_isAlike 6 (some .boolean) p s m args meth c) (M : rv_Mem)   : ∀ (x0 : Nat) (x1 : Int32) (x2 : Nat) (x3 : Int32) (s0 : Bool), rv_M (rC_G D cI cZ cO ad gh de) (rC_K ad gh) p l e rm3_isAlike s m args below meth c 0 0 (rC_qZ D cI cZ cO ad gh de below args s M) (f3_isAlike_35 gh M x0 x1 x2 x3 s0) 35 [some (.ref (ad x0)), some (.int x1), some (.ref (ad x2)), some (.int x3), none, none] [.int (rv_i s0)] M := by
  intro x0 x1 x2 x3 s0
  unfold f3_isAlike_35
  refine rv_istore (q := 37) (lv' := [_, _, _, _, _, _]) E.x dX3_isAlike_35 (Nat.le_of_ble_eq_true rfl) rfl rfl rfl ?_
  refine rv_iconst (q := 38) E.x dX3_isAlike_37 rv_ki0 rfl ?_
  refine rv_istore (q := 40) (lv' := [_, _, _, _, _, _]) E.x dX3_isAlike_38 (Nat.le_of_ble_eq_true rfl) rfl rfl rfl ?_
  refine rv_wk [true, true, true, true, true, true] ?_
  exact b3_isAlike_40 E M rv_FU x0 x1 x2 x3 s0 0
set_option maxRecDepth 100000 in
theorem b3_isAlike_34 {p : Program} {l : Launch} {e : Env} {s : State} {m : MethodId} {args : Array Value} {below : List Frame} {meth : Method} {c : Code} {D : va_G} {cI cZ cO : ClassId} {ad : Nat → Nat} {gh : rC_gh} {de : Nat} (E : rC_E D cI cZ cO ad gh (rC_K ad gh) RX3 cX3_isAlike 6 (some .boolean) p s m args meth c) (M : rv_Mem)   : ∀ (x0 : Nat) (x1 : Int32) (x2 : Nat) (x3 : Int32), rv_M (rC_G D cI cZ cO ad gh de) (rC_K ad gh) p l e rm3_isAlike s m args below meth c 0 0 (rC_qZ D cI cZ cO ad gh de below args s M) (f3_isAlike_34 gh M x0 x1 x2 x3) 34 [some (.ref (ad x0)), some (.int x1), some (.ref (ad x2)), some (.int x3), none, none] [] M := by
  intro x0 x1 x2 x3
  unfold f3_isAlike_34
  refine rv_iconst (q := 35) E.x dX3_isAlike_34 rv_ki0 rfl ?_
  refine rv_wk [true, true, true, true, false, false] ?_
  exact b3_isAlike_35 E M x0 x1 x2 x3 false
set_option maxRecDepth 100000 in
theorem b3_isAlike {p : Program} {l : Launch} {e : Env} {s : State} {m : MethodId} {args : Array Value} {below : List Frame} {meth : Method} {c : Code} {D : va_G} {cI cZ cO : ClassId} {ad : Nat → Nat} {gh : rC_gh} {de : Nat} (E : rC_E D cI cZ cO ad gh (rC_K ad gh) RX3 cX3_isAlike 6 (some .boolean) p s m args meth c) (M : rv_Mem) (a0 : Nat) (a1 : Int32) (a2 : Nat) (a3 : Int32) : rv_M (rC_G D cI cZ cO ad gh de) (rC_K ad gh) p l e rm3_isAlike s m args below meth c 0 0 (rC_qZ D cI cZ cO ad gh de below args s M) (f3_isAlike gh M a0 a1 a2 a3) 0 [some (.ref (ad a0)), some (.int a1), some (.ref (ad a2)), some (.int a3), none, none] [] M := by
  unfold f3_isAlike
  refine rv_aload_n (q := 1) E.x dX3_isAlike_0 rfl rfl ?_
  refine rv_g (fun g1 => ?_)
  refine rC_getX3 (q := 4) E a0 5 wfX3_27 rfl (Nat.le_of_ble_eq_true rfl) (rC_at_of g1) rfl dX3_isAlike_1 rfl ?_
  refine rv_iload_n (q := 5) E.x dX3_isAlike_4 rfl rfl ?_
  refine rC_iald (q := 6) (n := 11) E (rC_arCm g1 28 (by decide)) dX3_isAlike_5 rfl ?_
  refine rv_aload_n (q := 7) E.x dX3_isAlike_6 rfl rfl ?_
  refine rv_g (fun g2 => ?_)
  refine rC_getX3 (q := 10) E a2 5 wfX3_27 rfl (Nat.le_of_ble_eq_true rfl) (rC_at_of g2) rfl dX3_isAlike_7 rfl ?_
  refine rv_iload_n (q := 11) E.x dX3_isAlike_10 rfl rfl ?_
  refine rC_iald (q := 12) (n := 11) E (rC_arCm g2 28 (by decide)) dX3_isAlike_11 rfl ?_
  refine rv_icmp_ne (q := 15) (tgt := 34) E.x dX3_isAlike_12 (by decide) rfl ?_ ?_
  · refine rv_aload_n (q := 16) E.x dX3_isAlike_15 rfl rfl ?_
    refine rC_getX3 (q := 19) E a0 7 wfX3_33 rfl (Nat.le_of_ble_eq_true rfl) (rC_at_of g1) rfl dX3_isAlike_16 rfl ?_
    refine rv_iload_n (q := 20) E.x dX3_isAlike_19 rfl rfl ?_
    refine rC_iald (q := 21) (n := 11) E (rC_arCm g1 32 (by decide)) dX3_isAlike_20 rfl ?_
    refine rv_aload_n (q := 22) E.x dX3_isAlike_21 rfl rfl ?_
    refine rC_getX3 (q := 25) E a2 7 wfX3_33 rfl (Nat.le_of_ble_eq_true rfl) (rC_at_of g2) rfl dX3_isAlike_22 rfl ?_
    refine rv_iload_n (q := 26) E.x dX3_isAlike_25 rfl rfl ?_
    refine rC_iald (q := 27) (n := 11) E (rC_arCm g2 32 (by decide)) dX3_isAlike_26 rfl ?_
    refine rv_icmp_ne (q := 30) (tgt := 34) E.x dX3_isAlike_27 (by decide) rfl ?_ ?_
    · refine rv_iconst (q := 31) E.x dX3_isAlike_30 rv_ki1 rfl ?_
      refine rv_goto (q := 35) E.x dX3_isAlike_31 (by decide) ?_
      refine rv_wk [true, true, true, true, false, false] ?_
      exact b3_isAlike_35 E M a0 a1 a2 a3 true
    · refine rv_wk [true, true, true, true, false, false] ?_
      exact b3_isAlike_34 E M a0 a1 a2 a3
  · refine rv_wk [true, true, true, true, false, false] ?_
    exact b3_isAlike_34 E M a0 a1 a2 a3
theorem c3_isAlike {l : Launch} {D : va_G} {cI cZ cO : ClassId} {ad : Nat → Nat} {gh : rC_gh} {de : Nat} (hI : rC_I ad gh) {M : rv_Mem} {a0 : Nat} {a1 : Int32} {a2 : Nat} {a3 : Int32} {r : Bool} (h : f3_isAlike gh M a0 a1 a2 a3 = some r) : Met l yX3_isAlike (rv_ws yX3_isAlike cX3_isAlike 6 (some .boolean)) rm3_isAlike (rC_Pc D cI cZ cO ad gh de [.ref (ad a0), .int a1, .ref (ad a2), .int a3] M) (rC_QI D cI cZ cO ad gh de (rv_i r) M) 0 0 (rC_K ad gh) := rC_met hI rfl (by decide) (Nat.le_of_ble_eq_true rfl) (fun p e s m args below meth c E => ⟨(rC_qZ D cI cZ cO ad gh de below args s M), rfl, b3_isAlike E M a0 a1 a2 a3⟩) h
abbrev rm3_isInConflict : Room := { frames := 1, cells := 0, slots := 0, locals := 25 }
set_option maxRecDepth 100000 in
theorem b3_isInConflict_115 {p : Program} {l : Launch} {e : Env} {s : State} {m : MethodId} {args : Array Value} {below : List Frame} {meth : Method} {c : Code} {D : va_G} {cI cZ cO : ClassId} {ad : Nat → Nat} {gh : rC_gh} {de : Nat} (E : rC_E D cI cZ cO ad gh (rC_K ad gh) RX3 cX3_isInConflict 6 (some .boolean) p s m args meth c) (M : rv_Mem) (k2 : Nat → Nat → Int32 → Option (Bool)) (k12 : Nat → Nat → Int32 → Int32 → Option (Bool)) (h2 : ∀ (x0 : Nat) (x1 : Nat) (x2 : Int32), rv_M (rC_G D cI cZ cO ad gh de) (rC_K ad gh) p l e rm3_isInConflict s m args below meth c 0 0 (rC_qZ D cI cZ cO ad gh de below args s M) (k2 x0 x1 x2) 2 [some (.ref (ad x0)), some (.ref (ad x1)), some (.int x2), none, none, none] [] M) (h12 : ∀ (x0 : Nat) (x1 : Nat) (x2 : Int32) (x3 : Int32), rv_M (rC_G D cI cZ cO ad gh de) (rC_K ad gh) p l e rm3_isInConflict s m args below meth c 0 0 (rC_qZ D cI cZ cO ad gh de below args s M) (k12 x0 x1 x2 x3) 12 [some (.ref (ad x0)), some (.ref (ad x1)), some (.int x2), some (.int x3), none, none] [] M) : ∀ (x0 : Nat) (x1 : Nat) (x2 : Int32) (x3 : Int32), rv_M (rC_G D cI cZ cO ad gh de) (rC_K ad gh) p l e rm3_isInConflict s m args below meth c 0 0 (rC_qZ D cI cZ cO ad gh de below args s M) (f3_isInConflict_115 gh M k2 k12 x0 x1 x2 x3) 115 [some (.ref (ad x0)), some (.ref (ad x1)), some (.int x2), some (.int x3), none, none] [] M := by
  intro x0 x1 x2 x3
  unfold f3_isInConflict_115
  refine rv_iinc (q := 118) (lv' := [_, _, _, _, _, _]) E.x dX3_isInConflict_115 rv_ki1 rfl rfl rfl rfl ?_
  refine rv_goto (q := 12) E.x dX3_isInConflict_118 (by decide) ?_
  refine rv_wk [true, true, true, true, false, false] ?_
  exact h12 x0 x1 x2 (x3 + 1)
set_option maxRecDepth 100000 in
theorem b3_isInConflict_101 {p : Program} {l : Launch} {e : Env} {s : State} {m : MethodId} {args : Array Value} {below : List Frame} {meth : Method} {c : Code} {D : va_G} {cI cZ cO : ClassId} {ad : Nat → Nat} {gh : rC_gh} {de : Nat} (E : rC_E D cI cZ cO ad gh (rC_K ad gh) RX3 cX3_isInConflict 6 (some .boolean) p s m args meth c) (M : rv_Mem) (k2 : Nat → Nat → Int32 → Option (Bool)) (k12 : Nat → Nat → Int32 → Int32 → Option (Bool)) (h2 : ∀ (x0 : Nat) (x1 : Nat) (x2 : Int32), rv_M (rC_G D cI cZ cO ad gh de) (rC_K ad gh) p l e rm3_isInConflict s m args below meth c 0 0 (rC_qZ D cI cZ cO ad gh de below args s M) (k2 x0 x1 x2) 2 [some (.ref (ad x0)), some (.ref (ad x1)), some (.int x2), none, none, none] [] M) (h12 : ∀ (x0 : Nat) (x1 : Nat) (x2 : Int32) (x3 : Int32), rv_M (rC_G D cI cZ cO ad gh de) (rC_K ad gh) p l e rm3_isInConflict s m args below meth c 0 0 (rC_qZ D cI cZ cO ad gh de below args s M) (k12 x0 x1 x2 x3) 12 [some (.ref (ad x0)), some (.ref (ad x1)), some (.int x2), some (.int x3), none, none] [] M) : ∀ (x0 : Nat) (x1 : Nat) (x2 : Int32) (x3 : Int32) (x4 : Bool) (s0 : Bool), rv_M (rC_G D cI cZ cO ad gh de) (rC_K ad gh) p l e rm3_isInConflict s m args below meth c 0 0 (rC_qZ D cI cZ cO ad gh de below args s M) (f3_isInConflict_101 gh M k2 k12 x0 x1 x2 x3 x4 s0) 101 [some (.ref (ad x0)), some (.ref (ad x1)), some (.int x2), some (.int x3), some (.int (rv_i x4)), none] [.int (rv_i s0)] M := by
  intro x0 x1 x2 x3 x4 s0
  unfold f3_isInConflict_101
  refine rv_istore (q := 103) (lv' := [_, _, _, _, _, _]) E.x dX3_isInConflict_101 (Nat.le_of_ble_eq_true rfl) rfl rfl rfl ?_
  refine rv_iload (q := 105) E.x dX3_isInConflict_103 rfl rfl ?_
  refine rv_ifz_eq (q := 108) (tgt := 115) E.x dX3_isInConflict_105 (by decide) rfl ?_ ?_
  · refine rv_iload (q := 110) E.x dX3_isInConflict_108 rfl rfl ?_
    refine rv_ifz_ne (q := 113) (tgt := 115) E.x dX3_isInConflict_110 (by decide) rfl ?_ ?_
    · refine rv_iconst (q := 114) E.x dX3_isInConflict_113 rv_ki1 rfl ?_
      exact rC_zret E true rfl dX3_isInConflict_114
    · refine rv_wk [true, true, true, true, false, false] ?_
      exact b3_isInConflict_115 E M k2 k12 h2 h12 x0 x1 x2 x3
  · refine rv_wk [true, true, true, true, false, false] ?_
    exact b3_isInConflict_115 E M k2 k12 h2 h12 x0 x1 x2 x3
set_option maxRecDepth 100000 in
theorem b3_isInConflict_100 {p : Program} {l : Launch} {e : Env} {s : State} {m : MethodId} {args : Array Value} {below : List Frame} {meth : Method} {c : Code} {D : va_G} {cI cZ cO : ClassId} {ad : Nat → Nat} {gh : rC_gh} {de : Nat} (E : rC_E D cI cZ cO ad gh (rC_K ad gh) RX3 cX3_isInConflict 6 (some .boolean) p s m args meth c) (M : rv_Mem) (k2 : Nat → Nat → Int32 → Option (Bool)) (k12 : Nat → Nat → Int32 → Int32 → Option (Bool)) (h2 : ∀ (x0 : Nat) (x1 : Nat) (x2 : Int32), rv_M (rC_G D cI cZ cO ad gh de) (rC_K ad gh) p l e rm3_isInConflict s m args below meth c 0 0 (rC_qZ D cI cZ cO ad gh de below args s M) (k2 x0 x1 x2) 2 [some (.ref (ad x0)), some (.ref (ad x1)), some (.int x2), none, none, none] [] M) (h12 : ∀ (x0 : Nat) (x1 : Nat) (x2 : Int32) (x3 : Int32), rv_M (rC_G D cI cZ cO ad gh de) (rC_K ad gh) p l e rm3_isInConflict s m args below meth c 0 0 (rC_qZ D cI cZ cO ad gh de below args s M) (k12 x0 x1 x2 x3) 12 [some (.ref (ad x0)), some (.ref (ad x1)), some (.int x2), some (.int x3), none, none] [] M) : ∀ (x0 : Nat) (x1 : Nat) (x2 : Int32) (x3 : Int32) (x4 : Bool), rv_M (rC_G D cI cZ cO ad gh de) (rC_K ad gh) p l e rm3_isInConflict s m args below meth c 0 0 (rC_qZ D cI cZ cO ad gh de below args s M) (f3_isInConflict_100 gh M k2 k12 x0 x1 x2 x3 x4) 100 [some (.ref (ad x0)), some (.ref (ad x1)), some (.int x2), some (.int x3), some (.int (rv_i x4)), none] [] M := by
  intro x0 x1 x2 x3 x4
  unfold f3_isInConflict_100
  refine rv_iconst (q := 101) E.x dX3_isInConflict_100 rv_ki0 rfl ?_
  refine rv_wk [true, true, true, true, true, false] ?_
  exact b3_isInConflict_101 E M k2 k12 h2 h12 x0 x1 x2 x3 x4 false
set_option maxRecDepth 100000 in
theorem b3_isInConflict_69 {p : Program} {l : Launch} {e : Env} {s : State} {m : MethodId} {args : Array Value} {below : List Frame} {meth : Method} {c : Code} {D : va_G} {cI cZ cO : ClassId} {ad : Nat → Nat} {gh : rC_gh} {de : Nat} (E : rC_E D cI cZ cO ad gh (rC_K ad gh) RX3 cX3_isInConflict 6 (some .boolean) p s m args meth c) (M : rv_Mem) (k2 : Nat → Nat → Int32 → Option (Bool)) (k12 : Nat → Nat → Int32 → Int32 → Option (Bool)) (h2 : ∀ (x0 : Nat) (x1 : Nat) (x2 : Int32), rv_M (rC_G D cI cZ cO ad gh de) (rC_K ad gh) p l e rm3_isInConflict s m args below meth c 0 0 (rC_qZ D cI cZ cO ad gh de below args s M) (k2 x0 x1 x2) 2 [some (.ref (ad x0)), some (.ref (ad x1)), some (.int x2), none, none, none] [] M) (h12 : ∀ (x0 : Nat) (x1 : Nat) (x2 : Int32) (x3 : Int32), rv_M (rC_G D cI cZ cO ad gh de) (rC_K ad gh) p l e rm3_isInConflict s m args below meth c 0 0 (rC_qZ D cI cZ cO ad gh de below args s M) (k12 x0 x1 x2 x3) 12 [some (.ref (ad x0)), some (.ref (ad x1)), some (.int x2), some (.int x3), none, none] [] M) : ∀ (x0 : Nat) (x1 : Nat) (x2 : Int32) (x3 : Int32) (s0 : Bool), rv_M (rC_G D cI cZ cO ad gh de) (rC_K ad gh) p l e rm3_isInConflict s m args below meth c 0 0 (rC_qZ D cI cZ cO ad gh de below args s M) (f3_isInConflict_69 gh M k2 k12 x0 x1 x2 x3 s0) 69 [some (.ref (ad x0)), some (.ref (ad x1)), some (.int x2), some (.int x3), none, none] [.int (rv_i s0)] M := by
  intro x0 x1 x2 x3 s0
  unfold f3_isInConflict_69
  refine rv_istore (q := 71) (lv' := [_, _, _, _, _, _]) E.x dX3_isInConflict_69 (Nat.le_of_ble_eq_true rfl) rfl rfl rfl ?_
  refine rv_aload_n (q := 72) E.x dX3_isInConflict_71 rfl rfl ?_
  refine rv_g (fun g1 => ?_)
  refine rC_getX3 (q := 75) E x0 4 wfX3_24 rfl (Nat.le_of_ble_eq_true rfl) (rC_at_of g1) rfl dX3_isInConflict_72 rfl ?_
  refine rv_iload_n (q := 76) E.x dX3_isInConflict_75 rfl rfl ?_
  refine rC_iald (q := 77) (n := 11) E (rC_arCm g1 26 (by decide)) dX3_isInConflict_76 rfl ?_
  refine rv_aload_n (q := 78) E.x dX3_isInConflict_77 rfl rfl ?_
  refine rv_g (fun g2 => ?_)
  refine rC_getX3 (q := 81) E x1 4 wfX3_24 rfl (Nat.le_of_ble_eq_true rfl) (rC_at_of g2) rfl dX3_isInConflict_78 rfl ?_
  refine rv_iload_n (q := 82) E.x dX3_isInConflict_81 rfl rfl ?_
  refine rC_iald (q := 83) (n := 11) E (rC_arCm g2 26 (by decide)) dX3_isInConflict_82 rfl ?_
  refine rv_icmp_ne (q := 86) (tgt := 100) E.x dX3_isInConflict_83 (by decide) rfl ?_ ?_
  · refine rv_aload_n (q := 87) E.x dX3_isInConflict_86 rfl rfl ?_
    refine rv_iload_n (q := 88) E.x dX3_isInConflict_87 rfl rfl ?_
    refine rv_aload_n (q := 89) E.x dX3_isInConflict_88 rfl rfl ?_
    refine rv_iload_n (q := 90) E.x dX3_isInConflict_89 rfl rfl ?_
    refine rv_b1 (fun r4 e3 => ?_)
    refine rC_calliX3 (q := 93) E (rC_at_of g1) (c3_isAlike E.2.2.1 e3) gX3_83 hX3_isAlike ⟨rfl, rfl⟩ ⟨Nat.le_of_ble_eq_true rfl, Nat.le_of_ble_eq_true rfl⟩ ⟨Nat.le_of_ble_eq_true rfl, Nat.le_of_ble_eq_true rfl⟩ rfl rfl rfl (Nat.le_of_ble_eq_true rfl) dX3_isInConflict_90 rfl ?_
    refine rv_ifz_eq (q := 96) (tgt := 100) E.x dX3_isInConflict_93 (by decide) rfl ?_ ?_
    · refine rv_iconst (q := 97) E.x dX3_isInConflict_96 rv_ki1 rfl ?_
      refine rv_goto (q := 101) E.x dX3_isInConflict_97 (by decide) ?_
      refine rv_wk [true, true, true, true, true, false] ?_
      exact b3_isInConflict_101 E M k2 k12 h2 h12 x0 x1 x2 x3 s0 true
    · refine rv_wk [true, true, true, true, true, false] ?_
      exact b3_isInConflict_100 E M k2 k12 h2 h12 x0 x1 x2 x3 s0
  · refine rv_wk [true, true, true, true, true, false] ?_
    exact b3_isInConflict_100 E M k2 k12 h2 h12 x0 x1 x2 x3 s0
set_option maxRecDepth 100000 in
theorem b3_isInConflict_68 {p : Program} {l : Launch} {e : Env} {s : State} {m : MethodId} {args : Array Value} {below : List Frame} {meth : Method} {c : Code} {D : va_G} {cI cZ cO : ClassId} {ad : Nat → Nat} {gh : rC_gh} {de : Nat} (E : rC_E D cI cZ cO ad gh (rC_K ad gh) RX3 cX3_isInConflict 6 (some .boolean) p s m args meth c) (M : rv_Mem) (k2 : Nat → Nat → Int32 → Option (Bool)) (k12 : Nat → Nat → Int32 → Int32 → Option (Bool)) (h2 : ∀ (x0 : Nat) (x1 : Nat) (x2 : Int32), rv_M (rC_G D cI cZ cO ad gh de) (rC_K ad gh) p l e rm3_isInConflict s m args below meth c 0 0 (rC_qZ D cI cZ cO ad gh de below args s M) (k2 x0 x1 x2) 2 [some (.ref (ad x0)), some (.ref (ad x1)), some (.int x2), none, none, none] [] M) (h12 : ∀ (x0 : Nat) (x1 : Nat) (x2 : Int32) (x3 : Int32), rv_M (rC_G D cI cZ cO ad gh de) (rC_K ad gh) p l e rm3_isInConflict s m args below meth c 0 0 (rC_qZ D cI cZ cO ad gh de below args s M) (k12 x0 x1 x2 x3) 12 [some (.ref (ad x0)), some (.ref (ad x1)), some (.int x2), some (.int x3), none, none] [] M) : ∀ (x0 : Nat) (x1 : Nat) (x2 : Int32) (x3 : Int32), rv_M (rC_G D cI cZ cO ad gh de) (rC_K ad gh) p l e rm3_isInConflict s m args below meth c 0 0 (rC_qZ D cI cZ cO ad gh de below args s M) (f3_isInConflict_68 gh M k2 k12 x0 x1 x2 x3) 68 [some (.ref (ad x0)), some (.ref (ad x1)), some (.int x2), some (.int x3), none, none] [] M := by
  intro x0 x1 x2 x3
  unfold f3_isInConflict_68
  refine rv_iconst (q := 69) E.x dX3_isInConflict_68 rv_ki0 rfl ?_
  refine rv_wk [true, true, true, true, false, false] ?_
  exact b3_isInConflict_69 E M k2 k12 h2 h12 x0 x1 x2 x3 false
set_option maxRecDepth 100000 in
theorem b3_isInConflict_12_s {p : Program} {l : Launch} {e : Env} {s : State} {m : MethodId} {args : Array Value} {below : List Frame} {meth : Method} {c : Code} {D : va_G} {cI cZ cO : ClassId} {ad : Nat → Nat} {gh : rC_gh} {de : Nat} (E : rC_E D cI cZ cO ad gh (rC_K ad gh) RX3 cX3_isInConflict 6 (some .boolean) p s m args meth c) (M : rv_Mem) (k2 : Nat → Nat → Int32 → Option (Bool)) (h2 : ∀ (x0 : Nat) (x1 : Nat) (x2 : Int32), rv_M (rC_G D cI cZ cO ad gh de) (rC_K ad gh) p l e rm3_isInConflict s m args below meth c 0 0 (rC_qZ D cI cZ cO ad gh de below args s M) (k2 x0 x1 x2) 2 [some (.ref (ad x0)), some (.ref (ad x1)), some (.int x2), none, none, none] [] M) (k12 : Nat → Nat → Int32 → Int32 → Option (Bool)) (h12 : ∀ (x0 : Nat) (x1 : Nat) (x2 : Int32) (x3 : Int32), rv_M (rC_G D cI cZ cO ad gh de) (rC_K ad gh) p l e rm3_isInConflict s m args below meth c 0 0 (rC_qZ D cI cZ cO ad gh de below args s M) (k12 x0 x1 x2 x3) 12 [some (.ref (ad x0)), some (.ref (ad x1)), some (.int x2), some (.int x3), none, none] [] M) : ∀ (x0 : Nat) (x1 : Nat) (x2 : Int32) (x3 : Int32), rv_M (rC_G D cI cZ cO ad gh de) (rC_K ad gh) p l e rm3_isInConflict s m args below meth c 0 0 (rC_qZ D cI cZ cO ad gh de below args s M) (f3_isInConflict_12_s gh M k2 k12 x0 x1 x2 x3) 12 [some (.ref (ad x0)), some (.ref (ad x1)), some (.int x2), some (.int x3), none, none] [] M := by
  intro x0 x1 x2 x3
  unfold f3_isInConflict_12_s
  refine rv_iload_n (q := 13) E.x dX3_isInConflict_12 rfl rfl ?_
  refine rv_aload_n (q := 14) E.x dX3_isInConflict_13 rfl rfl ?_
  refine rv_g (fun g1 => ?_)
  refine rC_getX3 (q := 17) E x1 10 wfX3_80 rfl (Nat.le_of_ble_eq_true rfl) (rC_at_of g1) rfl dX3_isInConflict_14 rfl ?_
  refine rv_icmp_ge (q := 20) (tgt := 121) E.x dX3_isInConflict_17 (by decide) rfl ?_ ?_
  · refine rv_aload_n (q := 21) E.x dX3_isInConflict_20 rfl rfl ?_
    refine rv_g (fun g2 => ?_)
    refine rC_getX3 (q := 24) E x0 4 wfX3_24 rfl (Nat.le_of_ble_eq_true rfl) (rC_at_of g2) rfl dX3_isInConflict_21 rfl ?_
    refine rv_iload_n (q := 25) E.x dX3_isInConflict_24 rfl rfl ?_
    refine rC_iald (q := 26) (n := 11) E (rC_arCm g2 26 (by decide)) dX3_isInConflict_25 rfl ?_
    refine rv_aload_n (q := 27) E.x dX3_isInConflict_26 rfl rfl ?_
    refine rC_getX3 (q := 30) E x1 4 wfX3_24 rfl (Nat.le_of_ble_eq_true rfl) (rC_at_of g1) rfl dX3_isInConflict_27 rfl ?_
    refine rv_iload_n (q := 31) E.x dX3_isInConflict_30 rfl rfl ?_
    refine rC_iald (q := 32) (n := 11) E (rC_arCm g1 26 (by decide)) dX3_isInConflict_31 rfl ?_
    refine rv_aload_n (q := 33) E.x dX3_isInConflict_32 rfl rfl ?_
    refine rC_getX3 (q := 36) E x1 5 wfX3_27 rfl (Nat.le_of_ble_eq_true rfl) (rC_at_of g1) rfl dX3_isInConflict_33 rfl ?_
    refine rv_iload_n (q := 37) E.x dX3_isInConflict_36 rfl rfl ?_
    refine rC_iald (q := 38) (n := 11) E (rC_arCm g1 28 (by decide)) dX3_isInConflict_37 rfl ?_
    refine rv_iadd (q := 39) E.x dX3_isInConflict_38 rfl ?_
    refine rv_icmp_gt (q := 42) (tgt := 68) E.x dX3_isInConflict_39 (by decide) rfl ?_ ?_
    · refine rv_aload_n (q := 43) E.x dX3_isInConflict_42 rfl rfl ?_
      refine rC_getX3 (q := 46) E x1 4 wfX3_24 rfl (Nat.le_of_ble_eq_true rfl) (rC_at_of g1) rfl dX3_isInConflict_43 rfl ?_
      refine rv_iload_n (q := 47) E.x dX3_isInConflict_46 rfl rfl ?_
      refine rC_iald (q := 48) (n := 11) E (rC_arCm g1 26 (by decide)) dX3_isInConflict_47 rfl ?_
      refine rv_aload_n (q := 49) E.x dX3_isInConflict_48 rfl rfl ?_
      refine rC_getX3 (q := 52) E x0 4 wfX3_24 rfl (Nat.le_of_ble_eq_true rfl) (rC_at_of g2) rfl dX3_isInConflict_49 rfl ?_
      refine rv_iload_n (q := 53) E.x dX3_isInConflict_52 rfl rfl ?_
      refine rC_iald (q := 54) (n := 11) E (rC_arCm g2 26 (by decide)) dX3_isInConflict_53 rfl ?_
      refine rv_aload_n (q := 55) E.x dX3_isInConflict_54 rfl rfl ?_
      refine rC_getX3 (q := 58) E x0 5 wfX3_27 rfl (Nat.le_of_ble_eq_true rfl) (rC_at_of g2) rfl dX3_isInConflict_55 rfl ?_
      refine rv_iload_n (q := 59) E.x dX3_isInConflict_58 rfl rfl ?_
      refine rC_iald (q := 60) (n := 11) E (rC_arCm g2 28 (by decide)) dX3_isInConflict_59 rfl ?_
      refine rv_iadd (q := 61) E.x dX3_isInConflict_60 rfl ?_
      refine rv_icmp_gt (q := 64) (tgt := 68) E.x dX3_isInConflict_61 (by decide) rfl ?_ ?_
      · refine rv_iconst (q := 65) E.x dX3_isInConflict_64 rv_ki1 rfl ?_
        refine rv_goto (q := 69) E.x dX3_isInConflict_65 (by decide) ?_
        refine rv_wk [true, true, true, true, false, false] ?_
        exact b3_isInConflict_69 E M k2 k12 h2 h12 x0 x1 x2 x3 true
      · refine rv_wk [true, true, true, true, false, false] ?_
        exact b3_isInConflict_68 E M k2 k12 h2 h12 x0 x1 x2 x3
    · refine rv_wk [true, true, true, true, false, false] ?_
      exact b3_isInConflict_68 E M k2 k12 h2 h12 x0 x1 x2 x3
  · refine rv_iinc (q := 124) (lv' := [_, _, _, _, _, _]) E.x dX3_isInConflict_121 rv_ki1 rfl rfl rfl rfl ?_
    refine rv_goto (q := 2) E.x dX3_isInConflict_124 (by decide) ?_
    refine rv_wk [true, true, true, false, false, false] ?_
    exact h2 x0 x1 (x2 + 1)
theorem b3_isInConflict_12 {p : Program} {l : Launch} {e : Env} {s : State} {m : MethodId} {args : Array Value} {below : List Frame} {meth : Method} {c : Code} {D : va_G} {cI cZ cO : ClassId} {ad : Nat → Nat} {gh : rC_gh} {de : Nat} (E : rC_E D cI cZ cO ad gh (rC_K ad gh) RX3 cX3_isInConflict 6 (some .boolean) p s m args meth c) (M : rv_Mem) (k2 : Nat → Nat → Int32 → Option (Bool)) (h2 : ∀ (x0 : Nat) (x1 : Nat) (x2 : Int32), rv_M (rC_G D cI cZ cO ad gh de) (rC_K ad gh) p l e rm3_isInConflict s m args below meth c 0 0 (rC_qZ D cI cZ cO ad gh de below args s M) (k2 x0 x1 x2) 2 [some (.ref (ad x0)), some (.ref (ad x1)), some (.int x2), none, none, none] [] M) : ∀ (n : Nat), ∀ (x0 : Nat) (x1 : Nat) (x2 : Int32) (x3 : Int32), rv_M (rC_G D cI cZ cO ad gh de) (rC_K ad gh) p l e rm3_isInConflict s m args below meth c 0 0 (rC_qZ D cI cZ cO ad gh de below args s M) (f3_isInConflict_12 gh M k2 n x0 x1 x2 x3) 12 [some (.ref (ad x0)), some (.ref (ad x1)), some (.int x2), some (.int x3), none, none] [] M := by
  intro n
  induction n with
  | zero => exact fun _ _ _ _ => rv_stuck
  | succ n ih => exact b3_isInConflict_12_s E M k2 h2 (f3_isInConflict_12 gh M k2 n) ih
set_option maxRecDepth 100000 in
theorem b3_isInConflict_2_s {p : Program} {l : Launch} {e : Env} {s : State} {m : MethodId} {args : Array Value} {below : List Frame} {meth : Method} {c : Code} {D : va_G} {cI cZ cO : ClassId} {ad : Nat → Nat} {gh : rC_gh} {de : Nat} (E : rC_E D cI cZ cO ad gh (rC_K ad gh) RX3 cX3_isInConflict 6 (some .boolean) p s m args meth c) (M : rv_Mem)   (k2 : Nat → Nat → Int32 → Option (Bool)) (h2 : ∀ (x0 : Nat) (x1 : Nat) (x2 : Int32), rv_M (rC_G D cI cZ cO ad gh de) (rC_K ad gh) p l e rm3_isInConflict s m args below meth c 0 0 (rC_qZ D cI cZ cO ad gh de below args s M) (k2 x0 x1 x2) 2 [some (.ref (ad x0)), some (.ref (ad x1)), some (.int x2), none, none, none] [] M) : ∀ (x0 : Nat) (x1 : Nat) (x2 : Int32), rv_M (rC_G D cI cZ cO ad gh de) (rC_K ad gh) p l e rm3_isInConflict s m args below meth c 0 0 (rC_qZ D cI cZ cO ad gh de below args s M) (f3_isInConflict_2_s gh M k2 x0 x1 x2) 2 [some (.ref (ad x0)), some (.ref (ad x1)), some (.int x2), none, none, none] [] M := by
  intro x0 x1 x2
  unfold f3_isInConflict_2_s
  refine rv_iload_n (q := 3) E.x dX3_isInConflict_2 rfl rfl ?_
  refine rv_aload_n (q := 4) E.x dX3_isInConflict_3 rfl rfl ?_
  refine rv_g (fun g1 => ?_)
  refine rC_getX3 (q := 7) E x0 10 wfX3_80 rfl (Nat.le_of_ble_eq_true rfl) (rC_at_of g1) rfl dX3_isInConflict_4 rfl ?_
  refine rv_icmp_ge (q := 10) (tgt := 127) E.x dX3_isInConflict_7 (by decide) rfl ?_ ?_
  · refine rv_iconst (q := 11) E.x dX3_isInConflict_10 rv_ki0 rfl ?_
    refine rv_istore_n (q := 12) (lv' := [_, _, _, _, _, _]) E.x dX3_isInConflict_11 (Nat.le_of_ble_eq_true rfl) rfl rfl rfl ?_
    refine rv_wk [true, true, true, true, false, false] ?_
    exact b3_isInConflict_12 E M k2 h2 rv_FU x0 x1 x2 0
  · refine rv_iconst (q := 128) E.x dX3_isInConflict_127 rv_ki0 rfl ?_
    exact rC_zret E false rfl dX3_isInConflict_128
theorem b3_isInConflict_2 {p : Program} {l : Launch} {e : Env} {s : State} {m : MethodId} {args : Array Value} {below : List Frame} {meth : Method} {c : Code} {D : va_G} {cI cZ cO : ClassId} {ad : Nat → Nat} {gh : rC_gh} {de : Nat} (E : rC_E D cI cZ cO ad gh (rC_K ad gh) RX3 cX3_isInConflict 6 (some .boolean) p s m args meth c) (M : rv_Mem)   : ∀ (n : Nat), ∀ (x0 : Nat) (x1 : Nat) (x2 : Int32), rv_M (rC_G D cI cZ cO ad gh de) (rC_K ad gh) p l e rm3_isInConflict s m args below meth c 0 0 (rC_qZ D cI cZ cO ad gh de below args s M) (f3_isInConflict_2 gh M n x0 x1 x2) 2 [some (.ref (ad x0)), some (.ref (ad x1)), some (.int x2), none, none, none] [] M := by
  intro n
  induction n with
  | zero => exact fun _ _ _ => rv_stuck
  | succ n ih => exact b3_isInConflict_2_s E M (f3_isInConflict_2 gh M n) ih
set_option maxRecDepth 100000 in
theorem b3_isInConflict {p : Program} {l : Launch} {e : Env} {s : State} {m : MethodId} {args : Array Value} {below : List Frame} {meth : Method} {c : Code} {D : va_G} {cI cZ cO : ClassId} {ad : Nat → Nat} {gh : rC_gh} {de : Nat} (E : rC_E D cI cZ cO ad gh (rC_K ad gh) RX3 cX3_isInConflict 6 (some .boolean) p s m args meth c) (M : rv_Mem) (a0 : Nat) (a1 : Nat) : rv_M (rC_G D cI cZ cO ad gh de) (rC_K ad gh) p l e rm3_isInConflict s m args below meth c 0 0 (rC_qZ D cI cZ cO ad gh de below args s M) (f3_isInConflict gh M a0 a1) 0 [some (.ref (ad a0)), some (.ref (ad a1)), none, none, none, none] [] M := by
  unfold f3_isInConflict
  refine rv_iconst (q := 1) E.x dX3_isInConflict_0 rv_ki0 rfl ?_
  refine rv_istore_n (q := 2) (lv' := [_, _, _, _, _, _]) E.x dX3_isInConflict_1 (Nat.le_of_ble_eq_true rfl) rfl rfl rfl ?_
  refine rv_wk [true, true, true, false, false, false] ?_
  exact b3_isInConflict_2 E M rv_FU a0 a1 0
theorem c3_isInConflict {l : Launch} {D : va_G} {cI cZ cO : ClassId} {ad : Nat → Nat} {gh : rC_gh} {de : Nat} (hI : rC_I ad gh) {M : rv_Mem} {a0 : Nat} {a1 : Nat} {r : Bool} (h : f3_isInConflict gh M a0 a1 = some r) : Met l yX3_isInConflict (rv_ws yX3_isInConflict cX3_isInConflict 6 (some .boolean)) rm3_isInConflict (rC_Pc D cI cZ cO ad gh de [.ref (ad a0), .ref (ad a1)] M) (rC_QI D cI cZ cO ad gh de (rv_i r) M) 0 0 (rC_K ad gh) := rC_met hI rfl (by decide) (Nat.le_of_ble_eq_true rfl) (fun p e s m args below meth c E => ⟨(rC_qZ D cI cZ cO ad gh de below args s M), rfl, b3_isInConflict E M a0 a1⟩) h
abbrev rm9_write : Room := { frames := 0, cells := 0, slots := 0, locals := 0 }
set_option maxRecDepth 100000 in
theorem b9_write {p : Program} {l : Launch} {e : Env} {s : State} {m : MethodId} {args : Array Value} {below : List Frame} {meth : Method} {c : Code} {D : va_G} {cI cZ cO : ClassId} {ad : Nat → Nat} {gh : rC_gh} {de : Nat} (E : rC_E D cI cZ cO ad gh (rC_K ad gh) RX9 cX9_write 3 none p s m args meth c) (M : rv_Mem) (a1 : Nat) (a2 : Int32) (a3 : Int32) : rv_M (rC_G D cI cZ cO ad gh de) (rC_K ad gh) p l e rm9_write s m args below meth c 0 0 (rC_qV D cI cZ cO ad gh de below args s) (f9_write gh M a1 a2 a3) 0 [some (.ref (ad a1)), some (.int a2), some (.int a3)] [] M := by
  unfold f9_write
  refine rv_iload_n (q := 1) E.x dX9_write_0 rfl rfl ?_
  refine rv_if_lt (q := 4) (tgt := 14) E.x dX9_write_1 (by decide) rfl ?_ ?_
  · refine rv_iload_n (q := 5) E.x dX9_write_4 rfl rfl ?_
    refine rv_aload_n (q := 6) E.x dX9_write_5 rfl rfl ?_
    refine rv_g (fun g1 => ?_)
    refine rC_alen (q := 7) (n := (rC_ln a1)) (v := (nI (rC_ln a1))) E (Or.inl (rC_arP g1)) rfl dX9_write_6 rfl ?_
    refine rv_icmp_ge (q := 10) (tgt := 14) E.x dX9_write_7 (by decide) rfl ?_ ?_
    · refine rv_aload_n (q := 11) E.x dX9_write_10 rfl rfl ?_
      refine rv_iload_n (q := 12) E.x dX9_write_11 rfl rfl ?_
      refine rv_iload_n (q := 13) E.x dX9_write_12 rfl rfl ?_
      refine rC_iast (q := 14) (n := (rC_ln a1)) E (rC_arP g1) dX9_write_13 rfl ?_
      refine rv_ltm (fun M2 => ?_)
      exact rC_vret E rfl dX9_write_14
    · exact rC_vret E rfl dX9_write_14
  · exact rC_vret E rfl dX9_write_14
theorem c9_write {l : Launch} {D : va_G} {cI cZ cO : ClassId} {ad : Nat → Nat} {gh : rC_gh} {de : Nat} (hI : rC_I ad gh) {M : rv_Mem} {a1 : Nat} {a2 : Int32} {a3 : Int32} {M1 : rv_Mem} (h : f9_write gh M a1 a2 a3 = some M1) : Met l yX9_write (rv_ws yX9_write cX9_write 3 none) rm9_write (rC_Pc D cI cZ cO ad gh de [.ref (ad a1), .int a2, .int a3] M) (rC_QV D cI cZ cO ad gh de M1) 0 0 (rC_K ad gh) := rC_met hI rfl (by decide) (Nat.le_of_ble_eq_true rfl) (fun p e s m args below meth c E => ⟨(rC_qV D cI cZ cO ad gh de below args s), rfl, b9_write E M a1 a2 a3⟩) h
abbrev rm9_startFile : Room := { frames := 1, cells := 0, slots := 0, locals := 22 }
set_option maxRecDepth 100000 in
theorem b9_startFile {p : Program} {l : Launch} {e : Env} {s : State} {m : MethodId} {args : Array Value} {below : List Frame} {meth : Method} {c : Code} {D : va_G} {cI cZ cO : ClassId} {ad : Nat → Nat} {gh : rC_gh} {de : Nat} (E : rC_E D cI cZ cO ad gh (rC_K ad gh) RX9 cX9_startFile 2 none p s m args meth c) (M : rv_Mem) (a1 : Int32) : rv_M (rC_G D cI cZ cO ad gh de) (rC_K ad gh) p l e rm9_startFile s m args below meth c 0 0 (rC_qV D cI cZ cO ad gh de below args s) (f9_startFile gh M a1) 0 [some (.ref (ad 1)), some (.int a1)] [] M := by
  unfold f9_startFile
  refine rv_aload_n (q := 1) E.x dX9_startFile_0 rfl rfl ?_
  refine rC_getX9 (q := 4) E 1 1 wfX9_15 rfl (Nat.le_of_ble_eq_true rfl) ⟨rfl, rfl⟩ rfl dX9_startFile_1 rfl ?_
  refine rv_sipush (q := 7) E.x dX9_startFile_4 rv_ks324 rfl ?_
  refine rv_iload_n (q := 8) E.x dX9_startFile_7 rfl rfl ?_
  refine rv_iadd (q := 9) E.x dX9_startFile_8 rfl ?_
  refine rv_iconst (q := 10) E.x dX9_startFile_9 rv_ki0 rfl ?_
  refine rv_b1 (fun M2 e1 => ?_)
  refine rC_callsv (q := 13) E (c9_write E.2.2.1 e1) gX9_70 hX9_write ⟨rfl, rfl⟩ ⟨Nat.le_of_ble_eq_true rfl, Nat.le_of_ble_eq_true rfl⟩ ⟨Nat.le_of_ble_eq_true rfl, Nat.le_of_ble_eq_true rfl⟩ rfl rfl rfl (Nat.le_of_ble_eq_true rfl) dX9_startFile_10 rfl ?_
  exact rC_vret E rfl dX9_startFile_13
theorem c9_startFile {l : Launch} {D : va_G} {cI cZ cO : ClassId} {ad : Nat → Nat} {gh : rC_gh} {de : Nat} (hI : rC_I ad gh) {M : rv_Mem} {a1 : Int32} {M1 : rv_Mem} (h : f9_startFile gh M a1 = some M1) : Met l yX9_startFile (rv_ws yX9_startFile cX9_startFile 2 none) rm9_startFile (rC_Pc D cI cZ cO ad gh de [.ref (ad 1), .int a1] M) (rC_QV D cI cZ cO ad gh de M1) 0 0 (rC_K ad gh) := rC_met hI rfl (by decide) (Nat.le_of_ble_eq_true rfl) (fun p e s m args below meth c E => ⟨(rC_qV D cI cZ cO ad gh de below args s), rfl, b9_startFile E M a1⟩) h
abbrev rm3_hunkFrom : Room := { frames := 0, cells := 0, slots := 0, locals := 0 }
set_option maxRecDepth 100000 in
theorem b3_hunkFrom_2_s {p : Program} {l : Launch} {e : Env} {s : State} {m : MethodId} {args : Array Value} {below : List Frame} {meth : Method} {c : Code} {D : va_G} {cI cZ cO : ClassId} {ad : Nat → Nat} {gh : rC_gh} {de : Nat} (E : rC_E D cI cZ cO ad gh (rC_K ad gh) RX3 cX3_hunkFrom 3 (some .int) p s m args meth c) (M : rv_Mem)   (k2 : Nat → Int32 → Int32 → Option (Int32)) (h2 : ∀ (x0 : Nat) (x1 : Int32) (x2 : Int32), rv_M (rC_G D cI cZ cO ad gh de) (rC_K ad gh) p l e rm3_hunkFrom s m args below meth c 0 0 (rC_qI D cI cZ cO ad gh de below args s M) (k2 x0 x1 x2) 2 [some (.ref (ad x0)), some (.int x1), some (.int x2)] [] M) : ∀ (x0 : Nat) (x1 : Int32) (x2 : Int32), rv_M (rC_G D cI cZ cO ad gh de) (rC_K ad gh) p l e rm3_hunkFrom s m args below meth c 0 0 (rC_qI D cI cZ cO ad gh de below args s M) (f3_hunkFrom_2_s gh M k2 x0 x1 x2) 2 [some (.ref (ad x0)), some (.int x1), some (.int x2)] [] M := by
  intro x0 x1 x2
  unfold f3_hunkFrom_2_s
  refine rv_iload_n (q := 3) E.x dX3_hunkFrom_2 rfl rfl ?_
  refine rv_aload_n (q := 4) E.x dX3_hunkFrom_3 rfl rfl ?_
  refine rv_g (fun g1 => ?_)
  refine rC_getX3 (q := 7) E x0 10 wfX3_80 rfl (Nat.le_of_ble_eq_true rfl) (rC_at_of g1) rfl dX3_hunkFrom_4 rfl ?_
  refine rv_icmp_ge (q := 10) (tgt := 28) E.x dX3_hunkFrom_7 (by decide) rfl ?_ ?_
  · refine rv_aload_n (q := 11) E.x dX3_hunkFrom_10 rfl rfl ?_
    refine rC_getX3 (q := 14) E x0 4 wfX3_24 rfl (Nat.le_of_ble_eq_true rfl) (rC_at_of g1) rfl dX3_hunkFrom_11 rfl ?_
    refine rv_iload_n (q := 15) E.x dX3_hunkFrom_14 rfl rfl ?_
    refine rC_iald (q := 16) (n := 11) E (rC_arCm g1 26 (by decide)) dX3_hunkFrom_15 rfl ?_
    refine rv_iload_n (q := 17) E.x dX3_hunkFrom_16 rfl rfl ?_
    refine rv_icmp_ne (q := 20) (tgt := 22) E.x dX3_hunkFrom_17 (by decide) rfl ?_ ?_
    · refine rv_iload_n (q := 21) E.x dX3_hunkFrom_20 rfl rfl ?_
      exact rC_iret E rfl dX3_hunkFrom_21
    · refine rv_iinc (q := 25) (lv' := [_, _, _]) E.x dX3_hunkFrom_22 rv_ki1 rfl rfl rfl rfl ?_
      refine rv_goto (q := 2) E.x dX3_hunkFrom_25 (by decide) ?_
      refine rv_wk [true, true, true] ?_
      exact h2 x0 x1 (x2 + 1)
  · refine rv_iconst (q := 29) E.x dX3_hunkFrom_28 rv_kim1 rfl ?_
    exact rC_iret E rfl dX3_hunkFrom_29
theorem b3_hunkFrom_2 {p : Program} {l : Launch} {e : Env} {s : State} {m : MethodId} {args : Array Value} {below : List Frame} {meth : Method} {c : Code} {D : va_G} {cI cZ cO : ClassId} {ad : Nat → Nat} {gh : rC_gh} {de : Nat} (E : rC_E D cI cZ cO ad gh (rC_K ad gh) RX3 cX3_hunkFrom 3 (some .int) p s m args meth c) (M : rv_Mem)   : ∀ (n : Nat), ∀ (x0 : Nat) (x1 : Int32) (x2 : Int32), rv_M (rC_G D cI cZ cO ad gh de) (rC_K ad gh) p l e rm3_hunkFrom s m args below meth c 0 0 (rC_qI D cI cZ cO ad gh de below args s M) (f3_hunkFrom_2 gh M n x0 x1 x2) 2 [some (.ref (ad x0)), some (.int x1), some (.int x2)] [] M := by
  intro n
  induction n with
  | zero => exact fun _ _ _ => rv_stuck
  | succ n ih => exact b3_hunkFrom_2_s E M (f3_hunkFrom_2 gh M n) ih
set_option maxRecDepth 100000 in
theorem b3_hunkFrom {p : Program} {l : Launch} {e : Env} {s : State} {m : MethodId} {args : Array Value} {below : List Frame} {meth : Method} {c : Code} {D : va_G} {cI cZ cO : ClassId} {ad : Nat → Nat} {gh : rC_gh} {de : Nat} (E : rC_E D cI cZ cO ad gh (rC_K ad gh) RX3 cX3_hunkFrom 3 (some .int) p s m args meth c) (M : rv_Mem) (a0 : Nat) (a1 : Int32) : rv_M (rC_G D cI cZ cO ad gh de) (rC_K ad gh) p l e rm3_hunkFrom s m args below meth c 0 0 (rC_qI D cI cZ cO ad gh de below args s M) (f3_hunkFrom gh M a0 a1) 0 [some (.ref (ad a0)), some (.int a1), none] [] M := by
  unfold f3_hunkFrom
  refine rv_iconst (q := 1) E.x dX3_hunkFrom_0 rv_ki0 rfl ?_
  refine rv_istore_n (q := 2) (lv' := [_, _, _]) E.x dX3_hunkFrom_1 (Nat.le_of_ble_eq_true rfl) rfl rfl rfl ?_
  refine rv_wk [true, true, true] ?_
  exact b3_hunkFrom_2 E M rv_FU a0 a1 0
theorem c3_hunkFrom {l : Launch} {D : va_G} {cI cZ cO : ClassId} {ad : Nat → Nat} {gh : rC_gh} {de : Nat} (hI : rC_I ad gh) {M : rv_Mem} {a0 : Nat} {a1 : Int32} {r : Int32} (h : f3_hunkFrom gh M a0 a1 = some r) : Met l yX3_hunkFrom (rv_ws yX3_hunkFrom cX3_hunkFrom 3 (some .int)) rm3_hunkFrom (rC_Pc D cI cZ cO ad gh de [.ref (ad a0), .int a1] M) (rC_QI D cI cZ cO ad gh de r M) 0 0 (rC_K ad gh) := rC_met hI rfl (by decide) (Nat.le_of_ble_eq_true rfl) (fun p e s m args below meth c E => ⟨(rC_qI D cI cZ cO ad gh de below args s M), rfl, b3_hunkFrom E M a0 a1⟩) h
abbrev rm9_startOf : Room := { frames := 0, cells := 0, slots := 0, locals := 0 }
set_option maxRecDepth 100000 in
theorem b9_startOf {p : Program} {l : Launch} {e : Env} {s : State} {m : MethodId} {args : Array Value} {below : List Frame} {meth : Method} {c : Code} (E : rP_E RX9 cX9_startOf 2 (some .int) p s m args meth c) (a1 : Int32) (a2 : Int32) : rv_M (fun (_ : Unit) _ => True) (fun _ => False) p l e rm9_startOf s m args below meth c 0 0 (rS_qI below args s) (f9_startOf a1 a2) 0 [some (.int a1), some (.int a2)] [] () := by
  unfold f9_startOf
  refine rv_iload_n (q := 1) E.x dX9_startOf_0 rfl rfl ?_
  refine rv_iconst (q := 2) E.x dX9_startOf_1 rv_ki4 rfl ?_
  refine rv_imul (q := 3) E.x dX9_startOf_2 rfl ?_
  refine rv_iload_n (q := 4) E.x dX9_startOf_3 rfl rfl ?_
  refine rv_iadd (q := 5) E.x dX9_startOf_4 rfl ?_
  refine rv_bipush (q := 7) E.x dX9_startOf_5 rv_kb10 rfl ?_
  refine rv_imul (q := 8) E.x dX9_startOf_7 rfl ?_
  exact rP_sret E rfl dX9_startOf_8
theorem c9_startOf {l : Launch} {a1 : Int32} {a2 : Int32} {r : Int32} (h : f9_startOf a1 a2 = some r) : Met l yX9_startOf (rv_ws yX9_startOf cX9_startOf 2 (some .int)) rm9_startOf (va_Pc [.int a1, .int a2] (fun _ => True)) (rR_SQ r) 0 0 (fun _ => False) := rP_mets rfl (by decide) (rv_cat rfl) (Nat.le_of_ble_eq_true rfl) (fun p e s m args below meth c E => ⟨rS_qI below args s, rfl, b9_startOf E a1 a2⟩) h
abbrev rm9_addLine : Room := { frames := 1, cells := 0, slots := 0, locals := 23 }
set_option maxRecDepth 100000 in
theorem b9_addLine {p : Program} {l : Launch} {e : Env} {s : State} {m : MethodId} {args : Array Value} {below : List Frame} {meth : Method} {c : Code} {D : va_G} {cI cZ cO : ClassId} {ad : Nat → Nat} {gh : rC_gh} {de : Nat} (E : rC_E D cI cZ cO ad gh (rC_K ad gh) RX9 cX9_addLine 4 (some .boolean) p s m args meth c) (M : rv_Mem) (a1 : Int32) (a2 : Int32) : rv_M (rC_G D cI cZ cO ad gh de) (rC_K ad gh) p l e rm9_addLine s m args below meth c 0 0 (rC_qZW D cI cZ cO ad gh de below args s) (f9_addLine gh M a1 a2) 0 [some (.ref (ad 1)), some (.int a1), some (.int a2), none] [] M := by
  unfold f9_addLine
  refine rv_aload_n (q := 1) E.x dX9_addLine_0 rfl rfl ?_
  refine rv_bipush (q := 3) E.x dX9_addLine_1 rv_kb81 rfl ?_
  refine rv_iload_n (q := 4) E.x dX9_addLine_3 rfl rfl ?_
  refine rv_b1 (fun r2 e1 => ?_)
  refine rC_calliX9 (q := 7) E ⟨rfl, rfl⟩ (c9_sizeOf E.2.2.1 e1) gX9_66 hX9_sizeOf ⟨rfl, rfl⟩ ⟨Nat.le_of_ble_eq_true rfl, Nat.le_of_ble_eq_true rfl⟩ ⟨Nat.le_of_ble_eq_true rfl, Nat.le_of_ble_eq_true rfl⟩ rfl rfl rfl (Nat.le_of_ble_eq_true rfl) dX9_addLine_4 rfl ?_
  refine rv_istore_n (q := 8) (lv' := [_, _, _, _]) E.x dX9_addLine_7 (Nat.le_of_ble_eq_true rfl) rfl rfl rfl ?_
  refine rv_iload_n (q := 9) E.x dX9_addLine_8 rfl rfl ?_
  refine rv_bipush (q := 11) E.x dX9_addLine_9 rv_kb10 rfl ?_
  refine rv_icmp_lt (q := 14) (tgt := 16) E.x dX9_addLine_11 (by decide) rfl ?_ ?_
  · refine rv_iconst (q := 15) E.x dX9_addLine_14 rv_ki0 rfl ?_
    exact rC_zret E false rfl dX9_addLine_15
  · refine rv_aload_n (q := 17) E.x dX9_addLine_16 rfl rfl ?_
    refine rC_getX9 (q := 20) E 1 0 wfX9_11 rfl (Nat.le_of_ble_eq_true rfl) ⟨rfl, rfl⟩ rfl dX9_addLine_17 rfl ?_
    refine rv_bipush (q := 22) E.x dX9_addLine_20 rv_kb81 rfl ?_
    refine rv_iload_n (q := 23) E.x dX9_addLine_22 rfl rfl ?_
    refine rv_b1 (fun r4 e3 => ?_)
    refine rC_calls (q := 26) E (c9_startOf e3) gX9_74 hX9_startOf ⟨rfl, rfl⟩ ⟨Nat.le_of_ble_eq_true rfl, Nat.le_of_ble_eq_true rfl⟩ ⟨Nat.le_of_ble_eq_true rfl, Nat.le_of_ble_eq_true rfl⟩ rfl rfl rfl (Nat.le_of_ble_eq_true rfl) dX9_addLine_23 rfl ?_
    refine rv_iload_n (q := 27) E.x dX9_addLine_26 rfl rfl ?_
    refine rv_iadd (q := 28) E.x dX9_addLine_27 rfl ?_
    refine rv_iload_n (q := 29) E.x dX9_addLine_28 rfl rfl ?_
    refine rv_b1 (fun M6 e5 => ?_)
    refine rC_callsv (q := 32) E (c9_write E.2.2.1 e5) gX9_70 hX9_write ⟨rfl, rfl⟩ ⟨Nat.le_of_ble_eq_true rfl, Nat.le_of_ble_eq_true rfl⟩ ⟨Nat.le_of_ble_eq_true rfl, Nat.le_of_ble_eq_true rfl⟩ rfl rfl rfl (Nat.le_of_ble_eq_true rfl) dX9_addLine_29 rfl ?_
    refine rv_aload_n (q := 33) E.x dX9_addLine_32 rfl rfl ?_
    refine rC_getX9 (q := 36) E 1 1 wfX9_15 rfl (Nat.le_of_ble_eq_true rfl) ⟨rfl, rfl⟩ rfl dX9_addLine_33 rfl ?_
    refine rv_sipush (q := 39) E.x dX9_addLine_36 rv_ks324 rfl ?_
    refine rv_iload_n (q := 40) E.x dX9_addLine_39 rfl rfl ?_
    refine rv_iadd (q := 41) E.x dX9_addLine_40 rfl ?_
    refine rv_iload_n (q := 42) E.x dX9_addLine_41 rfl rfl ?_
    refine rv_iconst (q := 43) E.x dX9_addLine_42 rv_ki1 rfl ?_
    refine rv_iadd (q := 44) E.x dX9_addLine_43 rfl ?_
    refine rv_b1 (fun M8 e7 => ?_)
    refine rC_callsv (q := 47) E (c9_write E.2.2.1 e7) gX9_70 hX9_write ⟨rfl, rfl⟩ ⟨Nat.le_of_ble_eq_true rfl, Nat.le_of_ble_eq_true rfl⟩ ⟨Nat.le_of_ble_eq_true rfl, Nat.le_of_ble_eq_true rfl⟩ rfl rfl rfl (Nat.le_of_ble_eq_true rfl) dX9_addLine_44 rfl ?_
    refine rv_iconst (q := 48) E.x dX9_addLine_47 rv_ki1 rfl ?_
    exact rC_zret E true rfl dX9_addLine_48
theorem c9_addLine {l : Launch} {D : va_G} {cI cZ cO : ClassId} {ad : Nat → Nat} {gh : rC_gh} {de : Nat} (hI : rC_I ad gh) {M : rv_Mem} {a1 : Int32} {a2 : Int32} {r : Bool} {M1 : rv_Mem} (h : f9_addLine gh M a1 a2 = some (r, M1)) : Met l yX9_addLine (rv_ws yX9_addLine cX9_addLine 4 (some .boolean)) rm9_addLine (rC_Pc D cI cZ cO ad gh de [.ref (ad 1), .int a1, .int a2] M) (rC_QI D cI cZ cO ad gh de (rv_i r) M1) 0 0 (rC_K ad gh) := rC_met hI rfl (by decide) (Nat.le_of_ble_eq_true rfl) (fun p e s m args below meth c E => ⟨(rC_qZW D cI cZ cO ad gh de below args s), rfl, b9_addLine E M a1 a2⟩) h
