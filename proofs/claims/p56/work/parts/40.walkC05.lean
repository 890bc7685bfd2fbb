abbrev rmx11_cut : Room := { frames := 7, cells := 1, slots := 6, locals := 120 }
def qy11_cut (D : va_G) (cI cZ cO : ClassId) (ad : Nat → Nat) (gh : rC_gh) (de : Nat) (below : List Frame) (args : Array Value) (s : State) : (Int32 × rv_Mem) ⊕ (Nat × rv_Mem) → State → Prop := fun r => match r with
  | .inl _ => fun _ => True
  | .inr r => vx_MQ below (rC_fi (rC_A ad gh s.heap.size)) (rC_xc D cI cZ cO ad gh de (rC_A ad gh s.heap.size) r.1 r.2) args s 1 6 (rC_A ad gh s.heap.size)
set_option maxRecDepth 100000 in
theorem bx11_cut {p : Program} {l : Launch} {e : Env} {s : State} {m : MethodId} {args : Array Value} {below : List Frame} {meth : Method} {c : Code} {D : va_G} {cI cZ cO : ClassId} {ad : Nat → Nat} {gh : rC_gh} {de : Nat} (E : rC_X D cI cZ cO ad gh RX11 cX11_cut 4 (some .int) p l s m args meth c) (M : rv_Mem) (a1 : Int32) (a2 : Int32) : rv_M (rC_G D cI cZ cO ad gh de) (rC_A ad gh s.heap.size) p l e rmx11_cut s m args below meth c 0 0 (qy11_cut D cI cZ cO ad gh de below args s) (f11_cut gh M a1 a2) 0 [some (.ref (ad 0)), some (.int a1), some (.int a2), none] [] M := by
  unfold f11_cut
  refine rv_iload_n (q := 1) E.1.x dX11_cut_0 rfl rfl ?_
  refine rv_x2r (fun r2 e1 => ?_) (fun w3 e4 => rC_ySv E (fun _ => c11_needFile_x E.2.1 E.1.2.2.1 e4) rfl gX11_102 hX11_needFile ⟨rfl, rfl⟩ ⟨Nat.le_of_ble_eq_true rfl, Nat.le_of_ble_eq_true rfl⟩ ⟨Nat.le_of_ble_eq_true rfl, Nat.le_of_ble_eq_true rfl⟩ rfl rfl rfl (Nat.le_of_ble_eq_true rfl) dX11_cut_1 ⟨Nat.le_of_ble_eq_true rfl, Nat.le_of_ble_eq_true rfl⟩)
  refine rC_xSv (q := 4) E (fun _ => c11_needFile E.2.1 E.1.2.2.1 e1) gX11_102 hX11_needFile ⟨rfl, rfl⟩ ⟨Nat.le_of_ble_eq_true rfl, Nat.le_of_ble_eq_true rfl⟩ ⟨Nat.le_of_ble_eq_true rfl, Nat.le_of_ble_eq_true rfl⟩ rfl rfl rfl (Nat.le_of_ble_eq_true rfl) dX11_cut_1 rfl ?_
  refine rv_iload_n (q := 5) E.1.x dX11_cut_4 rfl rfl ?_
  refine rv_if_lt (q := 8) (tgt := 22) E.1.x dX11_cut_5 (by decide) rfl ?_ ?_
  · refine rv_iload_n (q := 9) E.1.x dX11_cut_8 rfl rfl ?_
    refine rv_aload_n (q := 10) E.1.x dX11_cut_9 rfl rfl ?_
    refine rC_getX11 (q := 13) E.1 0 0 wfX11_10 rfl (Nat.le_of_ble_eq_true rfl) ⟨rfl, rfl⟩ rfl dX11_cut_10 rfl ?_
    refine rv_bipush (q := 15) E.1.x dX11_cut_13 rv_kb80 rfl ?_
    refine rv_iload_n (q := 16) E.1.x dX11_cut_15 rfl rfl ?_
    refine rv_b1 (fun r6 e5 => ?_)
    refine rC_calliX9 (q := 19) E.1 ⟨rfl, rfl⟩ (c9_sizeOf E.1.2.2.1 e5) gX11_105 hX9_sizeOf ⟨rfl, rfl⟩ ⟨Nat.le_of_ble_eq_true rfl, Nat.le_of_ble_eq_true rfl⟩ ⟨Nat.le_of_ble_eq_true rfl, Nat.le_of_ble_eq_true rfl⟩ rfl rfl rfl (Nat.le_of_ble_eq_true rfl) dX11_cut_16 rfl ?_
    refine rv_icmp_lt (q := 22) (tgt := 32) E.1.x dX11_cut_19 (by decide) rfl ?_ ?_
    · exact rC_throw (x := 1) E rfl (by decide +kernel) rC_xk1 rC_xi1 rC_xg1 rC_xn1 rC_xo1 E.2.2.2.2.2.2.1 (is := 111) (text := "no such place") (by decide +kernel) rfl rfl dX11_cut_22 dX11_cut_25 dX11_cut_26 dX11_cut_28 dX11_cut_31 (Nat.le_of_ble_eq_true rfl) (Nat.le_of_ble_eq_true rfl) ⟨Nat.le_of_ble_eq_true rfl, Nat.le_of_ble_eq_true rfl⟩ ⟨Nat.le_of_ble_eq_true rfl, Nat.le_of_ble_eq_true rfl⟩
    · refine rv_aload_n (q := 33) E.1.x dX11_cut_32 rfl rfl ?_
      refine rC_getX11 (q := 36) E.1 0 0 wfX11_10 rfl (Nat.le_of_ble_eq_true rfl) ⟨rfl, rfl⟩ rfl dX11_cut_33 rfl ?_
      refine rv_bipush (q := 38) E.1.x dX11_cut_36 rv_kb80 rfl ?_
      refine rv_iload_n (q := 39) E.1.x dX11_cut_38 rfl rfl ?_
      refine rv_iload_n (q := 40) E.1.x dX11_cut_39 rfl rfl ?_
      refine rv_b1 (fun r8 e7 => ?_)
      refine rC_calliX9 (q := 43) E.1 ⟨rfl, rfl⟩ (c9_lineAt E.1.2.2.1 e7) gX11_130 hX9_lineAt ⟨rfl, rfl⟩ ⟨Nat.le_of_ble_eq_true rfl, Nat.le_of_ble_eq_true rfl⟩ ⟨Nat.le_of_ble_eq_true rfl, Nat.le_of_ble_eq_true rfl⟩ rfl rfl rfl (Nat.le_of_ble_eq_true rfl) dX11_cut_40 rfl ?_
      refine rv_istore_n (q := 44) (lv' := [_, _, _, _]) E.1.x dX11_cut_43 (Nat.le_of_ble_eq_true rfl) rfl rfl rfl ?_
      refine rv_aload_n (q := 45) E.1.x dX11_cut_44 rfl rfl ?_
      refine rC_getX11 (q := 48) E.1 0 0 wfX11_10 rfl (Nat.le_of_ble_eq_true rfl) ⟨rfl, rfl⟩ rfl dX11_cut_45 rfl ?_
      refine rv_iload_n (q := 49) E.1.x dX11_cut_48 rfl rfl ?_
      refine rv_iload_n (q := 50) E.1.x dX11_cut_49 rfl rfl ?_
      refine rv_b1 (fun M10 e9 => ?_)
      refine rC_callvX9 (q := 53) E.1 ⟨rfl, rfl⟩ (c9_removeFromDesk E.1.2.2.1 e9) gX11_134 hX9_removeFromDesk ⟨rfl, rfl⟩ ⟨Nat.le_of_ble_eq_true rfl, Nat.le_of_ble_eq_true rfl⟩ ⟨Nat.le_of_ble_eq_true rfl, Nat.le_of_ble_eq_true rfl⟩ rfl rfl rfl (Nat.le_of_ble_eq_true rfl) dX11_cut_50 rfl ?_
      refine rv_iload_n (q := 54) E.1.x dX11_cut_53 rfl rfl ?_
      exact rv_tr (fun _ => trivial)
  · exact rC_throw (x := 1) E rfl (by decide +kernel) rC_xk1 rC_xi1 rC_xg1 rC_xn1 rC_xo1 E.2.2.2.2.2.2.1 (is := 111) (text := "no such place") (by decide +kernel) rfl rfl dX11_cut_22 dX11_cut_25 dX11_cut_26 dX11_cut_28 dX11_cut_31 (Nat.le_of_ble_eq_true rfl) (Nat.le_of_ble_eq_true rfl) ⟨Nat.le_of_ble_eq_true rfl, Nat.le_of_ble_eq_true rfl⟩ ⟨Nat.le_of_ble_eq_true rfl, Nat.le_of_ble_eq_true rfl⟩
theorem c11_cut_x {l : Launch} {D : va_G} {cI cZ cO : ClassId} {ad : Nat → Nat} {gh : rC_gh} {de : Nat} (hfl : l.stackTraces = false) (hI : rC_I ad gh) {sz : Nat} {M : rv_Mem} {a1 : Int32} {a2 : Int32} {x : Nat} {M1 : rv_Mem} (h : f11_cut gh M a1 a2 = some (.inr (x, M1))) : vx_Met l yX11_cut (rv_ws yX11_cut cX11_cut 4 (some .int)) rmx11_cut (rC_Px D cI cZ cO ad gh de sz [.ref (ad 0), .int a1, .int a2] M) (rC_fi (rC_A ad gh sz)) (rC_xc D cI cZ cO ad gh de (rC_A ad gh sz) x M1) 1 6 (rC_A ad gh sz) := rC_xmet (Qc := fun A => rC_fi A) (XC := fun A => rC_xc D cI cZ cO ad gh de A x M1) hfl hI rfl (by decide) (Nat.le_of_ble_eq_true rfl) (fun p e s m args below meth c E => ⟨(qy11_cut D cI cZ cO ad gh de below args s), rfl, bx11_cut E M a1 a2⟩) h
abbrev rm11_commits : Room := { frames := 0, cells := 0, slots := 0, locals := 0 }
set_option maxRecDepth 100000 in
theorem b11_commits {p : Program} {l : Launch} {e : Env} {s : State} {m : MethodId} {args : Array Value} {below : List Frame} {meth : Method} {c : Code} {D : va_G} {cI cZ cO : ClassId} {ad : Nat → Nat} {gh : rC_gh} {de : Nat} (E : rC_E D cI cZ cO ad gh (rC_K ad gh) RX11 cX11_commits 1 (some .int) p s m args meth c) (M : rv_Mem)  : rv_M (rC_G D cI cZ cO ad gh de) (rC_K ad gh) p l e rm11_commits s m args below meth c 0 0 (rC_qI D cI cZ cO ad gh de below args s M) (f11_commits gh M) 0 [some (.ref (ad 0))] [] M := by
  unfold f11_commits
  refine rv_aload_n (q := 1) E.x dX11_commits_0 rfl rfl ?_
  refine rC_getX11 (q := 4) E 0 0 wfX11_10 rfl (Nat.le_of_ble_eq_true rfl) ⟨rfl, rfl⟩ rfl dX11_commits_1 rfl ?_
  refine rC_getX9 (q := 7) E 1 10 wfX11_137 rfl (Nat.le_of_ble_eq_true rfl) ⟨rfl, rfl⟩ rfl dX11_commits_4 rfl ?_
  exact rC_iret E rfl dX11_commits_7
theorem c11_commits {l : Launch} {D : va_G} {cI cZ cO : ClassId} {ad : Nat → Nat} {gh : rC_gh} {de : Nat} (hI : rC_I ad gh) {M : rv_Mem} {r : Int32} (h : f11_commits gh M = some r) : Met l yX11_commits (rv_ws yX11_commits cX11_commits 1 (some .int)) rm11_commits (rC_Pc D cI cZ cO ad gh de [.ref (ad 0)] M) (rC_QI D cI cZ cO ad gh de r M) 0 0 (rC_K ad gh) := rC_met hI rfl (by decide) (Nat.le_of_ble_eq_true rfl) (fun p e s m args below meth c E => ⟨(rC_qI D cI cZ cO ad gh de below args s M), rfl, b11_commits E M ⟩) h
abbrev rm11_needCommitOrDesk : Room := { frames := 7, cells := 0, slots := 0, locals := 121 }
def qx11_needCommitOrDesk (D : va_G) (cI cZ cO : ClassId) (ad : Nat → Nat) (gh : rC_gh) (de : Nat) (below : List Frame) (args : Array Value) (s : State) (M : rv_Mem) : Int32 ⊕ Nat → State → Prop := fun r => match r with
  | .inl r => vx_MQ below (rC_qi D cI cZ cO ad gh de (rC_A ad gh s.heap.size) r M) (rC_fx (rC_A ad gh s.heap.size)) args s 0 0 (rC_A ad gh s.heap.size)
  | .inr _ => fun _ => True
set_option maxRecDepth 100000 in
theorem b11_needCommitOrDesk {p : Program} {l : Launch} {e : Env} {s : State} {m : MethodId} {args : Array Value} {below : List Frame} {meth : Method} {c : Code} {D : va_G} {cI cZ cO : ClassId} {ad : Nat → Nat} {gh : rC_gh} {de : Nat} (E : rC_X D cI cZ cO ad gh RX11 cX11_needCommitOrDesk 2 (some .int) p l s m args meth c) (M : rv_Mem) (a1 : Int32) : rv_M (rC_G D cI cZ cO ad gh de) (rC_A ad gh s.heap.size) p l e rm11_needCommitOrDesk s m args below meth c 0 0 (qx11_needCommitOrDesk D cI cZ cO ad gh de below args s M) (f11_needCommitOrDesk gh M a1) 0 [some (.ref (ad 0)), some (.int a1)] [] M := by
  unfold f11_needCommitOrDesk
  refine rv_iload_n (q := 1) E.1.x dX11_needCommitOrDesk_0 rfl rfl ?_
  refine rv_iconst (q := 2) E.1.x dX11_needCommitOrDesk_1 rv_kim1 rfl ?_
  refine rv_icmp_ne (q := 5) (tgt := 8) E.1.x dX11_needCommitOrDesk_2 (by decide) rfl ?_ ?_
  · refine rv_bipush (q := 7) E.1.x dX11_needCommitOrDesk_5 rv_kb80 rfl ?_
    exact rC_xiret E rfl ⟨Nat.le_of_ble_eq_true rfl, Nat.le_of_ble_eq_true rfl⟩ dX11_needCommitOrDesk_7
  · refine rv_aload_n (q := 9) E.1.x dX11_needCommitOrDesk_8 rfl rfl ?_
    refine rv_iload_n (q := 10) E.1.x dX11_needCommitOrDesk_9 rfl rfl ?_
    refine rv_x1r (fun r2 e1 => ?_) (fun w3 e4 => rv_tr (fun _ => trivial))
    refine rC_xVvX11 (q := 13) E ⟨rfl, rfl⟩ (fun _ => c11_needCommit E.2.1 E.1.2.2.1 e1) gX11_79 hX11_needCommit ⟨rfl, rfl⟩ ⟨Nat.le_of_ble_eq_true rfl, Nat.le_of_ble_eq_true rfl⟩ ⟨Nat.le_of_ble_eq_true rfl, Nat.le_of_ble_eq_true rfl⟩ rfl rfl rfl (Nat.le_of_ble_eq_true rfl) dX11_needCommitOrDesk_10 rfl ?_
    refine rv_iload_n (q := 14) E.1.x dX11_needCommitOrDesk_13 rfl rfl ?_
    exact rC_xiret E rfl ⟨Nat.le_of_ble_eq_true rfl, Nat.le_of_ble_eq_true rfl⟩ dX11_needCommitOrDesk_14
theorem c11_needCommitOrDesk {l : Launch} {D : va_G} {cI cZ cO : ClassId} {ad : Nat → Nat} {gh : rC_gh} {de : Nat} (hfl : l.stackTraces = false) (hI : rC_I ad gh) {sz : Nat} {M : rv_Mem} {a1 : Int32} {r : Int32} (h : f11_needCommitOrDesk gh M a1 = some (.inl r)) : vx_Met l yX11_needCommitOrDesk (rv_ws yX11_needCommitOrDesk cX11_needCommitOrDesk 2 (some .int)) rm11_needCommitOrDesk (rC_Px D cI cZ cO ad gh de sz [.ref (ad 0), .int a1] M) (rC_qi D cI cZ cO ad gh de (rC_A ad gh sz) r M) (rC_fx (rC_A ad gh sz)) 0 0 (rC_A ad gh sz) := rC_xmet (Qc := fun A => rC_qi D cI cZ cO ad gh de A r M) (XC := fun A => rC_fx A) hfl hI rfl (by decide) (Nat.le_of_ble_eq_true rfl) (fun p e s m args below meth c E => ⟨(qx11_needCommitOrDesk D cI cZ cO ad gh de below args s M), rfl, b11_needCommitOrDesk E M a1⟩) h
abbrev rmx11_needCommitOrDesk : Room := { frames := 7, cells := 1, slots := 6, locals := 121 }
def qy11_needCommitOrDesk (D : va_G) (cI cZ cO : ClassId) (ad : Nat → Nat) (gh : rC_gh) (de : Nat) (below : List Frame) (args : Array Value) (s : State) (M : rv_Mem) : Int32 ⊕ Nat → State → Prop := fun r => match r with
  | .inl _ => fun _ => True
  | .inr r => vx_MQ below (rC_fi (rC_A ad gh s.heap.size)) (rC_xc D cI cZ cO ad gh de (rC_A ad gh s.heap.size) r M) args s 1 6 (rC_A ad gh s.heap.size)
set_option maxRecDepth 100000 in
theorem bx11_needCommitOrDesk {p : Program} {l : Launch} {e : Env} {s : State} {m : MethodId} {args : Array Value} {below : List Frame} {meth : Method} {c : Code} {D : va_G} {cI cZ cO : ClassId} {ad : Nat → Nat} {gh : rC_gh} {de : Nat} (E : rC_X D cI cZ cO ad gh RX11 cX11_needCommitOrDesk 2 (some .int) p l s m args meth c) (M : rv_Mem) (a1 : Int32) : rv_M (rC_G D cI cZ cO ad gh de) (rC_A ad gh s.heap.size) p l e rmx11_needCommitOrDesk s m args below meth c 0 0 (qy11_needCommitOrDesk D cI cZ cO ad gh de below args s M) (f11_needCommitOrDesk gh M a1) 0 [some (.ref (ad 0)), some (.int a1)] [] M := by
  unfold f11_needCommitOrDesk
  refine rv_iload_n (q := 1) E.1.x dX11_needCommitOrDesk_0 rfl rfl ?_
  refine rv_iconst (q := 2) E.1.x dX11_needCommitOrDesk_1 rv_kim1 rfl ?_
  refine rv_icmp_ne (q := 5) (tgt := 8) E.1.x dX11_needCommitOrDesk_2 (by decide) rfl ?_ ?_
  · refine rv_bipush (q := 7) E.1.x dX11_needCommitOrDesk_5 rv_kb80 rfl ?_
    exact rv_tr (fun _ => trivial)
  · refine rv_aload_n (q := 9) E.1.x dX11_needCommitOrDesk_8 rfl rfl ?_
    refine rv_iload_n (q := 10) E.1.x dX11_needCommitOrDesk_9 rfl rfl ?_
    refine rv_x1r (fun r2 e1 => ?_) (fun w3 e4 => rC_yVvX11 E ⟨rfl, rfl⟩ (fun _ => c11_needCommit_x E.2.1 E.1.2.2.1 e4) rfl gX11_79 hX11_needCommit ⟨rfl, rfl⟩ ⟨Nat.le_of_ble_eq_true rfl, Nat.le_of_ble_eq_true rfl⟩ ⟨Nat.le_of_ble_eq_true rfl, Nat.le_of_ble_eq_true rfl⟩ rfl rfl rfl (Nat.le_of_ble_eq_true rfl) dX11_needCommitOrDesk_10 ⟨Nat.le_of_ble_eq_true rfl, Nat.le_of_ble_eq_true rfl⟩)
    refine rC_xVvX11 (q := 13) E ⟨rfl, rfl⟩ (fun _ => c11_needCommit E.2.1 E.1.2.2.1 e1) gX11_79 hX11_needCommit ⟨rfl, rfl⟩ ⟨Nat.le_of_ble_eq_true rfl, Nat.le_of_ble_eq_true rfl⟩ ⟨Nat.le_of_ble_eq_true rfl, Nat.le_of_ble_eq_true rfl⟩ rfl rfl rfl (Nat.le_of_ble_eq_true rfl) dX11_needCommitOrDesk_10 rfl ?_
    refine rv_iload_n (q := 14) E.1.x dX11_needCommitOrDesk_13 rfl rfl ?_
    exact rv_tr (fun _ => trivial)
theorem c11_needCommitOrDesk_x {l : Launch} {D : va_G} {cI cZ cO : ClassId} {ad : Nat → Nat} {gh : rC_gh} {de : Nat} (hfl : l.stackTraces = false) (hI : rC_I ad gh) {sz : Nat} {M : rv_Mem} {a1 : Int32} {x : Nat} (h : f11_needCommitOrDesk gh M a1 = some (.inr x)) : vx_Met l yX11_needCommitOrDesk (rv_ws yX11_needCommitOrDesk cX11_needCommitOrDesk 2 (some .int)) rmx11_needCommitOrDesk (rC_Px D cI cZ cO ad gh de sz [.ref (ad 0), .int a1] M) (rC_fi (rC_A ad gh sz)) (rC_xc D cI cZ cO ad gh de (rC_A ad gh sz) x M) 1 6 (rC_A ad gh sz) := rC_xmet (Qc := fun A => rC_fi A) (XC := fun A => rC_xc D cI cZ cO ad gh de A x M) hfl hI rfl (by decide) (Nat.le_of_ble_eq_true rfl) (fun p e s m args below meth c E => ⟨(qy11_needCommitOrDesk D cI cZ cO ad gh de below args s M), rfl, bx11_needCommitOrDesk E M a1⟩) h
abbrev rm11_line : Room := { frames := 8, cells := 0, slots := 0, locals := 142 }
def qx11_line (D : va_G) (cI cZ cO : ClassId) (ad : Nat → Nat) (gh : rC_gh) (de : Nat) (below : List Frame) (args : Array Value) (s : State) (M : rv_Mem) : Int32 ⊕ Nat → State → Prop := fun r => match r with
  | .inl r => vx_MQ below (rC_qi D cI cZ cO ad gh de (rC_A ad gh s.heap.size) r M) (rC_fx (rC_A ad gh s.heap.size)) args s 0 0 (rC_A ad gh s.heap.size)
  | .inr _ => fun _ => True
set_option maxRecDepth 100000 in
theorem b11_line {p : Program} {l : Launch} {e : Env} {s : State} {m : MethodId} {args : Array Value} {below : List Frame} {meth : Method} {c : Code} {D : va_G} {cI cZ cO : ClassId} {ad : Nat → Nat} {gh : rC_gh} {de : Nat} (E : rC_X D cI cZ cO ad gh RX11 cX11_line 5 (some .int) p l s m args meth c) (M : rv_Mem) (a1 : Int32) (a2 : Int32) (a3 : Int32) : rv_M (rC_G D cI cZ cO ad gh de) (rC_A ad gh s.heap.size) p l e rm11_line s m args below meth c 0 0 (qx11_line D cI cZ cO ad gh de below args s M) (f11_line gh M a1 a2 a3) 0 [some (.ref (ad 0)), some (.int a1), some (.int a2), some (.int a3), none] [] M := by
  unfold f11_line
  refine rv_aload_n (q := 1) E.1.x dX11_line_0 rfl rfl ?_
  refine rv_iload_n (q := 2) E.1.x dX11_line_1 rfl rfl ?_
  refine rv_x1r (fun r2 e1 => ?_) (fun w3 e4 => rv_tr (fun _ => trivial))
  refine rC_xViX11 (q := 5) E ⟨rfl, rfl⟩ (fun _ => c11_needCommitOrDesk E.2.1 E.1.2.2.1 e1) gX11_140 hX11_needCommitOrDesk ⟨rfl, rfl⟩ ⟨Nat.le_of_ble_eq_true rfl, Nat.le_of_ble_eq_true rfl⟩ ⟨Nat.le_of_ble_eq_true rfl, Nat.le_of_ble_eq_true rfl⟩ rfl rfl rfl (Nat.le_of_ble_eq_true rfl) dX11_line_2 rfl ?_
  refine rv_istore (q := 7) (lv' := [_, _, _, _, _]) E.1.x dX11_line_5 (Nat.le_of_ble_eq_true rfl) rfl rfl rfl ?_
  refine rv_iload_n (q := 8) E.1.x dX11_line_7 rfl rfl ?_
  refine rv_x1r (fun r6 e5 => ?_) (fun w7 e8 => rv_tr (fun _ => trivial))
  refine rC_xSv (q := 11) E (fun _ => c11_needFile E.2.1 E.1.2.2.1 e5) gX11_102 hX11_needFile ⟨rfl, rfl⟩ ⟨Nat.le_of_ble_eq_true rfl, Nat.le_of_ble_eq_true rfl⟩ ⟨Nat.le_of_ble_eq_true rfl, Nat.le_of_ble_eq_true rfl⟩ rfl rfl rfl (Nat.le_of_ble_eq_true rfl) dX11_line_8 rfl ?_
  refine rv_iload_n (q := 12) E.1.x dX11_line_11 rfl rfl ?_
  refine rv_if_ge (q := 15) (tgt := 25) E.1.x dX11_line_12 (by decide) rfl ?_ ?_
  · exact rv_tr (fun _ => trivial)
  · refine rv_aload_n (q := 26) E.1.x dX11_line_25 rfl rfl ?_
    refine rC_getX11 (q := 29) E.1 0 0 wfX11_10 rfl (Nat.le_of_ble_eq_true rfl) ⟨rfl, rfl⟩ rfl dX11_line_26 rfl ?_
    refine rv_iload (q := 31) E.1.x dX11_line_29 rfl rfl ?_
    refine rv_iload_n (q := 32) E.1.x dX11_line_31 rfl rfl ?_
    refine rv_iload_n (q := 33) E.1.x dX11_line_32 rfl rfl ?_
    refine rv_b1 (fun r10 e9 => ?_)
    refine rC_calliX9 (q := 36) E.1 ⟨rfl, rfl⟩ (c9_lineAt E.1.2.2.1 e9) gX11_130 hX9_lineAt ⟨rfl, rfl⟩ ⟨Nat.le_of_ble_eq_true rfl, Nat.le_of_ble_eq_true rfl⟩ ⟨Nat.le_of_ble_eq_true rfl, Nat.le_of_ble_eq_true rfl⟩ rfl rfl rfl (Nat.le_of_ble_eq_true rfl) dX11_line_33 rfl ?_
    exact rC_xiret E rfl ⟨Nat.le_of_ble_eq_true rfl, Nat.le_of_ble_eq_true rfl⟩ dX11_line_36
theorem c11_line {l : Launch} {D : va_G} {cI cZ cO : ClassId} {ad : Nat → Nat} {gh : rC_gh} {de : Nat} (hfl : l.stackTraces = false) (hI : rC_I ad gh) {sz : Nat} {M : rv_Mem} {a1 : Int32} {a2 : Int32} {a3 : Int32} {r : Int32} (h : f11_line gh M a1 a2 a3 = some (.inl r)) : vx_Met l yX11_line (rv_ws yX11_line cX11_line 5 (some .int)) rm11_line (rC_Px D cI cZ cO ad gh de sz [.ref (ad 0), .int a1, .int a2, .int a3] M) (rC_qi D cI cZ cO ad gh de (rC_A ad gh sz) r M) (rC_fx (rC_A ad gh sz)) 0 0 (rC_A ad gh sz) := rC_xmet (Qc := fun A => rC_qi D cI cZ cO ad gh de A r M) (XC := fun A => rC_fx A) hfl hI rfl (by decide) (Nat.le_of_ble_eq_true rfl) (fun p e s m args below meth c E => ⟨(qx11_line D cI cZ cO ad gh de below args s M), rfl, b11_line E M a1 a2 a3⟩) h
abbrev rmx11_line : Room := { frames := 8, cells := 1, slots := 6, locals := 142 }
def qy11_line (D : va_G) (cI cZ cO : ClassId) (ad : Nat → Nat) (gh : rC_gh) (de : Nat) (below : List Frame) (args : Array Value) (s : State) (M : rv_Mem) : Int32 ⊕ Nat → State → Prop := fun r => match r with
  | .inl _ => fun _ => True
  | .inr r => vx_MQ below (rC_fi (rC_A ad gh s.heap.size)) (rC_xc D cI cZ cO ad gh de (rC_A ad gh s.heap.size) r M) args s 1 6 (rC_A ad gh s.heap.size)
set_option maxRecDepth 100000 in
theorem bx11_line {p : Program} {l : Launch} {e : Env} {s : State} {m : MethodId} {args : Array Value} {below : List Frame} {meth : Method} {c : Code} {D : va_G} {cI cZ cO : ClassId} {ad : Nat → Nat} {gh : rC_gh} {de : Nat} (E : rC_X D cI cZ cO ad gh RX11 cX11_line 5 (some .int) p l s m args meth c) (M : rv_Mem) (a1 : Int32) (a2 : Int32) (a3 : Int32) : rv_M (rC_G D cI cZ cO ad gh de) (rC_A ad gh s.heap.size) p l e rmx11_line s m args below meth c 0 0 (qy11_line D cI cZ cO ad gh de below args s M) (f11_line gh M a1 a2 a3) 0 [some (.ref (ad 0)), some (.int a1), some (.int a2), some (.int a3), none] [] M := by
  unfold f11_line
  refine rv_aload_n (q := 1) E.1.x dX11_line_0 rfl rfl ?_
  refine rv_iload_n (q := 2) E.1.x dX11_line_1 rfl rfl ?_
  refine rv_x1r (fun r2 e1 => ?_) (fun w3 e4 => rC_yViX11 E ⟨rfl, rfl⟩ (fun _ => c11_needCommitOrDesk_x E.2.1 E.1.2.2.1 e4) rfl gX11_140 hX11_needCommitOrDesk ⟨rfl, rfl⟩ ⟨Nat.le_of_ble_eq_true rfl, Nat.le_of_ble_eq_true rfl⟩ ⟨Nat.le_of_ble_eq_true rfl, Nat.le_of_ble_eq_true rfl⟩ rfl rfl rfl (Nat.le_of_ble_eq_true rfl) dX11_line_2 ⟨Nat.le_of_ble_eq_true rfl, Nat.le_of_ble_eq_true rfl⟩)
  refine rC_xViX11 (q := 5) E ⟨rfl, rfl⟩ (fun _ => c11_needCommitOrDesk E.2.1 E.1.2.2.1 e1) gX11_140 hX11_needCommitOrDesk ⟨rfl, rfl⟩ ⟨Nat.le_of_ble_eq_true rfl, Nat.le_of_ble_eq_true rfl⟩ ⟨Nat.le_of_ble_eq_true rfl, Nat.le_of_ble_eq_true rfl⟩ rfl rfl rfl (Nat.le_of_ble_eq_true rfl) dX11_line_2 rfl ?_
  refine rv_istore (q := 7) (lv' := [_, _, _, _, _]) E.1.x dX11_line_5 (Nat.le_of_ble_eq_true rfl) rfl rfl rfl ?_
  refine rv_iload_n (q := 8) E.1.x dX11_line_7 rfl rfl ?_
  refine rv_x1r (fun r6 e5 => ?_) (fun w7 e8 => rC_ySv E (fun _ => c11_needFile_x E.2.1 E.1.2.2.1 e8) rfl gX11_102 hX11_needFile ⟨rfl, rfl⟩ ⟨Nat.le_of_ble_eq_true rfl, Nat.le_of_ble_eq_true rfl⟩ ⟨Nat.le_of_ble_eq_true rfl, Nat.le_of_ble_eq_true rfl⟩ rfl rfl rfl (Nat.le_of_ble_eq_true rfl) dX11_line_8 ⟨Nat.le_of_ble_eq_true rfl, Nat.le_of_ble_eq_true rfl⟩)
  refine rC_xSv (q := 11) E (fun _ => c11_needFile E.2.1 E.1.2.2.1 e5) gX11_102 hX11_needFile ⟨rfl, rfl⟩ ⟨Nat.le_of_ble_eq_true rfl, Nat.le_of_ble_eq_true rfl⟩ ⟨Nat.le_of_ble_eq_true rfl, Nat.le_of_ble_eq_true rfl⟩ rfl rfl rfl (Nat.le_of_ble_eq_true rfl) dX11_line_8 rfl ?_
  refine rv_iload_n (q := 12) E.1.x dX11_line_11 rfl rfl ?_
  refine rv_if_ge (q := 15) (tgt := 25) E.1.x dX11_line_12 (by decide) rfl ?_ ?_
  · exact rC_throw (x := 1) E rfl (by decide +kernel) rC_xk1 rC_xi1 rC_xg1 rC_xn1 rC_xo1 E.2.2.2.2.2.2.1 (is := 111) (text := "no such place") (by decide +kernel) rfl rfl dX11_line_15 dX11_line_18 dX11_line_19 dX11_line_21 dX11_line_24 (Nat.le_of_ble_eq_true rfl) (Nat.le_of_ble_eq_true rfl) ⟨Nat.le_of_ble_eq_true rfl, Nat.le_of_ble_eq_true rfl⟩ ⟨Nat.le_of_ble_eq_true rfl, Nat.le_of_ble_eq_true rfl⟩
  · refine rv_aload_n (q := 26) E.1.x dX11_line_25 rfl rfl ?_
    refine rC_getX11 (q := 29) E.1 0 0 wfX11_10 rfl (Nat.le_of_ble_eq_true rfl) ⟨rfl, rfl⟩ rfl dX11_line_26 rfl ?_
    refine rv_iload (q := 31) E.1.x dX11_line_29 rfl rfl ?_
    refine rv_iload_n (q := 32) E.1.x dX11_line_31 rfl rfl ?_
    refine rv_iload_n (q := 33) E.1.x dX11_line_32 rfl rfl ?_
    refine rv_b1 (fun r10 e9 => ?_)
    refine rC_calliX9 (q := 36) E.1 ⟨rfl, rfl⟩ (c9_lineAt E.1.2.2.1 e9) gX11_130 hX9_lineAt ⟨rfl, rfl⟩ ⟨Nat.le_of_ble_eq_true rfl, Nat.le_of_ble_eq_true rfl⟩ ⟨Nat.le_of_ble_eq_true rfl, Nat.le_of_ble_eq_true rfl⟩ rfl rfl rfl (Nat.le_of_ble_eq_true rfl) dX11_line_33 rfl ?_
    exact rv_tr (fun _ => trivial)
theorem c11_line_x {l : Launch} {D : va_G} {cI cZ cO : ClassId} {ad : Nat → Nat} {gh : rC_gh} {de : Nat} (hfl : l.stackTraces = false) (hI : rC_I ad gh) {sz : Nat} {M : rv_Mem} {a1 : Int32} {a2 : Int32} {a3 : Int32} {x : Nat} (h : f11_line gh M a1 a2 a3 = some (.inr x)) : vx_Met l yX11_line (rv_ws yX11_line cX11_line 5 (some .int)) rmx11_line (rC_Px D cI cZ cO ad gh de sz [.ref (ad 0), .int a1, .int a2, .int a3] M) (rC_fi (rC_A ad gh sz)) (rC_xc D cI cZ cO ad gh de (rC_A ad gh sz) x M) 1 6 (rC_A ad gh sz) := rC_xmet (Qc := fun A => rC_fi A) (XC := fun A => rC_xc D cI cZ cO ad gh de A x M) hfl hI rfl (by decide) (Nat.le_of_ble_eq_true rfl) (fun p e s m args below meth c E => ⟨(qy11_line D cI cZ cO ad gh de below args s M), rfl, bx11_line E M a1 a2 a3⟩) h
abbrev rm11_before : Room := { frames := 8, cells := 0, slots := 0, locals := 142 }
def qx11_before (D : va_G) (cI cZ cO : ClassId) (ad : Nat → Nat) (gh : rC_gh) (de : Nat) (below : List Frame) (args : Array Value) (s : State) (M : rv_Mem) : Int32 ⊕ Nat → State → Prop := fun r => match r with
  | .inl r => vx_MQ below (rC_qi D cI cZ cO ad gh de (rC_A ad gh s.heap.size) r M) (rC_fx (rC_A ad gh s.heap.size)) args s 0 0 (rC_A ad gh s.heap.size)
  | .inr _ => fun _ => True
set_option maxRecDepth 100000 in
theorem b11_before {p : Program} {l : Launch} {e : Env} {s : State} {m : MethodId} {args : Array Value} {below : List Frame} {meth : Method} {c : Code} {D : va_G} {cI cZ cO : ClassId} {ad : Nat → Nat} {gh : rC_gh} {de : Nat} (E : rC_X D cI cZ cO ad gh RX11 cX11_before 2 (some .int) p l s m args meth c) (M : rv_Mem) (a1 : Int32) : rv_M (rC_G D cI cZ cO ad gh de) (rC_A ad gh s.heap.size) p l e rm11_before s m args below meth c 0 0 (qx11_before D cI cZ cO ad gh de below args s M) (f11_before gh M a1) 0 [some (.ref (ad 0)), some (.int a1)] [] M := by
  unfold f11_before
  refine rv_aload_n (q := 1) E.1.x dX11_before_0 rfl rfl ?_
  refine rC_getX11 (q := 4) E.1 0 0 wfX11_10 rfl (Nat.le_of_ble_eq_true rfl) ⟨rfl, rfl⟩ rfl dX11_before_1 rfl ?_
  refine rv_aload_n (q := 5) E.1.x dX11_before_4 rfl rfl ?_
  refine rv_iload_n (q := 6) E.1.x dX11_before_5 rfl rfl ?_
  refine rv_x1r (fun r2 e1 => ?_) (fun w3 e4 => rv_tr (fun _ => trivial))
  refine rC_xViX11 (q := 9) E ⟨rfl, rfl⟩ (fun _ => c11_needCommitOrDesk E.2.1 E.1.2.2.1 e1) gX11_140 hX11_needCommitOrDesk ⟨rfl, rfl⟩ ⟨Nat.le_of_ble_eq_true rfl, Nat.le_of_ble_eq_true rfl⟩ ⟨Nat.le_of_ble_eq_true rfl, Nat.le_of_ble_eq_true rfl⟩ rfl rfl rfl (Nat.le_of_ble_eq_true rfl) dX11_before_6 rfl ?_
  refine rv_b1 (fun r6 e5 => ?_)
  refine rC_calliX9 (q := 12) E.1 ⟨rfl, rfl⟩ (c9_baseOf E.1.2.2.1 e5) gX11_99 hX9_baseOf ⟨rfl, rfl⟩ ⟨Nat.le_of_ble_eq_true rfl, Nat.le_of_ble_eq_true rfl⟩ ⟨Nat.le_of_ble_eq_true rfl, Nat.le_of_ble_eq_true rfl⟩ rfl rfl rfl (Nat.le_of_ble_eq_true rfl) dX11_before_9 rfl ?_
  exact rC_xiret E rfl ⟨Nat.le_of_ble_eq_true rfl, Nat.le_of_ble_eq_true rfl⟩ dX11_before_12
theorem c11_before {l : Launch} {D : va_G} {cI cZ cO : ClassId} {ad : Nat → Nat} {gh : rC_gh} {de : Nat} (hfl : l.stackTraces = false) (hI : rC_I ad gh) {sz : Nat} {M : rv_Mem} {a1 : Int32} {r : Int32} (h : f11_before gh M a1 = some (.inl r)) : vx_Met l yX11_before (rv_ws yX11_before cX11_before 2 (some .int)) rm11_before (rC_Px D cI cZ cO ad gh de sz [.ref (ad 0), .int a1] M) (rC_qi D cI cZ cO ad gh de (rC_A ad gh sz) r M) (rC_fx (rC_A ad gh sz)) 0 0 (rC_A ad gh sz) := rC_xmet (Qc := fun A => rC_qi D cI cZ cO ad gh de A r M) (XC := fun A => rC_fx A) hfl hI rfl (by decide) (Nat.le_of_ble_eq_true rfl) (fun p e s m args below meth c E => ⟨(qx11_before D cI cZ cO ad gh de below args s M), rfl, b11_before E M a1⟩) h
abbrev rmx11_before : Room := { frames := 8, cells := 1, slots := 6, locals := 142 }
def qy11_before (D : va_G) (cI cZ cO : ClassId) (ad : Nat → Nat) (gh : rC_gh) (de : Nat) (below : List Frame) (args : Array Value) (s : State) (M : rv_Mem) : Int32 ⊕ Nat → State → Prop := fun r => match r with
  | .inl _ => fun _ => True
  | .inr r => vx_MQ below (rC_fi (rC_A ad gh s.heap.size)) (rC_xc D cI cZ cO ad gh de (rC_A ad gh s.heap.size) r M) args s 1 6 (rC_A ad gh s.heap.size)
set_option maxRecDepth 100000 in
theorem bx11_before {p : Program} {l : Launch} {e : Env} {s : State} {m : MethodId} {args : Array Value} {below : List Frame} {meth : Method} {c : Code} {D : va_G} {cI cZ cO : ClassId} {ad : Nat → Nat} {gh : rC_gh} {de : Nat} (E : rC_X D cI cZ cO ad gh RX11 cX11_before 2 (some .int) p l s m args meth c) (M : rv_Mem) (a1 : Int32) : rv_M (rC_G D cI cZ cO ad gh de) (rC_A ad gh s.heap.size) p l e rmx11_before s m args below meth c 0 0 (qy11_before D cI cZ cO ad gh de below args s M) (f11_before gh M a1) 0 [some (.ref (ad 0)), some (.int a1)] [] M := by
  unfold f11_before
  refine rv_aload_n (q := 1) E.1.x dX11_before_0 rfl rfl ?_
  refine rC_getX11 (q := 4) E.1 0 0 wfX11_10 rfl (Nat.le_of_ble_eq_true rfl) ⟨rfl, rfl⟩ rfl dX11_before_1 rfl ?_
  refine rv_aload_n (q := 5) E.1.x dX11_before_4 rfl rfl ?_
  refine rv_iload_n (q := 6) E.1.x dX11_before_5 rfl rfl ?_
  refine rv_x1r (fun r2 e1 => ?_) (fun w3 e4 => rC_yViX11 E ⟨rfl, rfl⟩ (fun _ => c11_needCommitOrDesk_x E.2.1 E.1.2.2.1 e4) rfl gX11_140 hX11_needCommitOrDesk ⟨rfl, rfl⟩ ⟨Nat.le_of_ble_eq_true rfl, Nat.le_of_ble_eq_true rfl⟩ ⟨Nat.le_of_ble_eq_true rfl, Nat.le_of_ble_eq_true rfl⟩ rfl rfl rfl (Nat.le_of_ble_eq_true rfl) dX11_before_6 ⟨Nat.le_of_ble_eq_true rfl, Nat.le_of_ble_eq_true rfl⟩)
  refine rC_xViX11 (q := 9) E ⟨rfl, rfl⟩ (fun _ => c11_needCommitOrDesk E.2.1 E.1.2.2.1 e1) gX11_140 hX11_needCommitOrDesk ⟨rfl, rfl⟩ ⟨Nat.le_of_ble_eq_true rfl, Nat.le_of_ble_eq_true rfl⟩ ⟨Nat.le_of_ble_eq_true rfl, Nat.le_of_ble_eq_true rfl⟩ rfl rfl rfl (Nat.le_of_ble_eq_true rfl) dX11_before_6 rfl ?_
  refine rv_b1 (fun r6 e5 => ?_)
  refine rC_calliX9 (q := 12) E.1 ⟨rfl, rfl⟩ (c9_baseOf E.1.2.2.1 e5) gX11_99 hX9_baseOf ⟨rfl, rfl⟩ ⟨Nat.le_of_ble_eq_true rfl, Nat.le_of_ble_eq_true rfl⟩ ⟨Nat.le_of_ble_eq_true rfl, Nat.le_of_ble_eq_true rfl⟩ rfl rfl rfl (Nat.le_of_ble_eq_true rfl) dX11_before_9 rfl ?_
  exact rv_tr (fun _ => trivial)
theorem c11_before_x {l : Launch} {D : va_G} {cI cZ cO : ClassId} {ad : Nat → Nat} {gh : rC_gh} {de : Nat} (hfl : l.stackTraces = false) (hI : rC_I ad gh) {sz : Nat} {M : rv_Mem} {a1 : Int32} {x : Nat} (h : f11_before gh M a1 = some (.inr x)) : vx_Met l yX11_before (rv_ws yX11_before cX11_before 2 (some .int)) rmx11_before (rC_Px D cI cZ cO ad gh de sz [.ref (ad 0), .int a1] M) (rC_fi (rC_A ad gh sz)) (rC_xc D cI cZ cO ad gh de (rC_A ad gh sz) x M) 1 6 (rC_A ad gh sz) := rC_xmet (Qc := fun A => rC_fi A) (XC := fun A => rC_xc D cI cZ cO ad gh de A x M) hfl hI rfl (by decide) (Nat.le_of_ble_eq_true rfl) (fun p e s m args below meth c E => ⟨(qy11_before D cI cZ cO ad gh de below args s M), rfl, bx11_before E M a1⟩) h
abbrev rm11_needRepository : Room := { frames := 6, cells := 0, slots := 0, locals := 100 }
def qx11_needRepository (D : va_G) (cI cZ cO : ClassId) (ad : Nat → Nat) (gh : rC_gh) (de : Nat) (below : List Frame) (args : Array Value) (s : State) (M : rv_Mem) : Unit ⊕ Nat → State → Prop := fun r => match r with
  | .inl r => vx_MQ below (rC_qv D cI cZ cO ad gh de (rC_A ad gh s.heap.size) M) (rC_fx (rC_A ad gh s.heap.size)) args s 0 0 (rC_A ad gh s.heap.size)
  | .inr _ => fun _ => True
set_option maxRecDepth 100000 in
theorem b11_needRepository {p : Program} {l : Launch} {e : Env} {s : State} {m : MethodId} {args : Array Value} {below : List Frame} {meth : Method} {c : Code} {D : va_G} {cI cZ cO : ClassId} {ad : Nat → Nat} {gh : rC_gh} {de : Nat} (E : rC_X D cI cZ cO ad gh RX11 cX11_needRepository 1 none p l s m args meth c) (M : rv_Mem) (a1 : Int32) : rv_M (rC_G D cI cZ cO ad gh de) (rC_A ad gh s.heap.size) p l e rm11_needRepository s m args below meth c 0 0 (qx11_needRepository D cI cZ cO ad gh de below args s M) (f11_needRepository gh M a1) 0 [some (.int a1)] [] M := by
  unfold f11_needRepository
  refine rv_iload_n (q := 1) E.1.x dX11_needRepository_0 rfl rfl ?_
  refine rv_if_lt (q := 4) (tgt := 9) E.1.x dX11_needRepository_1 (by decide) rfl ?_ ?_
  · refine rv_iload_n (q := 5) E.1.x dX11_needRepository_4 rfl rfl ?_
    refine rv_iconst (q := 6) E.1.x dX11_needRepository_5 rv_ki2 rfl ?_
    refine rv_icmp_lt (q := 9) (tgt := 20) E.1.x dX11_needRepository_6 (by decide) rfl ?_ ?_
    · exact rv_tr (fun _ => trivial)
    · exact rC_xvret E rfl ⟨Nat.le_of_ble_eq_true rfl, Nat.le_of_ble_eq_true rfl⟩ dX11_needRepository_20
  · exact rv_tr (fun _ => trivial)
theorem c11_needRepository {l : Launch} {D : va_G} {cI cZ cO : ClassId} {ad : Nat → Nat} {gh : rC_gh} {de : Nat} (hfl : l.stackTraces = false) (hI : rC_I ad gh) {sz : Nat} {M : rv_Mem} {a1 : Int32} {r : Unit} (h : f11_needRepository gh M a1 = some (.inl r)) : vx_Met l yX11_needRepository (rv_ws yX11_needRepository cX11_needRepository 1 none) rm11_needRepository (rC_Px D cI cZ cO ad gh de sz [.int a1] M) (rC_qv D cI cZ cO ad gh de (rC_A ad gh sz) M) (rC_fx (rC_A ad gh sz)) 0 0 (rC_A ad gh sz) := rC_xmet (Qc := fun A => rC_qv D cI cZ cO ad gh de A M) (XC := fun A => rC_fx A) hfl hI rfl (by decide) (Nat.le_of_ble_eq_true rfl) (fun p e s m args below meth c E => ⟨(qx11_needRepository D cI cZ cO ad gh de below args s M), rfl, b11_needRepository E M a1⟩) h
abbrev rmx11_needRepository : Room := { frames := 6, cells := 1, slots := 6, locals := 100 }
def qy11_needRepository (D : va_G) (cI cZ cO : ClassId) (ad : Nat → Nat) (gh : rC_gh) (de : Nat) (below : List Frame) (args : Array Value) (s : State) (M : rv_Mem) : Unit ⊕ Nat → State → Prop := fun r => match r with
  | .inl _ => fun _ => True
  | .inr r => vx_MQ below (rC_fvv (rC_A ad gh s.heap.size)) (rC_xc D cI cZ cO ad gh de (rC_A ad gh s.heap.size) r M) args s 1 6 (rC_A ad gh s.heap.size)
set_option maxRecDepth 100000 in
theorem bx11_needRepository {p : Program} {l : Launch} {e : Env} {s : State} {m : MethodId} {args : Array Value} {below : List Frame} {meth : Method} {c : Code} {D : va_G} {cI cZ cO : ClassId} {ad : Nat → Nat} {gh : rC_gh} {de : Nat} (E : rC_X D cI cZ cO ad gh RX11 cX11_needRepository 1 none p l s m args meth c) (M : rv_Mem) (a1 : Int32) : rv_M (rC_G D cI cZ cO ad gh de) (rC_A ad gh s.heap.size) p l e rmx11_needRepository s m args below meth c 0 0 (qy11_needRepository D cI cZ cO ad gh de below args s M) (f11_needRepository gh M a1) 0 [some (.int a1)] [] M := by
  unfold f11_needRepository
  refine rv_iload_n (q := 1) E.1.x dX11_needRepository_0 rfl rfl ?_
  refine rv_if_lt (q := 4) (tgt := 9) E.1.x dX11_needRepository_1 (by decide) rfl ?_ ?_
  · refine rv_iload_n (q := 5) E.1.x dX11_needRepository_4 rfl rfl ?_
    refine rv_iconst (q := 6) E.1.x dX11_needRepository_5 rv_ki2 rfl ?_
    refine rv_icmp_lt (q := 9) (tgt := 20) E.1.x dX11_needRepository_6 (by decide) rfl ?_ ?_
    · exact rC_throwW (x := 1) E rfl (by decide +kernel) rC_xk1 rC_xi1 rC_xg1 rC_xn1 rC_xo1 E.2.2.2.2.2.2.1 (is := 487) (text := "no such repository") (by decide +kernel) rfl rfl dX11_needRepository_9 dX11_needRepository_12 dX11_needRepository_13 dX11_needRepository_16 dX11_needRepository_19 (Nat.le_of_ble_eq_true rfl) (Nat.le_of_ble_eq_true rfl) ⟨Nat.le_of_ble_eq_true rfl, Nat.le_of_ble_eq_true rfl⟩ ⟨Nat.le_of_ble_eq_true rfl, Nat.le_of_ble_eq_true rfl⟩
    · exact rv_tr (fun _ => trivial)
  · exact rC_throwW (x := 1) E rfl (by decide +kernel) rC_xk1 rC_xi1 rC_xg1 rC_xn1 rC_xo1 E.2.2.2.2.2.2.1 (is := 487) (text := "no such repository") (by decide +kernel) rfl rfl dX11_needRepository_9 dX11_needRepository_12 dX11_needRepository_13 dX11_needRepository_16 dX11_needRepository_19 (Nat.le_of_ble_eq_true rfl) (Nat.le_of_ble_eq_true rfl) ⟨Nat.le_of_ble_eq_true rfl, Nat.le_of_ble_eq_true rfl⟩ ⟨Nat.le_of_ble_eq_true rfl, Nat.le_of_ble_eq_true rfl⟩
theorem c11_needRepository_x {l : Launch} {D : va_G} {cI cZ cO : ClassId} {ad : Nat → Nat} {gh : rC_gh} {de : Nat} (hfl : l.stackTraces = false) (hI : rC_I ad gh) {sz : Nat} {M : rv_Mem} {a1 : Int32} {x : Nat} (h : f11_needRepository gh M a1 = some (.inr x)) : vx_Met l yX11_needRepository (rv_ws yX11_needRepository cX11_needRepository 1 none) rmx11_needRepository (rC_Px D cI cZ cO ad gh de sz [.int a1] M) (rC_fvv (rC_A ad gh sz)) (rC_xc D cI cZ cO ad gh de (rC_A ad gh sz) x M) 1 6 (rC_A ad gh sz) := rC_xmet (Qc := fun A => rC_fvv A) (XC := fun A => rC_xc D cI cZ cO ad gh de A x M) hfl hI rfl (by decide) (Nat.le_of_ble_eq_true rfl) (fun p e s m args below meth c E => ⟨(qy11_needRepository D cI cZ cO ad gh de below args s M), rfl, bx11_needRepository E M a1⟩) h
abbrev rm11_tip : Room := { frames := 7, cells := 0, slots := 0, locals := 120 }
def qx11_tip (D : va_G) (cI cZ cO : ClassId) (ad : Nat → Nat) (gh : rC_gh) (de : Nat) (below : List Frame) (args : Array Value) (s : State) (M : rv_Mem) : Int32 ⊕ Nat → State → Prop := fun r => match r with
  | .inl r => vx_MQ below (rC_qi D cI cZ cO ad gh de (rC_A ad gh s.heap.size) r M) (rC_fx (rC_A ad gh s.heap.size)) args s 0 0 (rC_A ad gh s.heap.size)
  | .inr _ => fun _ => True
set_option maxRecDepth 100000 in
theorem b11_tip {p : Program} {l : Launch} {e : Env} {s : State} {m : MethodId} {args : Array Value} {below : List Frame} {meth : Method} {c : Code} {D : va_G} {cI cZ cO : ClassId} {ad : Nat → Nat} {gh : rC_gh} {de : Nat} (E : rC_X D cI cZ cO ad gh RX11 cX11_tip 2 (some .int) p l s m args meth c) (M : rv_Mem) (a1 : Int32) : rv_M (rC_G D cI cZ cO ad gh de) (rC_A ad gh s.heap.size) p l e rm11_tip s m args below meth c 0 0 (qx11_tip D cI cZ cO ad gh de below args s M) (f11_tip gh M a1) 0 [some (.ref (ad 0)), some (.int a1)] [] M := by
  unfold f11_tip
  refine rv_iload_n (q := 1) E.1.x dX11_tip_0 rfl rfl ?_
  refine rv_x1r (fun r2 e1 => ?_) (fun w3 e4 => rv_tr (fun _ => trivial))
  refine rC_xSv (q := 4) E (fun _ => c11_needRepository E.2.1 E.1.2.2.1 e1) gX11_143 hX11_needRepository ⟨rfl, rfl⟩ ⟨Nat.le_of_ble_eq_true rfl, Nat.le_of_ble_eq_true rfl⟩ ⟨Nat.le_of_ble_eq_true rfl, Nat.le_of_ble_eq_true rfl⟩ rfl rfl rfl (Nat.le_of_ble_eq_true rfl) dX11_tip_1 rfl ?_
  refine rv_aload_n (q := 5) E.1.x dX11_tip_4 rfl rfl ?_
  refine rC_getX11 (q := 8) E.1 0 0 wfX11_10 rfl (Nat.le_of_ble_eq_true rfl) ⟨rfl, rfl⟩ rfl dX11_tip_5 rfl ?_
  refine rv_iload_n (q := 9) E.1.x dX11_tip_8 rfl rfl ?_
  refine rv_b1 (fun r6 e5 => ?_)
  refine rC_calliX9 (q := 12) E.1 ⟨rfl, rfl⟩ (c9_tipOf E.1.2.2.1 e5) gX11_146 hX9_tipOf ⟨rfl, rfl⟩ ⟨Nat.le_of_ble_eq_true rfl, Nat.le_of_ble_eq_true rfl⟩ ⟨Nat.le_of_ble_eq_true rfl, Nat.le_of_ble_eq_true rfl⟩ rfl rfl rfl (Nat.le_of_ble_eq_true rfl) dX11_tip_9 rfl ?_
  exact rC_xiret E rfl ⟨Nat.le_of_ble_eq_true rfl, Nat.le_of_ble_eq_true rfl⟩ dX11_tip_12
theorem c11_tip {l : Launch} {D : va_G} {cI cZ cO : ClassId} {ad : Nat → Nat} {gh : rC_gh} {de : Nat} (hfl : l.stackTraces = false) (hI : rC_I ad gh) {sz : Nat} {M : rv_Mem} {a1 : Int32} {r : Int32} (h : f11_tip gh M a1 = some (.inl r)) : vx_Met l yX11_tip (rv_ws yX11_tip cX11_tip 2 (some .int)) rm11_tip (rC_Px D cI cZ cO ad gh de sz [.ref (ad 0), .int a1] M) (rC_qi D cI cZ cO ad gh de (rC_A ad gh sz) r M) (rC_fx (rC_A ad gh sz)) 0 0 (rC_A ad gh sz) := rC_xmet (Qc := fun A => rC_qi D cI cZ cO ad gh de A r M) (XC := fun A => rC_fx A) hfl hI rfl (by decide) (Nat.le_of_ble_eq_true rfl) (fun p e s m args below meth c E => ⟨(qx11_tip D cI cZ cO ad gh de below args s M), rfl, b11_tip E M a1⟩) h
abbrev rmx11_tip : Room := { frames := 7, cells := 1, slots := 6, locals := 120 }
def qy11_tip (D : va_G) (cI cZ cO : ClassId) (ad : Nat → Nat) (gh : rC_gh) (de : Nat) (below : List Frame) (args : Array Value) (s : State) (M : rv_Mem) : Int32 ⊕ Nat → State → Prop := fun r => match r with
  | .inl _ => fun _ => True
  | .inr r => vx_MQ below (rC_fi (rC_A ad gh s.heap.size)) (rC_xc D cI cZ cO ad gh de (rC_A ad gh s.heap.size) r M) args s 1 6 (rC_A ad gh s.heap.size)
set_option maxRecDepth 100000 in
theorem bx11_tip {p : Program} {l : Launch} {e : Env} {s : State} {m : MethodId} {args : Array Value} {below : List Frame} {meth : Method} {c : Code} {D : va_G} {cI cZ cO : ClassId} {ad : Nat → Nat} {gh : rC_gh} {de : Nat} (E : rC_X D cI cZ cO ad gh RX11 cX11_tip 2 (some .int) p l s m args meth c) (M : rv_Mem) (a1 : Int32) : rv_M (rC_G D cI cZ cO ad gh de) (rC_A ad gh s.heap.size) p l e rmx11_tip s m args below meth c 0 0 (qy11_tip D cI cZ cO ad gh de below args s M) (f11_tip gh M a1) 0 [some (.ref (ad 0)), some (.int a1)] [] M := by
  unfold f11_tip
  refine rv_iload_n (q := 1) E.1.x dX11_tip_0 rfl rfl ?_
  refine rv_x1r (fun r2 e1 => ?_) (fun w3 e4 => rC_ySv E (fun _ => c11_needRepository_x E.2.1 E.1.2.2.1 e4) rfl gX11_143 hX11_needRepository ⟨rfl, rfl⟩ ⟨Nat.le_of_ble_eq_true rfl, Nat.le_of_ble_eq_true rfl⟩ ⟨Nat.le_of_ble_eq_true rfl, Nat.le_of_ble_eq_true rfl⟩ rfl rfl rfl (Nat.le_of_ble_eq_true rfl) dX11_tip_1 ⟨Nat.le_of_ble_eq_true rfl, Nat.le_of_ble_eq_true rfl⟩)
  refine rC_xSv (q := 4) E (fun _ => c11_needRepository E.2.1 E.1.2.2.1 e1) gX11_143 hX11_needRepository ⟨rfl, rfl⟩ ⟨Nat.le_of_ble_eq_true rfl, Nat.le_of_ble_eq_true rfl⟩ ⟨Nat.le_of_ble_eq_true rfl, Nat.le_of_ble_eq_true rfl⟩ rfl rfl rfl (Nat.le_of_ble_eq_true rfl) dX11_tip_1 rfl ?_
  refine rv_aload_n (q := 5) E.1.x dX11_tip_4 rfl rfl ?_
  refine rC_getX11 (q := 8) E.1 0 0 wfX11_10 rfl (Nat.le_of_ble_eq_true rfl) ⟨rfl, rfl⟩ rfl dX11_tip_5 rfl ?_
  refine rv_iload_n (q := 9) E.1.x dX11_tip_8 rfl rfl ?_
  refine rv_b1 (fun r6 e5 => ?_)
  refine rC_calliX9 (q := 12) E.1 ⟨rfl, rfl⟩ (c9_tipOf E.1.2.2.1 e5) gX11_146 hX9_tipOf ⟨rfl, rfl⟩ ⟨Nat.le_of_ble_eq_true rfl, Nat.le_of_ble_eq_true rfl⟩ ⟨Nat.le_of_ble_eq_true rfl, Nat.le_of_ble_eq_true rfl⟩ rfl rfl rfl (Nat.le_of_ble_eq_true rfl) dX11_tip_9 rfl ?_
  exact rv_tr (fun _ => trivial)
theorem c11_tip_x {l : Launch} {D : va_G} {cI cZ cO : ClassId} {ad : Nat → Nat} {gh : rC_gh} {de : Nat} (hfl : l.stackTraces = false) (hI : rC_I ad gh) {sz : Nat} {M : rv_Mem} {a1 : Int32} {x : Nat} (h : f11_tip gh M a1 = some (.inr x)) : vx_Met l yX11_tip (rv_ws yX11_tip cX11_tip 2 (some .int)) rmx11_tip (rC_Px D cI cZ cO ad gh de sz [.ref (ad 0), .int a1] M) (rC_fi (rC_A ad gh sz)) (rC_xc D cI cZ cO ad gh de (rC_A ad gh sz) x M) 1 6 (rC_A ad gh sz) := rC_xmet (Qc := fun A => rC_fi A) (XC := fun A => rC_xc D cI cZ cO ad gh de A x M) hfl hI rfl (by decide) (Nat.le_of_ble_eq_true rfl) (fun p e s m args below meth c E => ⟨(qy11_tip D cI cZ cO ad gh de below args s M), rfl, bx11_tip E M a1⟩) h
abbrev rm11_namedAfter : Room := { frames := 7, cells := 0, slots := 0, locals := 121 }
def qx11_namedAfter (D : va_G) (cI cZ cO : ClassId) (ad : Nat → Nat) (gh : rC_gh) (de : Nat) (below : List Frame) (args : Array Value) (s : State) (M : rv_Mem) : Int32 ⊕ Nat → State → Prop := fun r => match r with
  | .inl r => vx_MQ below (rC_qi D cI cZ cO ad gh de (rC_A ad gh s.heap.size) r M) (rC_fx (rC_A ad gh s.heap.size)) args s 0 0 (rC_A ad gh s.heap.size)
  | .inr _ => fun _ => True
set_option maxRecDepth 100000 in
theorem b11_namedAfter {p : Program} {l : Launch} {e : Env} {s : State} {m : MethodId} {args : Array Value} {below : List Frame} {meth : Method} {c : Code} {D : va_G} {cI cZ cO : ClassId} {ad : Nat → Nat} {gh : rC_gh} {de : Nat} (E : rC_X D cI cZ cO ad gh RX11 cX11_namedAfter 2 (some .int) p l s m args meth c) (M : rv_Mem) (a1 : Int32) : rv_M (rC_G D cI cZ cO ad gh de) (rC_A ad gh s.heap.size) p l e rm11_namedAfter s m args below meth c 0 0 (qx11_namedAfter D cI cZ cO ad gh de below args s M) (f11_namedAfter gh M a1) 0 [some (.ref (ad 0)), some (.int a1)] [] M := by
  unfold f11_namedAfter
  refine rv_aload_n (q := 1) E.1.x dX11_namedAfter_0 rfl rfl ?_
  refine rv_iload_n (q := 2) E.1.x dX11_namedAfter_1 rfl rfl ?_
  refine rv_x1r (fun r2 e1 => ?_) (fun w3 e4 => rv_tr (fun _ => trivial))
  refine rC_xVvX11 (q := 5) E ⟨rfl, rfl⟩ (fun _ => c11_needCommit E.2.1 E.1.2.2.1 e1) gX11_79 hX11_needCommit ⟨rfl, rfl⟩ ⟨Nat.le_of_ble_eq_true rfl, Nat.le_of_ble_eq_true rfl⟩ ⟨Nat.le_of_ble_eq_true rfl, Nat.le_of_ble_eq_true rfl⟩ rfl rfl rfl (Nat.le_of_ble_eq_true rfl) dX11_namedAfter_2 rfl ?_
  refine rv_aload_n (q := 6) E.1.x dX11_namedAfter_5 rfl rfl ?_
  refine rC_getX11 (q := 9) E.1 0 0 wfX11_10 rfl (Nat.le_of_ble_eq_true rfl) ⟨rfl, rfl⟩ rfl dX11_namedAfter_6 rfl ?_
  refine rv_iload_n (q := 10) E.1.x dX11_namedAfter_9 rfl rfl ?_
  refine rv_b1 (fun r6 e5 => ?_)
  refine rC_calliX9 (q := 13) E.1 ⟨rfl, rfl⟩ (c9_nameOf E.1.2.2.1 e5) gX11_149 hX9_nameOf ⟨rfl, rfl⟩ ⟨Nat.le_of_ble_eq_true rfl, Nat.le_of_ble_eq_true rfl⟩ ⟨Nat.le_of_ble_eq_true rfl, Nat.le_of_ble_eq_true rfl⟩ rfl rfl rfl (Nat.le_of_ble_eq_true rfl) dX11_namedAfter_10 rfl ?_
  exact rC_xiret E rfl ⟨Nat.le_of_ble_eq_true rfl, Nat.le_of_ble_eq_true rfl⟩ dX11_namedAfter_13
theorem c11_namedAfter {l : Launch} {D : va_G} {cI cZ cO : ClassId} {ad : Nat → Nat} {gh : rC_gh} {de : Nat} (hfl : l.stackTraces = false) (hI : rC_I ad gh) {sz : Nat} {M : rv_Mem} {a1 : Int32} {r : Int32} (h : f11_namedAfter gh M a1 = some (.inl r)) : vx_Met l yX11_namedAfter (rv_ws yX11_namedAfter cX11_namedAfter 2 (some .int)) rm11_namedAfter (rC_Px D cI cZ cO ad gh de sz [.ref (ad 0), .int a1] M) (rC_qi D cI cZ cO ad gh de (rC_A ad gh sz) r M) (rC_fx (rC_A ad gh sz)) 0 0 (rC_A ad gh sz) := rC_xmet (Qc := fun A => rC_qi D cI cZ cO ad gh de A r M) (XC := fun A => rC_fx A) hfl hI rfl (by decide) (Nat.le_of_ble_eq_true rfl) (fun p e s m args below meth c E => ⟨(qx11_namedAfter D cI cZ cO ad gh de below args s M), rfl, b11_namedAfter E M a1⟩) h
abbrev rmx11_namedAfter : Room := { frames := 7, cells := 1, slots := 6, locals := 121 }
def qy11_namedAfter (D : va_G) (cI cZ cO : ClassId) (ad : Nat → Nat) (gh : rC_gh) (de : Nat) (below : List Frame) (args : Array Value) (s : State) (M : rv_Mem) : Int32 ⊕ Nat → State → Prop := fun r => match r with
  | .inl _ => fun _ => True
  | .inr r => vx_MQ below (rC_fi (rC_A ad gh s.heap.size)) (rC_xc D cI cZ cO ad gh de (rC_A ad gh s.heap.size) r M) args s 1 6 (rC_A ad gh s.heap.size)
set_option maxRecDepth 100000 in
theorem bx11_namedAfter {p : Program} {l : Launch} {e : Env} {s : State} {m : MethodId} {args : Array Value} {below : List Frame} {meth : Method} {c : Code} {D : va_G} {cI cZ cO : ClassId} {ad : Nat → Nat} {gh : rC_gh} {de : Nat} (E : rC_X D cI cZ cO ad gh RX11 cX11_namedAfter 2 (some .int) p l s m args meth c) (M : rv_Mem) (a1 : Int32) : rv_M (rC_G D cI cZ cO ad gh de) (rC_A ad gh s.heap.size) p l e rmx11_namedAfter s m args below meth c 0 0 (qy11_namedAfter D cI cZ cO ad gh de below args s M) (f11_namedAfter gh M a1) 0 [some (.ref (ad 0)), some (.int a1)] [] M := by
  unfold f11_namedAfter
  refine rv_aload_n (q := 1) E.1.x dX11_namedAfter_0 rfl rfl ?_
  refine rv_iload_n (q := 2) E.1.x dX11_namedAfter_1 rfl rfl ?_
  refine rv_x1r (fun r2 e1 => ?_) (fun w3 e4 => rC_yVvX11 E ⟨rfl, rfl⟩ (fun _ => c11_needCommit_x E.2.1 E.1.2.2.1 e4) rfl gX11_79 hX11_needCommit ⟨rfl, rfl⟩ ⟨Nat.le_of_ble_eq_true rfl, Nat.le_of_ble_eq_true rfl⟩ ⟨Nat.le_of_ble_eq_true rfl, Nat.le_of_ble_eq_true rfl⟩ rfl rfl rfl (Nat.le_of_ble_eq_true rfl) dX11_namedAfter_2 ⟨Nat.le_of_ble_eq_true rfl, Nat.le_of_ble_eq_true rfl⟩)
  refine rC_xVvX11 (q := 5) E ⟨rfl, rfl⟩ (fun _ => c11_needCommit E.2.1 E.1.2.2.1 e1) gX11_79 hX11_needCommit ⟨rfl, rfl⟩ ⟨Nat.le_of_ble_eq_true rfl, Nat.le_of_ble_eq_true rfl⟩ ⟨Nat.le_of_ble_eq_true rfl, Nat.le_of_ble_eq_true rfl⟩ rfl rfl rfl (Nat.le_of_ble_eq_true rfl) dX11_namedAfter_2 rfl ?_
  refine rv_aload_n (q := 6) E.1.x dX11_namedAfter_5 rfl rfl ?_
  refine rC_getX11 (q := 9) E.1 0 0 wfX11_10 rfl (Nat.le_of_ble_eq_true rfl) ⟨rfl, rfl⟩ rfl dX11_namedAfter_6 rfl ?_
  refine rv_iload_n (q := 10) E.1.x dX11_namedAfter_9 rfl rfl ?_
  refine rv_b1 (fun r6 e5 => ?_)
  refine rC_calliX9 (q := 13) E.1 ⟨rfl, rfl⟩ (c9_nameOf E.1.2.2.1 e5) gX11_149 hX9_nameOf ⟨rfl, rfl⟩ ⟨Nat.le_of_ble_eq_true rfl, Nat.le_of_ble_eq_true rfl⟩ ⟨Nat.le_of_ble_eq_true rfl, Nat.le_of_ble_eq_true rfl⟩ rfl rfl rfl (Nat.le_of_ble_eq_true rfl) dX11_namedAfter_10 rfl ?_
  exact rv_tr (fun _ => trivial)
theorem c11_namedAfter_x {l : Launch} {D : va_G} {cI cZ cO : ClassId} {ad : Nat → Nat} {gh : rC_gh} {de : Nat} (hfl : l.stackTraces = false) (hI : rC_I ad gh) {sz : Nat} {M : rv_Mem} {a1 : Int32} {x : Nat} (h : f11_namedAfter gh M a1 = some (.inr x)) : vx_Met l yX11_namedAfter (rv_ws yX11_namedAfter cX11_namedAfter 2 (some .int)) rmx11_namedAfter (rC_Px D cI cZ cO ad gh de sz [.ref (ad 0), .int a1] M) (rC_fi (rC_A ad gh sz)) (rC_xc D cI cZ cO ad gh de (rC_A ad gh sz) x M) 1 6 (rC_A ad gh sz) := rC_xmet (Qc := fun A => rC_fi A) (XC := fun A => rC_xc D cI cZ cO ad gh de A x M) hfl hI rfl (by decide) (Nat.le_of_ble_eq_true rfl) (fun p e s m args below meth c E => ⟨(qy11_namedAfter D cI cZ cO ad gh de below args s M), rfl, bx11_namedAfter E M a1⟩) h
abbrev rm11_needPerson : Room := { frames := 6, cells := 0, slots := 0, locals := 100 }
def qx11_needPerson (D : va_G) (cI cZ cO : ClassId) (ad : Nat → Nat) (gh : rC_gh) (de : Nat) (below : List Frame) (args : Array Value) (s : State) (M : rv_Mem) : Unit ⊕ Nat → State → Prop := fun r => match r with
  | .inl r => vx_MQ below (rC_qv D cI cZ cO ad gh de (rC_A ad gh s.heap.size) M) (rC_fx (rC_A ad gh s.heap.size)) args s 0 0 (rC_A ad gh s.heap.size)
  | .inr _ => fun _ => True
set_option maxRecDepth 100000 in
theorem b11_needPerson {p : Program} {l : Launch} {e : Env} {s : State} {m : MethodId} {args : Array Value} {below : List Frame} {meth : Method} {c : Code} {D : va_G} {cI cZ cO : ClassId} {ad : Nat → Nat} {gh : rC_gh} {de : Nat} (E : rC_X D cI cZ cO ad gh RX11 cX11_needPerson 1 none p l s m args meth c) (M : rv_Mem) (a1 : Int32) : rv_M (rC_G D cI cZ cO ad gh de) (rC_A ad gh s.heap.size) p l e rm11_needPerson s m args below meth c 0 0 (qx11_needPerson D cI cZ cO ad gh de below args s M) (f11_needPerson gh M a1) 0 [some (.int a1)] [] M := by
  unfold f11_needPerson
  refine rv_iload_n (q := 1) E.1.x dX11_needPerson_0 rfl rfl ?_
  refine rv_if_lt (q := 4) (tgt := 10) E.1.x dX11_needPerson_1 (by decide) rfl ?_ ?_
  · refine rv_iload_n (q := 5) E.1.x dX11_needPerson_4 rfl rfl ?_
    refine rv_bipush (q := 7) E.1.x dX11_needPerson_5 rv_kb6 rfl ?_
    refine rv_icmp_lt (q := 10) (tgt := 21) E.1.x dX11_needPerson_7 (by decide) rfl ?_ ?_
    · exact rv_tr (fun _ => trivial)
    · exact rC_xvret E rfl ⟨Nat.le_of_ble_eq_true rfl, Nat.le_of_ble_eq_true rfl⟩ dX11_needPerson_21
  · exact rv_tr (fun _ => trivial)
theorem c11_needPerson {l : Launch} {D : va_G} {cI cZ cO : ClassId} {ad : Nat → Nat} {gh : rC_gh} {de : Nat} (hfl : l.stackTraces = false) (hI : rC_I ad gh) {sz : Nat} {M : rv_Mem} {a1 : Int32} {r : Unit} (h : f11_needPerson gh M a1 = some (.inl r)) : vx_Met l yX11_needPerson (rv_ws yX11_needPerson cX11_needPerson 1 none) rm11_needPerson (rC_Px D cI cZ cO ad gh de sz [.int a1] M) (rC_qv D cI cZ cO ad gh de (rC_A ad gh sz) M) (rC_fx (rC_A ad gh sz)) 0 0 (rC_A ad gh sz) := rC_xmet (Qc := fun A => rC_qv D cI cZ cO ad gh de A M) (XC := fun A => rC_fx A) hfl hI rfl (by decide) (Nat.le_of_ble_eq_true rfl) (fun p e s m args below meth c E => ⟨(qx11_needPerson D cI cZ cO ad gh de below args s M), rfl, b11_needPerson E M a1⟩) h
abbrev rmx11_needPerson : Room := { frames := 6, cells := 1, slots := 6, locals := 100 }
def qy11_needPerson (D : va_G) (cI cZ cO : ClassId) (ad : Nat → Nat) (gh : rC_gh) (de : Nat) (below : List Frame) (args : Array Value) (s : State) (M : rv_Mem) : Unit ⊕ Nat → State → Prop := fun r => match r with
  | .inl _ => fun _ => True
  | .inr r => vx_MQ below (rC_fvv (rC_A ad gh s.heap.size)) (rC_xc D cI cZ cO ad gh de (rC_A ad gh s.heap.size) r M) args s 1 6 (rC_A ad gh s.heap.size)
set_option maxRecDepth 100000 in
theorem bx11_needPerson {p : Program} {l : Launch} {e : Env} {s : State} {m : MethodId} {args : Array Value} {below : List Frame} {meth : Method} {c : Code} {D : va_G} {cI cZ cO : ClassId} {ad : Nat → Nat} {gh : rC_gh} {de : Nat} (E : rC_X D cI cZ cO ad gh RX11 cX11_needPerson 1 none p l s m args meth c) (M : rv_Mem) (a1 : Int32) : rv_M (rC_G D cI cZ cO ad gh de) (rC_A ad gh s.heap.size) p l e rmx11_needPerson s m args below meth c 0 0 (qy11_needPerson D cI cZ cO ad gh de below args s M) (f11_needPerson gh M a1) 0 [some (.int a1)] [] M := by
  unfold f11_needPerson
  refine rv_iload_n (q := 1) E.1.x dX11_needPerson_0 rfl rfl ?_
  refine rv_if_lt (q := 4) (tgt := 10) E.1.x dX11_needPerson_1 (by decide) rfl ?_ ?_
  · refine rv_iload_n (q := 5) E.1.x dX11_needPerson_4 rfl rfl ?_
    refine rv_bipush (q := 7) E.1.x dX11_needPerson_5 rv_kb6 rfl ?_
    refine rv_icmp_lt (q := 10) (tgt := 21) E.1.x dX11_needPerson_7 (by decide) rfl ?_ ?_
    · exact rC_throwW (x := 1) E rfl (by decide +kernel) rC_xk1 rC_xi1 rC_xg1 rC_xn1 rC_xo1 E.2.2.2.2.2.2.1 (is := 485) (text := "no such person") (by decide +kernel) rfl rfl dX11_needPerson_10 dX11_needPerson_13 dX11_needPerson_14 dX11_needPerson_17 dX11_needPerson_20 (Nat.le_of_ble_eq_true rfl) (Nat.le_of_ble_eq_true rfl) ⟨Nat.le_of_ble_eq_true rfl, Nat.le_of_ble_eq_true rfl⟩ ⟨Nat.le_of_ble_eq_true rfl, Nat.le_of_ble_eq_true rfl⟩
    · exact rv_tr (fun _ => trivial)
  · exact rC_throwW (x := 1) E rfl (by decide +kernel) rC_xk1 rC_xi1 rC_xg1 rC_xn1 rC_xo1 E.2.2.2.2.2.2.1 (is := 485) (text := "no such person") (by decide +kernel) rfl rfl dX11_needPerson_10 dX11_needPerson_13 dX11_needPerson_14 dX11_needPerson_17 dX11_needPerson_20 (Nat.le_of_ble_eq_true rfl) (Nat.le_of_ble_eq_true rfl) ⟨Nat.le_of_ble_eq_true rfl, Nat.le_of_ble_eq_true rfl⟩ ⟨Nat.le_of_ble_eq_true rfl, Nat.le_of_ble_eq_true rfl⟩
theorem c11_needPerson_x {l : Launch} {D : va_G} {cI cZ cO : ClassId} {ad : Nat → Nat} {gh : rC_gh} {de : Nat} (hfl : l.stackTraces = false) (hI : rC_I ad gh) {sz : Nat} {M : rv_Mem} {a1 : Int32} {x : Nat} (h : f11_needPerson gh M a1 = some (.inr x)) : vx_Met l yX11_needPerson (rv_ws yX11_needPerson cX11_needPerson 1 none) rmx11_needPerson (rC_Px D cI cZ cO ad gh de sz [.int a1] M) (rC_fvv (rC_A ad gh sz)) (rC_xc D cI cZ cO ad gh de (rC_A ad gh sz) x M) 1 6 (rC_A ad gh sz) := rC_xmet (Qc := fun A => rC_fvv A) (XC := fun A => rC_xc D cI cZ cO ad gh de A x M) hfl hI rfl (by decide) (Nat.le_of_ble_eq_true rfl) (fun p e s m args below meth c E => ⟨(qy11_needPerson D cI cZ cO ad gh de below args s M), rfl, bx11_needPerson E M a1⟩) h
abbrev rm11_needSeen : Room := { frames := 6, cells := 0, slots := 0, locals := 100 }
def qx11_needSeen (D : va_G) (cI cZ cO : ClassId) (ad : Nat → Nat) (gh : rC_gh) (de : Nat) (below : List Frame) (args : Array Value) (s : State) (M : rv_Mem) : Unit ⊕ Nat → State → Prop := fun r => match r with
  | .inl r => vx_MQ below (rC_qv D cI cZ cO ad gh de (rC_A ad gh s.heap.size) M) (rC_fx (rC_A ad gh s.heap.size)) args s 0 0 (rC_A ad gh s.heap.size)
  | .inr _ => fun _ => True
set_option maxRecDepth 100000 in
theorem b11_needSeen {p : Program} {l : Launch} {e : Env} {s : State} {m : MethodId} {args : Array Value} {below : List Frame} {meth : Method} {c : Code} {D : va_G} {cI cZ cO : ClassId} {ad : Nat → Nat} {gh : rC_gh} {de : Nat} (E : rC_X D cI cZ cO ad gh RX11 cX11_needSeen 2 none p l s m args meth c) (M : rv_Mem) (a1 : Int32) (a2 : Nat) : rv_M (rC_G D cI cZ cO ad gh de) (rC_A ad gh s.heap.size) p l e rm11_needSeen s m args below meth c 0 0 (qx11_needSeen D cI cZ cO ad gh de below args s M) (f11_needSeen gh M a1 a2) 0 [some (.int a1), some (.ref (ad a2))] [] M := by
  unfold f11_needSeen
  refine rv_aload_n (q := 1) E.1.x dX11_needSeen_0 rfl rfl ?_
  refine rv_g (fun g1 => ?_)
  refine rC_getX0 (q := 4) E.1 a2 7 wfX11_247 rfl (Nat.le_of_ble_eq_true rfl) (rC_at_of g1) rfl dX11_needSeen_1 rfl ?_
  refine rv_ifz_eq (q := 7) (tgt := 37) E.1.x dX11_needSeen_4 (by decide) rfl ?_ ?_
  · refine rv_aload_n (q := 8) E.1.x dX11_needSeen_7 rfl rfl ?_
    refine rC_getX0 (q := 11) E.1 a2 1 wfX11_473 rfl (Nat.le_of_ble_eq_true rfl) (rC_at_of g1) rfl dX11_needSeen_8 rfl ?_
    refine rv_iload_n (q := 12) E.1.x dX11_needSeen_11 rfl rfl ?_
    refine rv_icmp_eq (q := 15) (tgt := 37) E.1.x dX11_needSeen_12 (by decide) rfl ?_ ?_
    · refine rv_aload_n (q := 16) E.1.x dX11_needSeen_15 rfl rfl ?_
      refine rC_getX0 (q := 19) E.1 a2 9 wfX11_253 rfl (Nat.le_of_ble_eq_true rfl) (rC_at_of g1) rfl dX11_needSeen_16 rfl ?_
      refine rv_iload_n (q := 20) E.1.x dX11_needSeen_19 rfl rfl ?_
      refine rv_b1 (fun r3 e2 => ?_)
      refine rC_calls (q := 23) E.1 (c11_isIn e2) gX11_463 hX11_isIn ⟨rfl, rfl⟩ ⟨Nat.le_of_ble_eq_true rfl, Nat.le_of_ble_eq_true rfl⟩ ⟨Nat.le_of_ble_eq_true rfl, Nat.le_of_ble_eq_true rfl⟩ rfl rfl rfl (Nat.le_of_ble_eq_true rfl) dX11_needSeen_20 rfl ?_
      refine rv_ifz_ne (q := 26) (tgt := 37) E.1.x dX11_needSeen_23 (by decide) rfl ?_ ?_
      · exact rv_tr (fun _ => trivial)
      · exact rC_xvret E rfl ⟨Nat.le_of_ble_eq_true rfl, Nat.le_of_ble_eq_true rfl⟩ dX11_needSeen_37
    · exact rC_xvret E rfl ⟨Nat.le_of_ble_eq_true rfl, Nat.le_of_ble_eq_true rfl⟩ dX11_needSeen_37
  · exact rC_xvret E rfl ⟨Nat.le_of_ble_eq_true rfl, Nat.le_of_ble_eq_true rfl⟩ dX11_needSeen_37
theorem c11_needSeen {l : Launch} {D : va_G} {cI cZ cO : ClassId} {ad : Nat → Nat} {gh : rC_gh} {de : Nat} (hfl : l.stackTraces = false) (hI : rC_I ad gh) {sz : Nat} {M : rv_Mem} {a1 : Int32} {a2 : Nat} {r : Unit} (h : f11_needSeen gh M a1 a2 = some (.inl r)) : vx_Met l yX11_needSeen (rv_ws yX11_needSeen cX11_needSeen 2 none) rm11_needSeen (rC_Px D cI cZ cO ad gh de sz [.int a1, .ref (ad a2)] M) (rC_qv D cI cZ cO ad gh de (rC_A ad gh sz) M) (rC_fx (rC_A ad gh sz)) 0 0 (rC_A ad gh sz) := rC_xmet (Qc := fun A => rC_qv D cI cZ cO ad gh de A M) (XC := fun A => rC_fx A) hfl hI rfl (by decide) (Nat.le_of_ble_eq_true rfl) (fun p e s m args below meth c E => ⟨(qx11_needSeen D cI cZ cO ad gh de below args s M), rfl, b11_needSeen E M a1 a2⟩) h
abbrev rmx11_needSeen : Room := { frames := 6, cells := 1, slots := 6, locals := 100 }
def qy11_needSeen (D : va_G) (cI cZ cO : ClassId) (ad : Nat → Nat) (gh : rC_gh) (de : Nat) (below : List Frame) (args : Array Value) (s : State) (M : rv_Mem) : Unit ⊕ Nat → State → Prop := fun r => match r with
  | .inl _ => fun _ => True
  | .inr r => vx_MQ below (rC_fvv (rC_A ad gh s.heap.size)) (rC_xc D cI cZ cO ad gh de (rC_A ad gh s.heap.size) r M) args s 1 6 (rC_A ad gh s.heap.size)
set_option maxRecDepth 100000 in
theorem bx11_needSeen {p : Program} {l : Launch} {e : Env} {s : State} {m : MethodId} {args : Array Value} {below : List Frame} {meth : Method} {c : Code} {D : va_G} {cI cZ cO : ClassId} {ad : Nat → Nat} {gh : rC_gh} {de : Nat} (E : rC_X D cI cZ cO ad gh RX11 cX11_needSeen 2 none p l s m args meth c) (M : rv_Mem) (a1 : Int32) (a2 : Nat) : rv_M (rC_G D cI cZ cO ad gh de) (rC_A ad gh s.heap.size) p l e rmx11_needSeen s m args below meth c 0 0 (qy11_needSeen D cI cZ cO ad gh de below args s M) (f11_needSeen gh M a1 a2) 0 [some (.int a1), some (.ref (ad a2))] [] M := by
  unfold f11_needSeen
  refine rv_aload_n (q := 1) E.1.x dX11_needSeen_0 rfl rfl ?_
  refine rv_g (fun g1 => ?_)
  refine rC_getX0 (q := 4) E.1 a2 7 wfX11_247 rfl (Nat.le_of_ble_eq_true rfl) (rC_at_of g1) rfl dX11_needSeen_1 rfl ?_
  refine rv_ifz_eq (q := 7) (tgt := 37) E.1.x dX11_needSeen_4 (by decide) rfl ?_ ?_
  · refine rv_aload_n (q := 8) E.1.x dX11_needSeen_7 rfl rfl ?_
    refine rC_getX0 (q := 11) E.1 a2 1 wfX11_473 rfl (Nat.le_of_ble_eq_true rfl) (rC_at_of g1) rfl dX11_needSeen_8 rfl ?_
    refine rv_iload_n (q := 12) E.1.x dX11_needSeen_11 rfl rfl ?_
    refine rv_icmp_eq (q := 15) (tgt := 37) E.1.x dX11_needSeen_12 (by decide) rfl ?_ ?_
    · refine rv_aload_n (q := 16) E.1.x dX11_needSeen_15 rfl rfl ?_
      refine rC_getX0 (q := 19) E.1 a2 9 wfX11_253 rfl (Nat.le_of_ble_eq_true rfl) (rC_at_of g1) rfl dX11_needSeen_16 rfl ?_
      refine rv_iload_n (q := 20) E.1.x dX11_needSeen_19 rfl rfl ?_
      refine rv_b1 (fun r3 e2 => ?_)
      refine rC_calls (q := 23) E.1 (c11_isIn e2) gX11_463 hX11_isIn ⟨rfl, rfl⟩ ⟨Nat.le_of_ble_eq_true rfl, Nat.le_of_ble_eq_true rfl⟩ ⟨Nat.le_of_ble_eq_true rfl, Nat.le_of_ble_eq_true rfl⟩ rfl rfl rfl (Nat.le_of_ble_eq_true rfl) dX11_needSeen_20 rfl ?_
      refine rv_ifz_ne (q := 26) (tgt := 37) E.1.x dX11_needSeen_23 (by decide) rfl ?_ ?_
      · exact rC_throwW (x := 3) E rfl (by decide +kernel) rC_xk3 rC_xi3 rC_xg3 rC_xn3 rC_xo3 E.2.2.2.2.2.2.2.2.1 (is := 501) (text := "the person cannot see the change") (by decide +kernel) rfl rfl dX11_needSeen_26 dX11_needSeen_29 dX11_needSeen_30 dX11_needSeen_33 dX11_needSeen_36 (Nat.le_of_ble_eq_true rfl) (Nat.le_of_ble_eq_true rfl) ⟨Nat.le_of_ble_eq_true rfl, Nat.le_of_ble_eq_true rfl⟩ ⟨Nat.le_of_ble_eq_true rfl, Nat.le_of_ble_eq_true rfl⟩
      · exact rv_tr (fun _ => trivial)
    · exact rv_tr (fun _ => trivial)
  · exact rv_tr (fun _ => trivial)
theorem c11_needSeen_x {l : Launch} {D : va_G} {cI cZ cO : ClassId} {ad : Nat → Nat} {gh : rC_gh} {de : Nat} (hfl : l.stackTraces = false) (hI : rC_I ad gh) {sz : Nat} {M : rv_Mem} {a1 : Int32} {a2 : Nat} {x : Nat} (h : f11_needSeen gh M a1 a2 = some (.inr x)) : vx_Met l yX11_needSeen (rv_ws yX11_needSeen cX11_needSeen 2 none) rmx11_needSeen (rC_Px D cI cZ cO ad gh de sz [.int a1, .ref (ad a2)] M) (rC_fvv (rC_A ad gh sz)) (rC_xc D cI cZ cO ad gh de (rC_A ad gh sz) x M) 1 6 (rC_A ad gh sz) := rC_xmet (Qc := fun A => rC_fvv A) (XC := fun A => rC_xc D cI cZ cO ad gh de A x M) hfl hI rfl (by decide) (Nat.le_of_ble_eq_true rfl) (fun p e s m args below meth c E => ⟨(qy11_needSeen D cI cZ cO ad gh de below args s M), rfl, bx11_needSeen E M a1 a2⟩) h
abbrev rm11_needOpenAndSeen : Room := { frames := 7, cells := 0, slots := 0, locals := 121 }
def qx11_needOpenAndSeen (D : va_G) (cI cZ cO : ClassId) (ad : Nat → Nat) (gh : rC_gh) (de : Nat) (below : List Frame) (args : Array Value) (s : State) (M : rv_Mem) : Unit ⊕ Nat → State → Prop := fun r => match r with
  | .inl r => vx_MQ below (rC_qv D cI cZ cO ad gh de (rC_A ad gh s.heap.size) M) (rC_fx (rC_A ad gh s.heap.size)) args s 0 0 (rC_A ad gh s.heap.size)
  | .inr _ => fun _ => True
set_option maxRecDepth 100000 in
theorem b11_needOpenAndSeen {p : Program} {l : Launch} {e : Env} {s : State} {m : MethodId} {args : Array Value} {below : List Frame} {meth : Method} {c : Code} {D : va_G} {cI cZ cO : ClassId} {ad : Nat → Nat} {gh : rC_gh} {de : Nat} (E : rC_X D cI cZ cO ad gh RX11 cX11_needOpenAndSeen 2 none p l s m args meth c) (M : rv_Mem) (a1 : Int32) (a2 : Nat) : rv_M (rC_G D cI cZ cO ad gh de) (rC_A ad gh s.heap.size) p l e rm11_needOpenAndSeen s m args below meth c 0 0 (qx11_needOpenAndSeen D cI cZ cO ad gh de below args s M) (f11_needOpenAndSeen gh M a1 a2) 0 [some (.int a1), some (.ref (ad a2))] [] M := by
  unfold f11_needOpenAndSeen
  refine rv_aload_n (q := 1) E.1.x dX11_needOpenAndSeen_0 rfl rfl ?_
  refine rv_g (fun g1 => ?_)
  refine rC_getX0 (q := 4) E.1 a2 5 wfX11_227 rfl (Nat.le_of_ble_eq_true rfl) (rC_at_of g1) rfl dX11_needOpenAndSeen_1 rfl ?_
  refine rv_if_eq (q := 7) (tgt := 17) E.1.x dX11_needOpenAndSeen_4 (by decide) rfl ?_ ?_
  · exact rv_tr (fun _ => trivial)
  · refine rv_iload_n (q := 18) E.1.x dX11_needOpenAndSeen_17 rfl rfl ?_
    refine rv_aload_n (q := 19) E.1.x dX11_needOpenAndSeen_18 rfl rfl ?_
    refine rv_x1r (fun r3 e2 => ?_) (fun w4 e5 => rv_tr (fun _ => trivial))
    refine rC_xSv (q := 22) E (fun _ => c11_needSeen E.2.1 E.1.2.2.1 e2) gX11_283 hX11_needSeen ⟨rfl, rfl⟩ ⟨Nat.le_of_ble_eq_true rfl, Nat.le_of_ble_eq_true rfl⟩ ⟨Nat.le_of_ble_eq_true rfl, Nat.le_of_ble_eq_true rfl⟩ rfl rfl rfl (Nat.le_of_ble_eq_true rfl) dX11_needOpenAndSeen_19 rfl ?_
    exact rC_xvret E rfl ⟨Nat.le_of_ble_eq_true rfl, Nat.le_of_ble_eq_true rfl⟩ dX11_needOpenAndSeen_22
theorem c11_needOpenAndSeen {l : Launch} {D : va_G} {cI cZ cO : ClassId} {ad : Nat → Nat} {gh : rC_gh} {de : Nat} (hfl : l.stackTraces = false) (hI : rC_I ad gh) {sz : Nat} {M : rv_Mem} {a1 : Int32} {a2 : Nat} {r : Unit} (h : f11_needOpenAndSeen gh M a1 a2 = some (.inl r)) : vx_Met l yX11_needOpenAndSeen (rv_ws yX11_needOpenAndSeen cX11_needOpenAndSeen 2 none) rm11_needOpenAndSeen (rC_Px D cI cZ cO ad gh de sz [.int a1, .ref (ad a2)] M) (rC_qv D cI cZ cO ad gh de (rC_A ad gh sz) M) (rC_fx (rC_A ad gh sz)) 0 0 (rC_A ad gh sz) := rC_xmet (Qc := fun A => rC_qv D cI cZ cO ad gh de A M) (XC := fun A => rC_fx A) hfl hI rfl (by decide) (Nat.le_of_ble_eq_true rfl) (fun p e s m args below meth c E => ⟨(qx11_needOpenAndSeen D cI cZ cO ad gh de below args s M), rfl, b11_needOpenAndSeen E M a1 a2⟩) h
abbrev rmx11_needOpenAndSeen : Room := { frames := 7, cells := 1, slots := 6, locals := 121 }
def qy11_needOpenAndSeen (D : va_G) (cI cZ cO : ClassId) (ad : Nat → Nat) (gh : rC_gh) (de : Nat) (below : List Frame) (args : Array Value) (s : State) (M : rv_Mem) : Unit ⊕ Nat → State → Prop := fun r => match r with
  | .inl _ => fun _ => True
  | .inr r => vx_MQ below (rC_fvv (rC_A ad gh s.heap.size)) (rC_xc D cI cZ cO ad gh de (rC_A ad gh s.heap.size) r M) args s 1 6 (rC_A ad gh s.heap.size)
set_option maxRecDepth 100000 in
theorem bx11_needOpenAndSeen {p : Program} {l : Launch} {e : Env} {s : State} {m : MethodId} {args : Array Value} {below : List Frame} {meth : Method} {c : Code} {D : va_G} {cI cZ cO : ClassId} {ad : Nat → Nat} {gh : rC_gh} {de : Nat} (E : rC_X D cI cZ cO ad gh RX11 cX11_needOpenAndSeen 2 none p l s m args meth c) (M : rv_Mem) (a1 : Int32) (a2 : Nat) : rv_M (rC_G D cI cZ cO ad gh de) (rC_A ad gh s.heap.size) p l e rmx11_needOpenAndSeen s m args below meth c 0 0 (qy11_needOpenAndSeen D cI cZ cO ad gh de below args s M) (f11_needOpenAndSeen gh M a1 a2) 0 [some (.int a1), some (.ref (ad a2))] [] M := by
  unfold f11_needOpenAndSeen
  refine rv_aload_n (q := 1) E.1.x dX11_needOpenAndSeen_0 rfl rfl ?_
  refine rv_g (fun g1 => ?_)
  refine rC_getX0 (q := 4) E.1 a2 5 wfX11_227 rfl (Nat.le_of_ble_eq_true rfl) (rC_at_of g1) rfl dX11_needOpenAndSeen_1 rfl ?_
  refine rv_if_eq (q := 7) (tgt := 17) E.1.x dX11_needOpenAndSeen_4 (by decide) rfl ?_ ?_
  · exact rC_throw (x := 3) E rfl (by decide +kernel) rC_xk3 rC_xi3 rC_xg3 rC_xn3 rC_xo3 E.2.2.2.2.2.2.2.2.1 (is := 241) (text := "the change is not open") (by decide +kernel) rfl rfl dX11_needOpenAndSeen_7 dX11_needOpenAndSeen_10 dX11_needOpenAndSeen_11 dX11_needOpenAndSeen_13 dX11_needOpenAndSeen_16 (Nat.le_of_ble_eq_true rfl) (Nat.le_of_ble_eq_true rfl) ⟨Nat.le_of_ble_eq_true rfl, Nat.le_of_ble_eq_true rfl⟩ ⟨Nat.le_of_ble_eq_true rfl, Nat.le_of_ble_eq_true rfl⟩
  · refine rv_iload_n (q := 18) E.1.x dX11_needOpenAndSeen_17 rfl rfl ?_
    refine rv_aload_n (q := 19) E.1.x dX11_needOpenAndSeen_18 rfl rfl ?_
    refine rv_x1r (fun r3 e2 => ?_) (fun w4 e5 => rC_ySv E (fun _ => c11_needSeen_x E.2.1 E.1.2.2.1 e5) rfl gX11_283 hX11_needSeen ⟨rfl, rfl⟩ ⟨Nat.le_of_ble_eq_true rfl, Nat.le_of_ble_eq_true rfl⟩ ⟨Nat.le_of_ble_eq_true rfl, Nat.le_of_ble_eq_true rfl⟩ rfl rfl rfl (Nat.le_of_ble_eq_true rfl) dX11_needOpenAndSeen_19 ⟨Nat.le_of_ble_eq_true rfl, Nat.le_of_ble_eq_true rfl⟩)
    refine rC_xSv (q := 22) E (fun _ => c11_needSeen E.2.1 E.1.2.2.1 e2) gX11_283 hX11_needSeen ⟨rfl, rfl⟩ ⟨Nat.le_of_ble_eq_true rfl, Nat.le_of_ble_eq_true rfl⟩ ⟨Nat.le_of_ble_eq_true rfl, Nat.le_of_ble_eq_true rfl⟩ rfl rfl rfl (Nat.le_of_ble_eq_true rfl) dX11_needOpenAndSeen_19 rfl ?_
    exact rv_tr (fun _ => trivial)
theorem c11_needOpenAndSeen_x {l : Launch} {D : va_G} {cI cZ cO : ClassId} {ad : Nat → Nat} {gh : rC_gh} {de : Nat} (hfl : l.stackTraces = false) (hI : rC_I ad gh) {sz : Nat} {M : rv_Mem} {a1 : Int32} {a2 : Nat} {x : Nat} (h : f11_needOpenAndSeen gh M a1 a2 = some (.inr x)) : vx_Met l yX11_needOpenAndSeen (rv_ws yX11_needOpenAndSeen cX11_needOpenAndSeen 2 none) rmx11_needOpenAndSeen (rC_Px D cI cZ cO ad gh de sz [.int a1, .ref (ad a2)] M) (rC_fvv (rC_A ad gh sz)) (rC_xc D cI cZ cO ad gh de (rC_A ad gh sz) x M) 1 6 (rC_A ad gh sz) := rC_xmet (Qc := fun A => rC_fvv A) (XC := fun A => rC_xc D cI cZ cO ad gh de A x M) hfl hI rfl (by decide) (Nat.le_of_ble_eq_true rfl) (fun p e s m args below meth c E => ⟨(qy11_needOpenAndSeen D cI cZ cO ad gh de below args s M), rfl, bx11_needOpenAndSeen E M a1 a2⟩) h
abbrev rm11_isAtOrAbove : Room := { frames := 2, cells := 0, slots := 0, locals := 42 }
set_option maxRecDepth 100000 in
theorem b11_isAtOrAbove_5_s {p : Program} {l : Launch} {e : Env} {s : State} {m : MethodId} {args : Array Value} {below : List Frame} {meth : Method} {c : Code} {D : va_G} {cI cZ cO : ClassId} {ad : Nat → Nat} {gh : rC_gh} {de : Nat} (E : rC_E D cI cZ cO ad gh (rC_K ad gh) RX11 cX11_isAtOrAbove 5 (some .boolean) p s m args meth c) (M : rv_Mem)   (k5 : Int32 → Int32 → Int32 → Option (Bool)) (h5 : ∀ (x1 : Int32) (x3 : Int32) (x4 : Int32), rv_M (rC_G D cI cZ cO ad gh de) (rC_K ad gh) p l e rm11_isAtOrAbove s m args below meth c 0 0 (rC_qZ D cI cZ cO ad gh de below args s M) (k5 x1 x3 x4) 5 [some (.ref (ad 0)), some (.int x1), none, some (.int x3), some (.int x4)] [] M) : ∀ (x1 : Int32) (x3 : Int32) (x4 : Int32), rv_M (rC_G D cI cZ cO ad gh de) (rC_K ad gh) p l e rm11_isAtOrAbove s m args below meth c 0 0 (rC_qZ D cI cZ cO ad gh de below args s M) (f11_isAtOrAbove_5_s gh M k5 x1 x3 x4) 5 [some (.ref (ad 0)), some (.int x1), none, some (.int x3), some (.int x4)] [] M := by
  intro x1 x3 x4
  unfold f11_isAtOrAbove_5_s
  refine rv_iload (q := 7) E.x dX11_isAtOrAbove_5 rfl rfl ?_
  refine rv_bipush (q := 9) E.x dX11_isAtOrAbove_7 rv_kb20 rfl ?_
  refine rv_icmp_gt (q := 12) (tgt := 39) E.x dX11_isAtOrAbove_9 (by decide) rfl ?_ ?_
  · refine rv_iload_n (q := 13) E.x dX11_isAtOrAbove_12 rfl rfl ?_
    refine rv_iconst (q := 14) E.x dX11_isAtOrAbove_13 rv_kim1 rfl ?_
    refine rv_icmp_eq (q := 17) (tgt := 39) E.x dX11_isAtOrAbove_14 (by decide) rfl ?_ ?_
    · refine rv_iload_n (q := 18) E.x dX11_isAtOrAbove_17 rfl rfl ?_
      refine rv_iload_n (q := 19) E.x dX11_isAtOrAbove_18 rfl rfl ?_
      refine rv_icmp_ne (q := 22) (tgt := 24) E.x dX11_isAtOrAbove_19 (by decide) rfl ?_ ?_
      · refine rv_iconst (q := 23) E.x dX11_isAtOrAbove_22 rv_ki1 rfl ?_
        exact rC_zret E true rfl dX11_isAtOrAbove_23
      · refine rv_aload_n (q := 25) E.x dX11_isAtOrAbove_24 rfl rfl ?_
        refine rC_getX11 (q := 28) E 0 0 wfX11_10 rfl (Nat.le_of_ble_eq_true rfl) ⟨rfl, rfl⟩ rfl dX11_isAtOrAbove_25 rfl ?_
        refine rv_iload_n (q := 29) E.x dX11_isAtOrAbove_28 rfl rfl ?_
        refine rv_b1 (fun r2 e1 => ?_)
        refine rC_calliX9 (q := 32) E ⟨rfl, rfl⟩ (c9_parentNumber E.2.2.1 e1) gX11_230 hX9_parentNumber ⟨rfl, rfl⟩ ⟨Nat.le_of_ble_eq_true rfl, Nat.le_of_ble_eq_true rfl⟩ ⟨Nat.le_of_ble_eq_true rfl, Nat.le_of_ble_eq_true rfl⟩ rfl rfl rfl (Nat.le_of_ble_eq_true rfl) dX11_isAtOrAbove_29 rfl ?_
        refine rv_istore_n (q := 33) (lv' := [_, _, _, _, _]) E.x dX11_isAtOrAbove_32 (Nat.le_of_ble_eq_true rfl) rfl rfl rfl ?_
        refine rv_iinc (q := 36) (lv' := [_, _, _, _, _]) E.x dX11_isAtOrAbove_33 rv_ki1 rfl rfl rfl rfl ?_
        refine rv_goto (q := 5) E.x dX11_isAtOrAbove_36 (by decide) ?_
        refine rv_wk [true, true, false, true, true] ?_
        exact h5 x1 r2 (x4 + 1)
    · refine rv_iconst (q := 40) E.x dX11_isAtOrAbove_39 rv_ki0 rfl ?_
      exact rC_zret E false rfl dX11_isAtOrAbove_40
  · refine rv_iconst (q := 40) E.x dX11_isAtOrAbove_39 rv_ki0 rfl ?_
    exact rC_zret E false rfl dX11_isAtOrAbove_40
theorem b11_isAtOrAbove_5 {p : Program} {l : Launch} {e : Env} {s : State} {m : MethodId} {args : Array Value} {below : List Frame} {meth : Method} {c : Code} {D : va_G} {cI cZ cO : ClassId} {ad : Nat → Nat} {gh : rC_gh} {de : Nat} (E : rC_E D cI cZ cO ad gh (rC_K ad gh) RX11 cX11_isAtOrAbove 5 (some .boolean) p s m args meth c) (M : rv_Mem)   : ∀ (n : Nat), ∀ (x1 : Int32) (x3 : Int32) (x4 : Int32), rv_M (rC_G D cI cZ cO ad gh de) (rC_K ad gh) p l e rm11_isAtOrAbove s m args below meth c 0 0 (rC_qZ D cI cZ cO ad gh de below args s M) (f11_isAtOrAbove_5 gh M n x1 x3 x4) 5 [some (.ref (ad 0)), some (.int x1), none, some (.int x3), some (.int x4)] [] M := by
  intro n
  induction n with
  | zero => exact fun _ _ _ => rv_stuck
  | succ n ih => exact b11_isAtOrAbove_5_s E M (f11_isAtOrAbove_5 gh M n) ih
set_option maxRecDepth 100000 in
theorem b11_isAtOrAbove {p : Program} {l : Launch} {e : Env} {s : State} {m : MethodId} {args : Array Value} {below : List Frame} {meth : Method} {c : Code} {D : va_G} {cI cZ cO : ClassId} {ad : Nat → Nat} {gh : rC_gh} {de : Nat} (E : rC_E D cI cZ cO ad gh (rC_K ad gh) RX11 cX11_isAtOrAbove 5 (some .boolean) p s m args meth c) (M : rv_Mem) (a1 : Int32) (a2 : Int32) : rv_M (rC_G D cI cZ cO ad gh de) (rC_K ad gh) p l e rm11_isAtOrAbove s m args below meth c 0 0 (rC_qZ D cI cZ cO ad gh de below args s M) (f11_isAtOrAbove gh M a1 a2) 0 [some (.ref (ad 0)), some (.int a1), some (.int a2), none, none] [] M := by
  unfold f11_isAtOrAbove
  refine rv_iload_n (q := 1) E.x dX11_isAtOrAbove_0 rfl rfl ?_
  refine rv_istore_n (q := 2) (lv' := [_, _, _, _, _]) E.x dX11_isAtOrAbove_1 (Nat.le_of_ble_eq_true rfl) rfl rfl rfl ?_
  refine rv_iconst (q := 3) E.x dX11_isAtOrAbove_2 rv_ki0 rfl ?_
  refine rv_istore (q := 5) (lv' := [_, _, _, _, _]) E.x dX11_isAtOrAbove_3 (Nat.le_of_ble_eq_true rfl) rfl rfl rfl ?_
  refine rv_wk [true, true, false, true, true] ?_
  exact b11_isAtOrAbove_5 E M rv_FU a1 a2 0
theorem c11_isAtOrAbove {l : Launch} {D : va_G} {cI cZ cO : ClassId} {ad : Nat → Nat} {gh : rC_gh} {de : Nat} (hI : rC_I ad gh) {M : rv_Mem} {a1 : Int32} {a2 : Int32} {r : Bool} (h : f11_isAtOrAbove gh M a1 a2 = some r) : Met l yX11_isAtOrAbove (rv_ws yX11_isAtOrAbove cX11_isAtOrAbove 5 (some .boolean)) rm11_isAtOrAbove (rC_Pc D cI cZ cO ad gh de [.ref (ad 0), .int a1, .int a2] M) (rC_QI D cI cZ cO ad gh de (rv_i r) M) 0 0 (rC_K ad gh) := rC_met hI rfl (by decide) (Nat.le_of_ble_eq_true rfl) (fun p e s m args below meth c E => ⟨(rC_qZ D cI cZ cO ad gh de below args s M), rfl, b11_isAtOrAbove E M a1 a2⟩) h
abbrev rm11_needRoomForCommit : Room := { frames := 6, cells := 0, slots := 0, locals := 100 }
def qx11_needRoomForCommit (D : va_G) (cI cZ cO : ClassId) (ad : Nat → Nat) (gh : rC_gh) (de : Nat) (below : List Frame) (args : Array Value) (s : State) (M : rv_Mem) : Unit ⊕ Nat → State → Prop := fun r => match r with
  | .inl r => vx_MQ below (rC_qv D cI cZ cO ad gh de (rC_A ad gh s.heap.size) M) (rC_fx (rC_A ad gh s.heap.size)) args s 0 0 (rC_A ad gh s.heap.size)
  | .inr _ => fun _ => True
set_option maxRecDepth 100000 in
theorem b11_needRoomForCommit {p : Program} {l : Launch} {e : Env} {s : State} {m : MethodId} {args : Array Value} {below : List Frame} {meth : Method} {c : Code} {D : va_G} {cI cZ cO : ClassId} {ad : Nat → Nat} {gh : rC_gh} {de : Nat} (E : rC_X D cI cZ cO ad gh RX11 cX11_needRoomForCommit 1 none p l s m args meth c) (M : rv_Mem)  : rv_M (rC_G D cI cZ cO ad gh de) (rC_A ad gh s.heap.size) p l e rm11_needRoomForCommit s m args below meth c 0 0 (qx11_needRoomForCommit D cI cZ cO ad gh de below args s M) (f11_needRoomForCommit gh M) 0 [some (.ref (ad 0))] [] M := by
  unfold f11_needRoomForCommit
  refine rv_aload_n (q := 1) E.1.x dX11_needRoomForCommit_0 rfl rfl ?_
  refine rC_getX11 (q := 4) E.1 0 0 wfX11_10 rfl (Nat.le_of_ble_eq_true rfl) ⟨rfl, rfl⟩ rfl dX11_needRoomForCommit_1 rfl ?_
  refine rv_b1 (fun r2 e1 => ?_)
  refine rC_calliX9 (q := 7) E.1 ⟨rfl, rfl⟩ (c9_isFull E.1.2.2.1 e1) gX11_159 hX9_isFull ⟨rfl, rfl⟩ ⟨Nat.le_of_ble_eq_true rfl, Nat.le_of_ble_eq_true rfl⟩ ⟨Nat.le_of_ble_eq_true rfl, Nat.le_of_ble_eq_true rfl⟩ rfl rfl rfl (Nat.le_of_ble_eq_true rfl) dX11_needRoomForCommit_4 rfl ?_
  refine rv_ifz_eq (q := 10) (tgt := 21) E.1.x dX11_needRoomForCommit_7 (by decide) rfl ?_ ?_
  · exact rv_tr (fun _ => trivial)
  · exact rC_xvret E rfl ⟨Nat.le_of_ble_eq_true rfl, Nat.le_of_ble_eq_true rfl⟩ dX11_needRoomForCommit_21
theorem c11_needRoomForCommit {l : Launch} {D : va_G} {cI cZ cO : ClassId} {ad : Nat → Nat} {gh : rC_gh} {de : Nat} (hfl : l.stackTraces = false) (hI : rC_I ad gh) {sz : Nat} {M : rv_Mem} {r : Unit} (h : f11_needRoomForCommit gh M = some (.inl r)) : vx_Met l yX11_needRoomForCommit (rv_ws yX11_needRoomForCommit cX11_needRoomForCommit 1 none) rm11_needRoomForCommit (rC_Px D cI cZ cO ad gh de sz [.ref (ad 0)] M) (rC_qv D cI cZ cO ad gh de (rC_A ad gh sz) M) (rC_fx (rC_A ad gh sz)) 0 0 (rC_A ad gh sz) := rC_xmet (Qc := fun A => rC_qv D cI cZ cO ad gh de A M) (XC := fun A => rC_fx A) hfl hI rfl (by decide) (Nat.le_of_ble_eq_true rfl) (fun p e s m args below meth c E => ⟨(qx11_needRoomForCommit D cI cZ cO ad gh de below args s M), rfl, b11_needRoomForCommit E M ⟩) h
abbrev rmx11_needRoomForCommit : Room := { frames := 6, cells := 1, slots := 6, locals := 100 }
def qy11_needRoomForCommit (D : va_G) (cI cZ cO : ClassId) (ad : Nat → Nat) (gh : rC_gh) (de : Nat) (below : List Frame) (args : Array Value) (s : State) (M : rv_Mem) : Unit ⊕ Nat → State → Prop := fun r => match r with
  | .inl _ => fun _ => True
  | .inr r => vx_MQ below (rC_fvv (rC_A ad gh s.heap.size)) (rC_xc D cI cZ cO ad gh de (rC_A ad gh s.heap.size) r M) args s 1 6 (rC_A ad gh s.heap.size)
set_option maxRecDepth 100000 in
theorem bx11_needRoomForCommit {p : Program} {l : Launch} {e : Env} {s : State} {m : MethodId} {args : Array Value} {below : List Frame} {meth : Method} {c : Code} {D : va_G} {cI cZ cO : ClassId} {ad : Nat → Nat} {gh : rC_gh} {de : Nat} (E : rC_X D cI cZ cO ad gh RX11 cX11_needRoomForCommit 1 none p l s m args meth c) (M : rv_Mem)  : rv_M (rC_G D cI cZ cO ad gh de) (rC_A ad gh s.heap.size) p l e rmx11_needRoomForCommit s m args below meth c 0 0 (qy11_needRoomForCommit D cI cZ cO ad gh de below args s M) (f11_needRoomForCommit gh M) 0 [some (.ref (ad 0))] [] M := by
  unfold f11_needRoomForCommit
  refine rv_aload_n (q := 1) E.1.x dX11_needRoomForCommit_0 rfl rfl ?_
  refine rC_getX11 (q := 4) E.1 0 0 wfX11_10 rfl (Nat.le_of_ble_eq_true rfl) ⟨rfl, rfl⟩ rfl dX11_needRoomForCommit_1 rfl ?_
  refine rv_b1 (fun r2 e1 => ?_)
  refine rC_calliX9 (q := 7) E.1 ⟨rfl, rfl⟩ (c9_isFull E.1.2.2.1 e1) gX11_159 hX9_isFull ⟨rfl, rfl⟩ ⟨Nat.le_of_ble_eq_true rfl, Nat.le_of_ble_eq_true rfl⟩ ⟨Nat.le_of_ble_eq_true rfl, Nat.le_of_ble_eq_true rfl⟩ rfl rfl rfl (Nat.le_of_ble_eq_true rfl) dX11_needRoomForCommit_4 rfl ?_
  refine rv_ifz_eq (q := 10) (tgt := 21) E.1.x dX11_needRoomForCommit_7 (by decide) rfl ?_ ?_
  · exact rC_throwW (x := 3) E rfl (by decide +kernel) rC_xk3 rC_xi3 rC_xg3 rC_xn3 rC_xo3 E.2.2.2.2.2.2.2.2.1 (is := 503) (text := "no room for a commit") (by decide +kernel) rfl rfl dX11_needRoomForCommit_10 dX11_needRoomForCommit_13 dX11_needRoomForCommit_14 dX11_needRoomForCommit_17 dX11_needRoomForCommit_20 (Nat.le_of_ble_eq_true rfl) (Nat.le_of_ble_eq_true rfl) ⟨Nat.le_of_ble_eq_true rfl, Nat.le_of_ble_eq_true rfl⟩ ⟨Nat.le_of_ble_eq_true rfl, Nat.le_of_ble_eq_true rfl⟩
  · exact rv_tr (fun _ => trivial)
theorem c11_needRoomForCommit_x {l : Launch} {D : va_G} {cI cZ cO : ClassId} {ad : Nat → Nat} {gh : rC_gh} {de : Nat} (hfl : l.stackTraces = false) (hI : rC_I ad gh) {sz : Nat} {M : rv_Mem} {x : Nat} (h : f11_needRoomForCommit gh M = some (.inr x)) : vx_Met l yX11_needRoomForCommit (rv_ws yX11_needRoomForCommit cX11_needRoomForCommit 1 none) rmx11_needRoomForCommit (rC_Px D cI cZ cO ad gh de sz [.ref (ad 0)] M) (rC_fvv (rC_A ad gh sz)) (rC_xc D cI cZ cO ad gh de (rC_A ad gh sz) x M) 1 6 (rC_A ad gh sz) := rC_xmet (Qc := fun A => rC_fvv A) (XC := fun A => rC_xc D cI cZ cO ad gh de A x M) hfl hI rfl (by decide) (Nat.le_of_ble_eq_true rfl) (fun p e s m args below meth c E => ⟨(qy11_needRoomForCommit D cI cZ cO ad gh de below args s M), rfl, bx11_needRoomForCommit E M ⟩) h
abbrev rm11_passTurns : Room := { frames := 4, cells := 0, slots := 0, locals := 95 }
set_option maxRecDepth 100000 in
theorem b11_passTurns {p : Program} {l : Launch} {e : Env} {s : State} {m : MethodId} {args : Array Value} {below : List Frame} {meth : Method} {c : Code} {D : va_G} {cI cZ cO : ClassId} {ad : Nat → Nat} {gh : rC_gh} {de : Nat} (E : rC_E D cI cZ cO ad gh (rC_K ad gh) RX11 cX11_passTurns 4 none p s m args meth c) (M : rv_Mem) (a1 : Int32) (a2 : Nat) (a3 : Bool) : rv_M (rC_G D cI cZ cO ad gh de) (rC_K ad gh) p l e rm11_passTurns s m args below meth c 0 0 (rC_qV D cI cZ cO ad gh de below args s) (f11_passTurns gh M a1 a2 a3) 0 [some (.ref (ad 0)), some (.int a1), some (.ref (ad a2)), some (.int (rv_i a3))] [] M := by
  unfold f11_passTurns
  refine rv_aload_n (q := 1) E.x dX11_passTurns_0 rfl rfl ?_
  refine rv_dup (q := 2) E.x dX11_passTurns_1 rfl rfl ?_
  refine rv_g (fun g1 => ?_)
  refine rC_getX0 (q := 5) E a2 10 wfX11_250 rfl (Nat.le_of_ble_eq_true rfl) (rC_at_of g1) rfl dX11_passTurns_2 rfl ?_
  refine rv_iconst (q := 6) E.x dX11_passTurns_5 rv_ki1 rfl ?_
  refine rv_iload_n (q := 7) E.x dX11_passTurns_6 rfl rfl ?_
  refine rv_ishl (q := 8) E.x dX11_passTurns_7 rfl ?_
  refine rv_iconst (q := 9) E.x dX11_passTurns_8 rv_kim1 rfl ?_
  refine rv_ixor (q := 10) E.x dX11_passTurns_9 rfl ?_
  refine rv_iand (q := 11) E.x dX11_passTurns_10 rfl ?_
  refine rC_putX0 (q := 14) E a2 10 wfX11_250 rfl (Nat.le_of_ble_eq_true rfl) (rC_at_of g1) rfl ⟨rfl, rfl⟩ dX11_passTurns_11 rfl ?_
  refine rv_ltm (fun M2 => ?_)
  refine rv_iload_n (q := 15) E.x dX11_passTurns_14 rfl rfl ?_
  refine rv_aload_n (q := 16) E.x dX11_passTurns_15 rfl rfl ?_
  refine rC_getX0 (q := 19) E a2 1 wfX11_473 rfl (Nat.le_of_ble_eq_true rfl) (rC_at_of g1) rfl dX11_passTurns_16 rfl ?_
  refine rv_icmp_eq (q := 22) (tgt := 35) E.x dX11_passTurns_19 (by decide) rfl ?_ ?_
  · refine rv_aload_n (q := 23) E.x dX11_passTurns_22 rfl rfl ?_
    refine rv_iconst (q := 24) E.x dX11_passTurns_23 rv_ki1 rfl ?_
    refine rv_aload_n (q := 25) E.x dX11_passTurns_24 rfl rfl ?_
    refine rC_getX0 (q := 28) E a2 1 wfX11_473 rfl (Nat.le_of_ble_eq_true rfl) (rC_at_of g1) rfl dX11_passTurns_25 rfl ?_
    refine rv_ishl (q := 29) E.x dX11_passTurns_28 rfl ?_
    refine rv_b1 (fun M4 e3 => ?_)
    refine rC_callvX0 (q := 32) E (rC_at_of g1) (c0_giveTurns E.2.2.1 e3) gX11_478 hX0_giveTurns ⟨rfl, rfl⟩ ⟨Nat.le_of_ble_eq_true rfl, Nat.le_of_ble_eq_true rfl⟩ ⟨Nat.le_of_ble_eq_true rfl, Nat.le_of_ble_eq_true rfl⟩ rfl rfl rfl (Nat.le_of_ble_eq_true rfl) dX11_passTurns_29 rfl ?_
    refine rv_goto (q := 60) E.x dX11_passTurns_32 (by decide) ?_
    exact rC_vret E rfl dX11_passTurns_60
  · refine rv_iload_n (q := 36) E.x dX11_passTurns_35 rfl rfl ?_
    refine rv_ifz_eq (q := 39) (tgt := 60) E.x dX11_passTurns_36 (by decide) rfl ?_ ?_
    · refine rv_aload_n (q := 40) E.x dX11_passTurns_39 rfl rfl ?_
      refine rv_aload_n (q := 41) E.x dX11_passTurns_40 rfl rfl ?_
      refine rC_getX0 (q := 44) E a2 9 wfX11_253 rfl (Nat.le_of_ble_eq_true rfl) (rC_at_of g1) rfl dX11_passTurns_41 rfl ?_
      refine rv_aload_n (q := 45) E.x dX11_passTurns_44 rfl rfl ?_
      refine rC_getX11 (q := 48) E 0 2 wfX11_28 rfl (Nat.le_of_ble_eq_true rfl) ⟨rfl, rfl⟩ rfl dX11_passTurns_45 rfl ?_
      refine rv_aload_n (q := 49) E.x dX11_passTurns_48 rfl rfl ?_
      refine rv_iconst (q := 50) E.x dX11_passTurns_49 rv_ki0 rfl ?_
      refine rv_iconst (q := 51) E.x dX11_passTurns_50 rv_ki2 rfl ?_
      refine rv_b1 (fun r6 e5 => ?_)
      refine rC_calliX10 (q := 54) E ⟨rfl, rfl⟩ (c10_peopleWith E.2.2.1 e5) gX11_528 hX10_peopleWith ⟨rfl, rfl⟩ ⟨Nat.le_of_ble_eq_true rfl, Nat.le_of_ble_eq_true rfl⟩ ⟨Nat.le_of_ble_eq_true rfl, Nat.le_of_ble_eq_true rfl⟩ rfl rfl rfl (Nat.le_of_ble_eq_true rfl) dX11_passTurns_51 rfl ?_
      refine rv_iconst (q := 55) E.x dX11_passTurns_54 rv_kim1 rfl ?_
      refine rv_ixor (q := 56) E.x dX11_passTurns_55 rfl ?_
      refine rv_iand (q := 57) E.x dX11_passTurns_56 rfl ?_
      refine rv_b1 (fun M8 e7 => ?_)
      refine rC_callvX0 (q := 60) E (rC_at_of g1) (c0_giveTurns E.2.2.1 e7) gX11_478 hX0_giveTurns ⟨rfl, rfl⟩ ⟨Nat.le_of_ble_eq_true rfl, Nat.le_of_ble_eq_true rfl⟩ ⟨Nat.le_of_ble_eq_true rfl, Nat.le_of_ble_eq_true rfl⟩ rfl rfl rfl (Nat.le_of_ble_eq_true rfl) dX11_passTurns_57 rfl ?_
      exact rC_vret E rfl dX11_passTurns_60
    · exact rC_vret E rfl dX11_passTurns_60
theorem c11_passTurns {l : Launch} {D : va_G} {cI cZ cO : ClassId} {ad : Nat → Nat} {gh : rC_gh} {de : Nat} (hI : rC_I ad gh) {M : rv_Mem} {a1 : Int32} {a2 : Nat} {a3 : Bool} {M1 : rv_Mem} (h : f11_passTurns gh M a1 a2 a3 = some M1) : Met l yX11_passTurns (rv_ws yX11_passTurns cX11_passTurns 4 none) rm11_passTurns (rC_Pc D cI cZ cO ad gh de [.ref (ad 0), .int a1, .ref (ad a2), .int (rv_i a3)] M) (rC_QV D cI cZ cO ad gh de M1) 0 0 (rC_K ad gh) := rC_met hI rfl (by decide) (Nat.le_of_ble_eq_true rfl) (fun p e s m args below meth c E => ⟨(rC_qV D cI cZ cO ad gh de below args s), rfl, b11_passTurns E M a1 a2 a3⟩) h
abbrev rm11_noteAct : Room := { frames := 1, cells := 0, slots := 0, locals := 21 }
set_option maxRecDepth 100000 in
theorem b11_noteAct_82 {p : Program} {l : Launch} {e : Env} {s : State} {m : MethodId} {args : Array Value} {below : List Frame} {meth : Method} {c : Code} {D : va_G} {cI cZ cO : ClassId} {ad : Nat → Nat} {gh : rC_gh} {de : Nat} (E : rC_E D cI cZ cO ad gh (rC_K ad gh) RX11 cX11_noteAct 5 none p s m args meth c) (k49 : rv_Mem → Int32 → Int32 → Int32 → Option (rv_Mem)) (h49 : ∀ (M : rv_Mem) (x1 : Int32) (x3 : Int32) (x4 : Int32), rv_M (rC_G D cI cZ cO ad gh de) (rC_K ad gh) p l e rm11_noteAct s m args below meth c 0 0 (rC_qV D cI cZ cO ad gh de below args s) (k49 M x1 x3 x4) 49 [some (.ref (ad 0)), some (.int x1), none, some (.int x3), some (.int x4)] [] M) : ∀ (M : rv_Mem) (x1 : Int32) (x3 : Int32) (x4 : Int32), rv_M (rC_G D cI cZ cO ad gh de) (rC_K ad gh) p l e rm11_noteAct s m args below meth c 0 0 (rC_qV D cI cZ cO ad gh de below args s) (f11_noteAct_82 gh k49 M x1 x3 x4) 82 [some (.ref (ad 0)), some (.int x1), none, some (.int x3), some (.int x4)] [] M := by
  intro M x1 x3 x4
  unfold f11_noteAct_82
  refine rv_iinc (q := 85) (lv' := [_, _, _, _, _]) E.x dX11_noteAct_82 rv_ki1 rfl rfl rfl rfl ?_
  refine rv_goto (q := 49) E.x dX11_noteAct_85 (by decide) ?_
  refine rv_wk [true, true, false, true, true] ?_
  exact h49 M x1 x3 (x4 + 1)
set_option maxRecDepth 100000 in
theorem b11_noteAct_49_s {p : Program} {l : Launch} {e : Env} {s : State} {m : MethodId} {args : Array Value} {below : List Frame} {meth : Method} {c : Code} {D : va_G} {cI cZ cO : ClassId} {ad : Nat → Nat} {gh : rC_gh} {de : Nat} (E : rC_E D cI cZ cO ad gh (rC_K ad gh) RX11 cX11_noteAct 5 none p s m args meth c)   (k49 : rv_Mem → Int32 → Int32 → Int32 → Option (rv_Mem)) (h49 : ∀ (M : rv_Mem) (x1 : Int32) (x3 : Int32) (x4 : Int32), rv_M (rC_G D cI cZ cO ad gh de) (rC_K ad gh) p l e rm11_noteAct s m args below meth c 0 0 (rC_qV D cI cZ cO ad gh de below args s) (k49 M x1 x3 x4) 49 [some (.ref (ad 0)), some (.int x1), none, some (.int x3), some (.int x4)] [] M) : ∀ (M : rv_Mem) (x1 : Int32) (x3 : Int32) (x4 : Int32), rv_M (rC_G D cI cZ cO ad gh de) (rC_K ad gh) p l e rm11_noteAct s m args below meth c 0 0 (rC_qV D cI cZ cO ad gh de below args s) (f11_noteAct_49_s gh k49 M x1 x3 x4) 49 [some (.ref (ad 0)), some (.int x1), none, some (.int x3), some (.int x4)] [] M := by
  intro M x1 x3 x4
  unfold f11_noteAct_49_s
  refine rv_iload (q := 51) E.x dX11_noteAct_49 rfl rfl ?_
  refine rv_bipush (q := 53) E.x dX11_noteAct_51 rv_kb6 rfl ?_
  refine rv_icmp_ge (q := 56) (tgt := 88) E.x dX11_noteAct_53 (by decide) rfl ?_ ?_
  · refine rv_iload (q := 58) E.x dX11_noteAct_56 rfl rfl ?_
    refine rv_iload_n (q := 59) E.x dX11_noteAct_58 rfl rfl ?_
    refine rv_icmp_eq (q := 62) (tgt := 82) E.x dX11_noteAct_59 (by decide) rfl ?_ ?_
    · refine rv_iload_n (q := 63) E.x dX11_noteAct_62 rfl rfl ?_
      refine rv_iload (q := 65) E.x dX11_noteAct_63 rfl rfl ?_
      refine rv_b1 (fun r2 e1 => ?_)
      refine rC_calls (q := 68) E (c11_isIn e1) gX11_463 hX11_isIn ⟨rfl, rfl⟩ ⟨Nat.le_of_ble_eq_true rfl, Nat.le_of_ble_eq_true rfl⟩ ⟨Nat.le_of_ble_eq_true rfl, Nat.le_of_ble_eq_true rfl⟩ rfl rfl rfl (Nat.le_of_ble_eq_true rfl) dX11_noteAct_65 rfl ?_
      refine rv_ifz_eq (q := 71) (tgt := 82) E.x dX11_noteAct_68 (by decide) rfl ?_ ?_
      · refine rv_aload_n (q := 72) E.x dX11_noteAct_71 rfl rfl ?_
        refine rC_getX11 (q := 75) E 0 10 wfX11_72 rfl (Nat.le_of_ble_eq_true rfl) ⟨rfl, rfl⟩ rfl dX11_noteAct_72 rfl ?_
        refine rv_iload (q := 77) E.x dX11_noteAct_75 rfl rfl ?_
        refine rv_dup2 (q := 78) E.x dX11_noteAct_77 rfl rfl rfl ?_
        refine rC_iald (q := 79) (n := 6) E ⟨rfl, rfl, rfl⟩ dX11_noteAct_78 rfl ?_
        refine rv_iconst (q := 80) E.x dX11_noteAct_79 rv_ki1 rfl ?_
        refine rv_iadd (q := 81) E.x dX11_noteAct_80 rfl ?_
        refine rC_iast (q := 82) (n := 6) E ⟨rfl, rfl, rfl⟩ dX11_noteAct_81 rfl ?_
        refine rv_ltm (fun M3 => ?_)
        refine rv_wk [true, true, false, true, true] ?_
        exact b11_noteAct_82 E k49 h49 M3 x1 x3 x4
      · refine rv_wk [true, true, false, true, true] ?_
        exact b11_noteAct_82 E k49 h49 M x1 x3 x4
    · refine rv_wk [true, true, false, true, true] ?_
      exact b11_noteAct_82 E k49 h49 M x1 x3 x4
  · exact rC_vret E rfl dX11_noteAct_88
theorem b11_noteAct_49 {p : Program} {l : Launch} {e : Env} {s : State} {m : MethodId} {args : Array Value} {below : List Frame} {meth : Method} {c : Code} {D : va_G} {cI cZ cO : ClassId} {ad : Nat → Nat} {gh : rC_gh} {de : Nat} (E : rC_E D cI cZ cO ad gh (rC_K ad gh) RX11 cX11_noteAct 5 none p s m args meth c)   : ∀ (n : Nat), ∀ (M : rv_Mem) (x1 : Int32) (x3 : Int32) (x4 : Int32), rv_M (rC_G D cI cZ cO ad gh de) (rC_K ad gh) p l e rm11_noteAct s m args below meth c 0 0 (rC_qV D cI cZ cO ad gh de below args s) (f11_noteAct_49 gh n M x1 x3 x4) 49 [some (.ref (ad 0)), some (.int x1), none, some (.int x3), some (.int x4)] [] M := by
  intro n
  induction n with
  | zero => exact fun _ _ _ _ => rv_stuck
  | succ n ih => exact b11_noteAct_49_s E  (f11_noteAct_49 gh n) ih
set_option maxRecDepth 100000 in
theorem b11_noteAct_46 {p : Program} {l : Launch} {e : Env} {s : State} {m : MethodId} {args : Array Value} {below : List Frame} {meth : Method} {c : Code} {D : va_G} {cI cZ cO : ClassId} {ad : Nat → Nat} {gh : rC_gh} {de : Nat} (E : rC_E D cI cZ cO ad gh (rC_K ad gh) RX11 cX11_noteAct 5 none p s m args meth c)   : ∀ (M : rv_Mem) (x1 : Int32) (x3 : Int32), rv_M (rC_G D cI cZ cO ad gh de) (rC_K ad gh) p l e rm11_noteAct s m args below meth c 0 0 (rC_qV D cI cZ cO ad gh de below args s) (f11_noteAct_46 gh M x1 x3) 46 [some (.ref (ad 0)), some (.int x1), none, some (.int x3), none] [] M := by
  intro M x1 x3
  unfold f11_noteAct_46
  refine rv_iconst (q := 47) E.x dX11_noteAct_46 rv_ki0 rfl ?_
  refine rv_istore (q := 49) (lv' := [_, _, _, _, _]) E.x dX11_noteAct_47 (Nat.le_of_ble_eq_true rfl) rfl rfl rfl ?_
  refine rv_wk [true, true, false, true, true] ?_
  exact b11_noteAct_49 E rv_FU M x1 x3 0
set_option maxRecDepth 100000 in
theorem b11_noteAct {p : Program} {l : Launch} {e : Env} {s : State} {m : MethodId} {args : Array Value} {below : List Frame} {meth : Method} {c : Code} {D : va_G} {cI cZ cO : ClassId} {ad : Nat → Nat} {gh : rC_gh} {de : Nat} (E : rC_E D cI cZ cO ad gh (rC_K ad gh) RX11 cX11_noteAct 5 none p s m args meth c) (M : rv_Mem) (a1 : Int32) (a2 : Nat) : rv_M (rC_G D cI cZ cO ad gh de) (rC_K ad gh) p l e rm11_noteAct s m args below meth c 0 0 (rC_qV D cI cZ cO ad gh de below args s) (f11_noteAct gh M a1 a2) 0 [some (.ref (ad 0)), some (.int a1), some (.ref (ad a2)), none, none] [] M := by
  unfold f11_noteAct
  refine rv_aload_n (q := 1) E.x dX11_noteAct_0 rfl rfl ?_
  refine rv_aload_n (q := 2) E.x dX11_noteAct_1 rfl rfl ?_
  refine rC_getX11 (q := 5) E 0 11 wfX11_75 rfl (Nat.le_of_ble_eq_true rfl) ⟨rfl, rfl⟩ rfl dX11_noteAct_2 rfl ?_
  refine rv_g (fun g1 => ?_)
  refine rC_putX0 (q := 8) E a2 11 wfX11_235 rfl (Nat.le_of_ble_eq_true rfl) (rC_at_of g1) rfl ⟨rfl, rfl⟩ dX11_noteAct_5 rfl ?_
  refine rv_ltm (fun M2 => ?_)
  refine rv_aload_n (q := 9) E.x dX11_noteAct_8 rfl rfl ?_
  refine rC_getX0 (q := 12) E a2 9 wfX11_253 rfl (Nat.le_of_ble_eq_true rfl) (rC_at_of g1) rfl dX11_noteAct_9 rfl ?_
  refine rv_iconst (q := 13) E.x dX11_noteAct_12 rv_ki1 rfl ?_
  refine rv_aload_n (q := 14) E.x dX11_noteAct_13 rfl rfl ?_
  refine rC_getX0 (q := 17) E a2 1 wfX11_473 rfl (Nat.le_of_ble_eq_true rfl) (rC_at_of g1) rfl dX11_noteAct_14 rfl ?_
  refine rv_ishl (q := 18) E.x dX11_noteAct_17 rfl ?_
  refine rv_ior (q := 19) E.x dX11_noteAct_18 rfl ?_
  refine rv_istore_n (q := 20) (lv' := [_, _, _, _, _]) E.x dX11_noteAct_19 (Nat.le_of_ble_eq_true rfl) rfl rfl rfl ?_
  refine rv_aload_n (q := 21) E.x dX11_noteAct_20 rfl rfl ?_
  refine rC_getX0 (q := 24) E a2 7 wfX11_247 rfl (Nat.le_of_ble_eq_true rfl) (rC_at_of g1) rfl dX11_noteAct_21 rfl ?_
  refine rv_ifz_ne (q := 27) (tgt := 46) E.x dX11_noteAct_24 (by decide) rfl ?_ ?_
  · refine rv_aload_n (q := 28) E.x dX11_noteAct_27 rfl rfl ?_
    refine rC_getX0 (q := 31) E a2 6 wfX11_243 rfl (Nat.le_of_ble_eq_true rfl) (rC_at_of g1) rfl dX11_noteAct_28 rfl ?_
    refine rv_ifz_ne (q := 34) (tgt := 46) E.x dX11_noteAct_31 (by decide) rfl ?_ ?_
    · refine rv_iload_n (q := 35) E.x dX11_noteAct_34 rfl rfl ?_
      refine rv_aload_n (q := 36) E.x dX11_noteAct_35 rfl rfl ?_
      refine rC_getX11 (q := 39) E 0 9 wfX11_68 rfl (Nat.le_of_ble_eq_true rfl) ⟨rfl, rfl⟩ rfl dX11_noteAct_36 rfl ?_
      refine rv_aload_n (q := 40) E.x dX11_noteAct_39 rfl rfl ?_
      refine rC_getX0 (q := 43) E a2 2 wfX11_187 rfl (Nat.le_of_ble_eq_true rfl) (rC_at_of g1) rfl dX11_noteAct_40 rfl ?_
      refine rC_iald (q := 44) (n := 2) E ⟨rfl, rfl, rfl⟩ dX11_noteAct_43 rfl ?_
      refine rv_ior (q := 45) E.x dX11_noteAct_44 rfl ?_
      refine rv_istore_n (q := 46) (lv' := [_, _, _, _, _]) E.x dX11_noteAct_45 (Nat.le_of_ble_eq_true rfl) rfl rfl rfl ?_
      refine rv_wk [true, true, false, true, false] ?_
      exact b11_noteAct_46 E M2 a1 (((M2 a2 9) ||| ((1 : Int32) <<< ((M2 a2 1) &&& 31))) ||| (M2 12 ((M2 a2 2)).toNatClampNeg))
    · refine rv_wk [true, true, false, true, false] ?_
      exact b11_noteAct_46 E M2 a1 ((M2 a2 9) ||| ((1 : Int32) <<< ((M2 a2 1) &&& 31)))
  · refine rv_wk [true, true, false, true, false] ?_
    exact b11_noteAct_46 E M2 a1 ((M2 a2 9) ||| ((1 : Int32) <<< ((M2 a2 1) &&& 31)))
theorem c11_noteAct {l : Launch} {D : va_G} {cI cZ cO : ClassId} {ad : Nat → Nat} {gh : rC_gh} {de : Nat} (hI : rC_I ad gh) {M : rv_Mem} {a1 : Int32} {a2 : Nat} {M1 : rv_Mem} (h : f11_noteAct gh M a1 a2 = some M1) : Met l yX11_noteAct (rv_ws yX11_noteAct cX11_noteAct 5 none) rm11_noteAct (rC_Pc D cI cZ cO ad gh de [.ref (ad 0), .int a1, .ref (ad a2)] M) (rC_QV D cI cZ cO ad gh de M1) 0 0 (rC_K ad gh) := rC_met hI rfl (by decide) (Nat.le_of_ble_eq_true rfl) (fun p e s m args below meth c E => ⟨(rC_qV D cI cZ cO ad gh de below args s), rfl, b11_noteAct E M a1 a2⟩) h
abbrev rm11_addSet : Room := { frames := 5, cells := 0, slots := 0, locals := 130 }
set_option maxRecDepth 100000 in
theorem b11_addSet_50 {p : Program} {l : Launch} {e : Env} {s : State} {m : MethodId} {args : Array Value} {below : List Frame} {meth : Method} {c : Code} {D : va_G} {cI cZ cO : ClassId} {ad : Nat → Nat} {gh : rC_gh} {de : Nat} (E : rC_E D cI cZ cO ad gh (rC_K ad gh) RX11 cX11_addSet 8 (some .int) p s m args meth c)   : ∀ (M : rv_Mem) (x1 : Int32) (x2 : Nat) (x6 : Int32) (s0 : Int32), rv_M (rC_G D cI cZ cO ad gh de) (rC_K ad gh) p l e rm11_addSet s m args below meth c 0 0 (rC_qIW D cI cZ cO ad gh de below args s) (f11_addSet_50 gh M x1 x2 x6 s0) 50 [some (.ref (ad 0)), some (.int x1), some (.ref (ad x2)), none, none, none, some (.int x6), none] [.int s0] M := by
  intro M x1 x2 x6 s0
  unfold f11_addSet_50
  refine rv_istore (q := 52) (lv' := [_, _, _, _, _, _, _, _]) E.x dX11_addSet_50 (Nat.le_of_ble_eq_true rfl) rfl rfl rfl ?_
  refine rv_aload_n (q := 53) E.x dX11_addSet_52 rfl rfl ?_
  refine rC_getX11 (q := 56) E 0 0 wfX11_10 rfl (Nat.le_of_ble_eq_true rfl) ⟨rfl, rfl⟩ rfl dX11_addSet_53 rfl ?_
  refine rv_iload (q := 58) E.x dX11_addSet_56 rfl rfl ?_
  refine rv_aload_n (q := 59) E.x dX11_addSet_58 rfl rfl ?_
  refine rv_g (fun g1 => ?_)
  refine rC_getX0 (q := 62) E x2 0 wfX11_180 rfl (Nat.le_of_ble_eq_true rfl) (rC_at_of g1) rfl dX11_addSet_59 rfl ?_
  refine rv_iload_n (q := 63) E.x dX11_addSet_62 rfl rfl ?_
  refine rv_iload (q := 65) E.x dX11_addSet_63 rfl rfl ?_
  refine rv_b1 (fun M3 e2 => ?_)
  refine rC_callvX9 (q := 68) E ⟨rfl, rfl⟩ (c9_makeSet E.2.2.1 e2) gX11_516 hX9_makeSet ⟨rfl, rfl⟩ ⟨Nat.le_of_ble_eq_true rfl, Nat.le_of_ble_eq_true rfl⟩ ⟨Nat.le_of_ble_eq_true rfl, Nat.le_of_ble_eq_true rfl⟩ rfl rfl rfl (Nat.le_of_ble_eq_true rfl) dX11_addSet_65 rfl ?_
  refine rv_aload_n (q := 69) E.x dX11_addSet_68 rfl rfl ?_
  refine rv_iload (q := 71) E.x dX11_addSet_69 rfl rfl ?_
  refine rv_b1 (fun M5 e4 => ?_)
  refine rC_callvX0 (q := 74) E (rC_at_of g1) (c0_addCommit E.2.2.1 e4) gX11_519 hX0_addCommit ⟨rfl, rfl⟩ ⟨Nat.le_of_ble_eq_true rfl, Nat.le_of_ble_eq_true rfl⟩ ⟨Nat.le_of_ble_eq_true rfl, Nat.le_of_ble_eq_true rfl⟩ rfl rfl rfl (Nat.le_of_ble_eq_true rfl) dX11_addSet_71 rfl ?_
  refine rv_aload_n (q := 75) E.x dX11_addSet_74 rfl rfl ?_
  refine rv_iload_n (q := 76) E.x dX11_addSet_75 rfl rfl ?_
  refine rv_aload_n (q := 77) E.x dX11_addSet_76 rfl rfl ?_
  refine rv_iconst (q := 78) E.x dX11_addSet_77 rv_ki1 rfl ?_
  refine rv_b1 (fun M7 e6 => ?_)
  refine rC_callvX11 (q := 81) E ⟨rfl, rfl⟩ (c11_passTurns E.2.2.1 e6) gX11_326 hX11_passTurns ⟨rfl, rfl⟩ ⟨Nat.le_of_ble_eq_true rfl, Nat.le_of_ble_eq_true rfl⟩ ⟨Nat.le_of_ble_eq_true rfl, Nat.le_of_ble_eq_true rfl⟩ rfl rfl rfl (Nat.le_of_ble_eq_true rfl) dX11_addSet_78 rfl ?_
  refine rv_aload_n (q := 82) E.x dX11_addSet_81 rfl rfl ?_
  refine rv_iload_n (q := 83) E.x dX11_addSet_82 rfl rfl ?_
  refine rv_aload_n (q := 84) E.x dX11_addSet_83 rfl rfl ?_
  refine rv_b1 (fun M9 e8 => ?_)
  refine rC_callvX11 (q := 87) E ⟨rfl, rfl⟩ (c11_noteAct E.2.2.1 e8) gX11_330 hX11_noteAct ⟨rfl, rfl⟩ ⟨Nat.le_of_ble_eq_true rfl, Nat.le_of_ble_eq_true rfl⟩ ⟨Nat.le_of_ble_eq_true rfl, Nat.le_of_ble_eq_true rfl⟩ rfl rfl rfl (Nat.le_of_ble_eq_true rfl) dX11_addSet_84 rfl ?_
  refine rv_aload_n (q := 88) E.x dX11_addSet_87 rfl rfl ?_
  refine rC_getX0 (q := 91) E x2 4 wfX11_238 rfl (Nat.le_of_ble_eq_true rfl) (rC_at_of g1) rfl dX11_addSet_88 rfl ?_
  refine rv_iconst (q := 92) E.x dX11_addSet_91 rv_ki1 rfl ?_
  refine rv_isub (q := 93) E.x dX11_addSet_92 rfl ?_
  exact rC_iret E rfl dX11_addSet_93
set_option maxRecDepth 100000 in
theorem b11_addSet {p : Program} {l : Launch} {e : Env} {s : State} {m : MethodId} {args : Array Value} {below : List Frame} {meth : Method} {c : Code} {D : va_G} {cI cZ cO : ClassId} {ad : Nat → Nat} {gh : rC_gh} {de : Nat} (E : rC_E D cI cZ cO ad gh (rC_K ad gh) RX11 cX11_addSet 8 (some .int) p s m args meth c) (M : rv_Mem) (a1 : Int32) (a2 : Nat) (a3 : Int32) (a4 : Int32) : rv_M (rC_G D cI cZ cO ad gh de) (rC_K ad gh) p l e rm11_addSet s m args below meth c 0 0 (rC_qIW D cI cZ cO ad gh de below args s) (f11_addSet gh M a1 a2 a3 a4) 0 [some (.ref (ad 0)), some (.int a1), some (.ref (ad a2)), some (.int a3), some (.int a4), none, none, none] [] M := by
  unfold f11_addSet
  refine rv_aload_n (q := 1) E.x dX11_addSet_0 rfl rfl ?_
  refine rC_getX11 (q := 4) E 0 0 wfX11_10 rfl (Nat.le_of_ble_eq_true rfl) ⟨rfl, rfl⟩ rfl dX11_addSet_1 rfl ?_
  refine rv_aload_n (q := 5) E.x dX11_addSet_4 rfl rfl ?_
  refine rv_g (fun g1 => ?_)
  refine rC_getX0 (q := 8) E a2 0 wfX11_180 rfl (Nat.le_of_ble_eq_true rfl) (rC_at_of g1) rfl dX11_addSet_5 rfl ?_
  refine rv_b1 (fun r3 e2 => ?_)
  refine rC_calliX9 (q := 11) E ⟨rfl, rfl⟩ (c9_currentOf E.2.2.1 e2) gX11_204 hX9_currentOf ⟨rfl, rfl⟩ ⟨Nat.le_of_ble_eq_true rfl, Nat.le_of_ble_eq_true rfl⟩ ⟨Nat.le_of_ble_eq_true rfl, Nat.le_of_ble_eq_true rfl⟩ rfl rfl rfl (Nat.le_of_ble_eq_true rfl) dX11_addSet_8 rfl ?_
  refine rv_istore (q := 13) (lv' := [_, _, _, _, _, _, _, _]) E.x dX11_addSet_11 (Nat.le_of_ble_eq_true rfl) rfl rfl rfl ?_
  refine rv_aload_n (q := 14) E.x dX11_addSet_13 rfl rfl ?_
  refine rC_getX11 (q := 17) E 0 0 wfX11_10 rfl (Nat.le_of_ble_eq_true rfl) ⟨rfl, rfl⟩ rfl dX11_addSet_14 rfl ?_
  refine rv_iload_n (q := 18) E.x dX11_addSet_17 rfl rfl ?_
  refine rv_aload_n (q := 19) E.x dX11_addSet_18 rfl rfl ?_
  refine rC_getX0 (q := 22) E a2 2 wfX11_187 rfl (Nat.le_of_ble_eq_true rfl) (rC_at_of g1) rfl dX11_addSet_19 rfl ?_
  refine rv_iload (q := 24) E.x dX11_addSet_22 rfl rfl ?_
  refine rv_b2 (fun r5 M6 e4 => ?_)
  refine rC_calliX9 (q := 27) E ⟨rfl, rfl⟩ (c9_addCommit E.2.2.1 e4) gX11_510 hX9_addCommit ⟨rfl, rfl⟩ ⟨Nat.le_of_ble_eq_true rfl, Nat.le_of_ble_eq_true rfl⟩ ⟨Nat.le_of_ble_eq_true rfl, Nat.le_of_ble_eq_true rfl⟩ rfl rfl rfl (Nat.le_of_ble_eq_true rfl) dX11_addSet_24 rfl ?_
  refine rv_istore (q := 29) (lv' := [_, _, _, _, _, _, _, _]) E.x dX11_addSet_27 (Nat.le_of_ble_eq_true rfl) rfl rfl rfl ?_
  refine rv_iload (q := 31) E.x dX11_addSet_29 rfl rfl ?_
  refine rv_iconst (q := 32) E.x dX11_addSet_31 rv_kim1 rfl ?_
  refine rv_icmp_ne (q := 35) (tgt := 39) E.x dX11_addSet_32 (by decide) rfl ?_ ?_
  · refine rv_iconst (q := 36) E.x dX11_addSet_35 rv_ki0 rfl ?_
    refine rv_goto (q := 50) E.x dX11_addSet_36 (by decide) ?_
    refine rv_wk [true, true, true, false, false, false, true, false] ?_
    exact b11_addSet_50 E M6 a1 a2 r5 0
  · refine rv_aload_n (q := 40) E.x dX11_addSet_39 rfl rfl ?_
    refine rC_getX11 (q := 43) E 0 1 wfX11_21 rfl (Nat.le_of_ble_eq_true rfl) ⟨rfl, rfl⟩ rfl dX11_addSet_40 rfl ?_
    refine rv_iload (q := 45) E.x dX11_addSet_43 rfl rfl ?_
    refine rv_iload (q := 47) E.x dX11_addSet_45 rfl rfl ?_
    refine rv_b2 (fun r8 M9 e7 => ?_)
    refine rC_calliX2 (q := 50) E ⟨rfl, rfl⟩ (c2_kindBetween E.2.2.1 e7) gX11_513 hX2_kindBetween ⟨rfl, rfl⟩ ⟨Nat.le_of_ble_eq_true rfl, Nat.le_of_ble_eq_true rfl⟩ ⟨Nat.le_of_ble_eq_true rfl, Nat.le_of_ble_eq_true rfl⟩ rfl rfl rfl (Nat.le_of_ble_eq_true rfl) dX11_addSet_47 rfl ?_
    refine rv_wk [true, true, true, false, false, false, true, false] ?_
    exact b11_addSet_50 E M9 a1 a2 r5 r8
theorem c11_addSet {l : Launch} {D : va_G} {cI cZ cO : ClassId} {ad : Nat → Nat} {gh : rC_gh} {de : Nat} (hI : rC_I ad gh) {M : rv_Mem} {a1 : Int32} {a2 : Nat} {a3 : Int32} {a4 : Int32} {r : Int32} {M1 : rv_Mem} (h : f11_addSet gh M a1 a2 a3 a4 = some (r, M1)) : Met l yX11_addSet (rv_ws yX11_addSet cX11_addSet 8 (some .int)) rm11_addSet (rC_Pc D cI cZ cO ad gh de [.ref (ad 0), .int a1, .ref (ad a2), .int a3, .int a4] M) (rC_QI D cI cZ cO ad gh de r M1) 0 0 (rC_K ad gh) := rC_met hI rfl (by decide) (Nat.le_of_ble_eq_true rfl) (fun p e s m args below meth c E => ⟨(rC_qIW D cI cZ cO ad gh de below args s), rfl, b11_addSet E M a1 a2 a3 a4⟩) h
abbrev rm11_upload : Room := { frames := 8, cells := 0, slots := 0, locals := 157 }
def qx11_upload (D : va_G) (cI cZ cO : ClassId) (ad : Nat → Nat) (gh : rC_gh) (de : Nat) (below : List Frame) (args : Array Value) (s : State) : (Int32 × rv_Mem) ⊕ (Nat × rv_Mem) → State → Prop := fun r => match r with
  | .inl r => vx_MQ below (rC_qi D cI cZ cO ad gh de (rC_A ad gh s.heap.size) r.1 r.2) (rC_fx (rC_A ad gh s.heap.size)) args s 0 0 (rC_A ad gh s.heap.size)
  | .inr _ => fun _ => True
set_option maxRecDepth 100000 in
theorem b11_upload {p : Program} {l : Launch} {e : Env} {s : State} {m : MethodId} {args : Array Value} {below : List Frame} {meth : Method} {c : Code} {D : va_G} {cI cZ cO : ClassId} {ad : Nat → Nat} {gh : rC_gh} {de : Nat} (E : rC_X D cI cZ cO ad gh RX11 cX11_upload 5 (some .int) p l s m args meth c) (M : rv_Mem) (a1 : Int32) (a2 : Int32) : rv_M (rC_G D cI cZ cO ad gh de) (rC_A ad gh s.heap.size) p l e rm11_upload s m args below meth c 0 0 (qx11_upload D cI cZ cO ad gh de below args s) (f11_upload gh M a1 a2) 0 [some (.ref (ad 0)), some (.int a1), some (.int a2), none, none] [] M := by
  unfold f11_upload
  refine rv_iload_n (q := 1) E.1.x dX11_upload_0 rfl rfl ?_
  refine rv_x2r (fun r2 e1 => ?_) (fun w3 e4 => rv_tr (fun _ => trivial))
  refine rC_xSv (q := 4) E (fun _ => c11_needPerson E.2.1 E.1.2.2.1 e1) gX11_152 hX11_needPerson ⟨rfl, rfl⟩ ⟨Nat.le_of_ble_eq_true rfl, Nat.le_of_ble_eq_true rfl⟩ ⟨Nat.le_of_ble_eq_true rfl, Nat.le_of_ble_eq_true rfl⟩ rfl rfl rfl (Nat.le_of_ble_eq_true rfl) dX11_upload_1 rfl ?_
  refine rv_aload_n (q := 5) E.1.x dX11_upload_4 rfl rfl ?_
  refine rv_iload_n (q := 6) E.1.x dX11_upload_5 rfl rfl ?_
  refine rv_x2r (fun r6 e5 => ?_) (fun w7 e8 => rv_tr (fun _ => trivial))
  refine rC_xVrX11 (q := 9) E ⟨rfl, rfl⟩ (fun _ => c11_needChange E.2.1 E.1.2.2.1 e5) gX11_91 hX11_needChange ⟨rfl, rfl⟩ ⟨Nat.le_of_ble_eq_true rfl, Nat.le_of_ble_eq_true rfl⟩ ⟨Nat.le_of_ble_eq_true rfl, Nat.le_of_ble_eq_true rfl⟩ rfl rfl rfl (Nat.le_of_ble_eq_true rfl) dX11_upload_6 rfl ?_
  refine rv_astore_n (q := 10) (lv' := [_, _, _, _, _]) E.1.x dX11_upload_9 (Nat.le_of_ble_eq_true rfl) rfl rfl rfl ?_
  refine rv_iload_n (q := 11) E.1.x dX11_upload_10 rfl rfl ?_
  refine rv_aload_n (q := 12) E.1.x dX11_upload_11 rfl rfl ?_
  refine rv_x2r (fun r10 e9 => ?_) (fun w11 e12 => rv_tr (fun _ => trivial))
  refine rC_xSv (q := 15) E (fun _ => c11_needOpenAndSeen E.2.1 E.1.2.2.1 e9) gX11_183 hX11_needOpenAndSeen ⟨rfl, rfl⟩ ⟨Nat.le_of_ble_eq_true rfl, Nat.le_of_ble_eq_true rfl⟩ ⟨Nat.le_of_ble_eq_true rfl, Nat.le_of_ble_eq_true rfl⟩ rfl rfl rfl (Nat.le_of_ble_eq_true rfl) dX11_upload_12 rfl ?_
  refine rv_aload_n (q := 16) E.1.x dX11_upload_15 rfl rfl ?_
  refine rC_getX11 (q := 19) E.1 0 0 wfX11_10 rfl (Nat.le_of_ble_eq_true rfl) ⟨rfl, rfl⟩ rfl dX11_upload_16 rfl ?_
  refine rv_bipush (q := 21) E.1.x dX11_upload_19 rv_kb80 rfl ?_
  refine rv_b1 (fun r14 e13 => ?_)
  refine rC_calliX9 (q := 24) E.1 ⟨rfl, rfl⟩ (c9_baseOf E.1.2.2.1 e13) gX11_99 hX9_baseOf ⟨rfl, rfl⟩ ⟨Nat.le_of_ble_eq_true rfl, Nat.le_of_ble_eq_true rfl⟩ ⟨Nat.le_of_ble_eq_true rfl, Nat.le_of_ble_eq_true rfl⟩ rfl rfl rfl (Nat.le_of_ble_eq_true rfl) dX11_upload_21 rfl ?_
  refine rv_istore (q := 26) (lv' := [_, _, _, _, _]) E.1.x dX11_upload_24 (Nat.le_of_ble_eq_true rfl) rfl rfl rfl ?_
  refine rv_aload_n (q := 27) E.1.x dX11_upload_26 rfl rfl ?_
  refine rC_getX11 (q := 30) E.1 0 0 wfX11_10 rfl (Nat.le_of_ble_eq_true rfl) ⟨rfl, rfl⟩ rfl dX11_upload_27 rfl ?_
  refine rv_iload (q := 32) E.1.x dX11_upload_30 rfl rfl ?_
  refine rv_b1 (fun r16 e15 => ?_)
  refine rC_calliX9 (q := 35) E.1 ⟨rfl, rfl⟩ (c9_repositoryOf E.1.2.2.1 e15) gX11_167 hX9_repositoryOf ⟨rfl, rfl⟩ ⟨Nat.le_of_ble_eq_true rfl, Nat.le_of_ble_eq_true rfl⟩ ⟨Nat.le_of_ble_eq_true rfl, Nat.le_of_ble_eq_true rfl⟩ rfl rfl rfl (Nat.le_of_ble_eq_true rfl) dX11_upload_32 rfl ?_
  refine rv_aload_n (q := 36) E.1.x dX11_upload_35 rfl rfl ?_
  refine rv_g (fun g17 => ?_)
  refine rC_getX0 (q := 39) E.1 r6 2 wfX11_187 rfl (Nat.le_of_ble_eq_true rfl) (rC_at_of g17) rfl dX11_upload_36 rfl ?_
  refine rv_icmp_eq (q := 42) (tgt := 52) E.1.x dX11_upload_39 (by decide) rfl ?_ ?_
  · exact rv_tr (fun _ => trivial)
  · refine rv_aload_n (q := 53) E.1.x dX11_upload_52 rfl rfl ?_
    refine rv_iload_n (q := 54) E.1.x dX11_upload_53 rfl rfl ?_
    refine rv_aload_n (q := 55) E.1.x dX11_upload_54 rfl rfl ?_
    refine rC_getX11 (q := 58) E.1 0 0 wfX11_10 rfl (Nat.le_of_ble_eq_true rfl) ⟨rfl, rfl⟩ rfl dX11_upload_55 rfl ?_
    refine rv_iload (q := 60) E.1.x dX11_upload_58 rfl rfl ?_
    refine rv_b1 (fun r19 e18 => ?_)
    refine rC_calliX9 (q := 63) E.1 ⟨rfl, rfl⟩ (c9_changeOf E.1.2.2.1 e18) gX11_192 hX9_changeOf ⟨rfl, rfl⟩ ⟨Nat.le_of_ble_eq_true rfl, Nat.le_of_ble_eq_true rfl⟩ ⟨Nat.le_of_ble_eq_true rfl, Nat.le_of_ble_eq_true rfl⟩ rfl rfl rfl (Nat.le_of_ble_eq_true rfl) dX11_upload_60 rfl ?_
    refine rv_b1 (fun r21 e20 => ?_)
    refine rC_calliX11 (q := 66) E.1 ⟨rfl, rfl⟩ (c11_isAtOrAbove E.1.2.2.1 e20) gX11_195 hX11_isAtOrAbove ⟨rfl, rfl⟩ ⟨Nat.le_of_ble_eq_true rfl, Nat.le_of_ble_eq_true rfl⟩ ⟨Nat.le_of_ble_eq_true rfl, Nat.le_of_ble_eq_true rfl⟩ rfl rfl rfl (Nat.le_of_ble_eq_true rfl) dX11_upload_63 rfl ?_
    refine rv_ifz_eq (q := 69) (tgt := 79) E.1.x dX11_upload_66 (by decide) rfl ?_ ?_
    · exact rv_tr (fun _ => trivial)
    · refine rv_aload_n (q := 80) E.1.x dX11_upload_79 rfl rfl ?_
      refine rv_x2r (fun r23 e22 => ?_) (fun w24 e25 => rv_tr (fun _ => trivial))
      refine rC_xVvX11 (q := 83) E ⟨rfl, rfl⟩ (fun _ => c11_needRoomForCommit E.2.1 E.1.2.2.1 e22) gX11_201 hX11_needRoomForCommit ⟨rfl, rfl⟩ ⟨Nat.le_of_ble_eq_true rfl, Nat.le_of_ble_eq_true rfl⟩ ⟨Nat.le_of_ble_eq_true rfl, Nat.le_of_ble_eq_true rfl⟩ rfl rfl rfl (Nat.le_of_ble_eq_true rfl) dX11_upload_80 rfl ?_
      refine rv_aload_n (q := 84) E.1.x dX11_upload_83 rfl rfl ?_
      refine rv_iload_n (q := 85) E.1.x dX11_upload_84 rfl rfl ?_
      refine rv_aload_n (q := 86) E.1.x dX11_upload_85 rfl rfl ?_
      refine rv_bipush (q := 88) E.1.x dX11_upload_86 rv_kb80 rfl ?_
      refine rv_iload (q := 90) E.1.x dX11_upload_88 rfl rfl ?_
      refine rv_b2 (fun r27 M28 e26 => ?_)
      refine rC_calliX11 (q := 93) E.1 ⟨rfl, rfl⟩ (c11_addSet E.1.2.2.1 e26) gX11_176 hX11_addSet ⟨rfl, rfl⟩ ⟨Nat.le_of_ble_eq_true rfl, Nat.le_of_ble_eq_true rfl⟩ ⟨Nat.le_of_ble_eq_true rfl, Nat.le_of_ble_eq_true rfl⟩ rfl rfl rfl (Nat.le_of_ble_eq_true rfl) dX11_upload_90 rfl ?_
      exact rC_xiret E rfl ⟨Nat.le_of_ble_eq_true rfl, Nat.le_of_ble_eq_true rfl⟩ dX11_upload_93
theorem c11_upload {l : Launch} {D : va_G} {cI cZ cO : ClassId} {ad : Nat → Nat} {gh : rC_gh} {de : Nat} (hfl : l.stackTraces = false) (hI : rC_I ad gh) {sz : Nat} {M : rv_Mem} {a1 : Int32} {a2 : Int32} {r : Int32} {M1 : rv_Mem} (h : f11_upload gh M a1 a2 = some (.inl (r, M1))) : vx_Met l yX11_upload (rv_ws yX11_upload cX11_upload 5 (some .int)) rm11_upload (rC_Px D cI cZ cO ad gh de sz [.ref (ad 0), .int a1, .int a2] M) (rC_qi D cI cZ cO ad gh de (rC_A ad gh sz) r M1) (rC_fx (rC_A ad gh sz)) 0 0 (rC_A ad gh sz) := rC_xmet (Qc := fun A => rC_qi D cI cZ cO ad gh de A r M1) (XC := fun A => rC_fx A) hfl hI rfl (by decide) (Nat.le_of_ble_eq_true rfl) (fun p e s m args below meth c E => ⟨(qx11_upload D cI cZ cO ad gh de below args s), rfl, b11_upload E M a1 a2⟩) h
abbrev rmx11_upload : Room := { frames := 8, cells := 1, slots := 6, locals := 157 }
def qy11_upload (D : va_G) (cI cZ cO : ClassId) (ad : Nat → Nat) (gh : rC_gh) (de : Nat) (below : List Frame) (args : Array Value) (s : State) : (Int32 × rv_Mem) ⊕ (Nat × rv_Mem) → State → Prop := fun r => match r with
  | .inl _ => fun _ => True
  | .inr r => vx_MQ below (rC_fi (rC_A ad gh s.heap.size)) (rC_xc D cI cZ cO ad gh de (rC_A ad gh s.heap.size) r.1 r.2) args s 1 6 (rC_A ad gh s.heap.size)
set_option maxRecDepth 100000 in
theorem bx11_upload {p : Program} {l : Launch} {e : Env} {s : State} {m : MethodId} {args : Array Value} {below : List Frame} {meth : Method} {c : Code} {D : va_G} {cI cZ cO : ClassId} {ad : Nat → Nat} {gh : rC_gh} {de : Nat} (E : rC_X D cI cZ cO ad gh RX11 cX11_upload 5 (some .int) p l s m args meth c) (M : rv_Mem) (a1 : Int32) (a2 : Int32) : rv_M (rC_G D cI cZ cO ad gh de) (rC_A ad gh s.heap.size) p l e rmx11_upload s m args below meth c 0 0 (qy11_upload D cI cZ cO ad gh de below args s) (f11_upload gh M a1 a2) 0 [some (.ref (ad 0)), some (.int a1), some (.int a2), none, none] [] M := by
  unfold f11_upload
  refine rv_iload_n (q := 1) E.1.x dX11_upload_0 rfl rfl ?_
  refine rv_x2r (fun r2 e1 => ?_) (fun w3 e4 => rC_ySv E (fun _ => c11_needPerson_x E.2.1 E.1.2.2.1 e4) rfl gX11_152 hX11_needPerson ⟨rfl, rfl⟩ ⟨Nat.le_of_ble_eq_true rfl, Nat.le_of_ble_eq_true rfl⟩ ⟨Nat.le_of_ble_eq_true rfl, Nat.le_of_ble_eq_true rfl⟩ rfl rfl rfl (Nat.le_of_ble_eq_true rfl) dX11_upload_1 ⟨Nat.le_of_ble_eq_true rfl, Nat.le_of_ble_eq_true rfl⟩)
  refine rC_xSv (q := 4) E (fun _ => c11_needPerson E.2.1 E.1.2.2.1 e1) gX11_152 hX11_needPerson ⟨rfl, rfl⟩ ⟨Nat.le_of_ble_eq_true rfl, Nat.le_of_ble_eq_true rfl⟩ ⟨Nat.le_of_ble_eq_true rfl, Nat.le_of_ble_eq_true rfl⟩ rfl rfl rfl (Nat.le_of_ble_eq_true rfl) dX11_upload_1 rfl ?_
  refine rv_aload_n (q := 5) E.1.x dX11_upload_4 rfl rfl ?_
  refine rv_iload_n (q := 6) E.1.x dX11_upload_5 rfl rfl ?_
  refine rv_x2r (fun r6 e5 => ?_) (fun w7 e8 => rC_yVrX11 E ⟨rfl, rfl⟩ (fun _ => c11_needChange_x E.2.1 E.1.2.2.1 e8) rfl gX11_91 hX11_needChange ⟨rfl, rfl⟩ ⟨Nat.le_of_ble_eq_true rfl, Nat.le_of_ble_eq_true rfl⟩ ⟨Nat.le_of_ble_eq_true rfl, Nat.le_of_ble_eq_true rfl⟩ rfl rfl rfl (Nat.le_of_ble_eq_true rfl) dX11_upload_6 ⟨Nat.le_of_ble_eq_true rfl, Nat.le_of_ble_eq_true rfl⟩)
  refine rC_xVrX11 (q := 9) E ⟨rfl, rfl⟩ (fun _ => c11_needChange E.2.1 E.1.2.2.1 e5) gX11_91 hX11_needChange ⟨rfl, rfl⟩ ⟨Nat.le_of_ble_eq_true rfl, Nat.le_of_ble_eq_true rfl⟩ ⟨Nat.le_of_ble_eq_true rfl, Nat.le_of_ble_eq_true rfl⟩ rfl rfl rfl (Nat.le_of_ble_eq_true rfl) dX11_upload_6 rfl ?_
  refine rv_astore_n (q := 10) (lv' := [_, _, _, _, _]) E.1.x dX11_upload_9 (Nat.le_of_ble_eq_true rfl) rfl rfl rfl ?_
  refine rv_iload_n (q := 11) E.1.x dX11_upload_10 rfl rfl ?_
  refine rv_aload_n (q := 12) E.1.x dX11_upload_11 rfl rfl ?_
  refine rv_x2r (fun r10 e9 => ?_) (fun w11 e12 => rC_ySv E (fun _ => c11_needOpenAndSeen_x E.2.1 E.1.2.2.1 e12) rfl gX11_183 hX11_needOpenAndSeen ⟨rfl, rfl⟩ ⟨Nat.le_of_ble_eq_true rfl, Nat.le_of_ble_eq_true rfl⟩ ⟨Nat.le_of_ble_eq_true rfl, Nat.le_of_ble_eq_true rfl⟩ rfl rfl rfl (Nat.le_of_ble_eq_true rfl) dX11_upload_12 ⟨Nat.le_of_ble_eq_true rfl, Nat.le_of_ble_eq_true rfl⟩)
  refine rC_xSv (q := 15) E (fun _ => c11_needOpenAndSeen E.2.1 E.1.2.2.1 e9) gX11_183 hX11_needOpenAndSeen ⟨rfl, rfl⟩ ⟨Nat.le_of_ble_eq_true rfl, Nat.le_of_ble_eq_true rfl⟩ ⟨Nat.le_of_ble_eq_true rfl, Nat.le_of_ble_eq_true rfl⟩ rfl rfl rfl (Nat.le_of_ble_eq_true rfl) dX11_upload_12 rfl ?_
  refine rv_aload_n (q := 16) E.1.x dX11_upload_15 rfl rfl ?_
  refine rC_getX11 (q := 19) E.1 0 0 wfX11_10 rfl (Nat.le_of_ble_eq_true rfl) ⟨rfl, rfl⟩ rfl dX11_upload_16 rfl ?_
  refine rv_bipush (q := 21) E.1.x dX11_upload_19 rv_kb80 rfl ?_
  refine rv_b1 (fun r14 e13 => ?_)
  refine rC_calliX9 (q := 24) E.1 ⟨rfl, rfl⟩ (c9_baseOf E.1.2.2.1 e13) gX11_99 hX9_baseOf ⟨rfl, rfl⟩ ⟨Nat.le_of_ble_eq_true rfl, Nat.le_of_ble_eq_true rfl⟩ ⟨Nat.le_of_ble_eq_true rfl, Nat.le_of_ble_eq_true rfl⟩ rfl rfl rfl (Nat.le_of_ble_eq_true rfl) dX11_upload_21 rfl ?_
  refine rv_istore (q := 26) (lv' := [_, _, _, _, _]) E.1.x dX11_upload_24 (Nat.le_of_ble_eq_true rfl) rfl rfl rfl ?_
  refine rv_aload_n (q := 27) E.1.x dX11_upload_26 rfl rfl ?_
  refine rC_getX11 (q := 30) E.1 0 0 wfX11_10 rfl (Nat.le_of_ble_eq_true rfl) ⟨rfl, rfl⟩ rfl dX11_upload_27 rfl ?_
  refine rv_iload (q := 32) E.1.x dX11_upload_30 rfl rfl ?_
  refine rv_b1 (fun r16 e15 => ?_)
  refine rC_calliX9 (q := 35) E.1 ⟨rfl, rfl⟩ (c9_repositoryOf E.1.2.2.1 e15) gX11_167 hX9_repositoryOf ⟨rfl, rfl⟩ ⟨Nat.le_of_ble_eq_true rfl, Nat.le_of_ble_eq_true rfl⟩ ⟨Nat.le_of_ble_eq_true rfl, Nat.le_of_ble_eq_true rfl⟩ rfl rfl rfl (Nat.le_of_ble_eq_true rfl) dX11_upload_32 rfl ?_
  refine rv_aload_n (q := 36) E.1.x dX11_upload_35 rfl rfl ?_
  refine rv_g (fun g17 => ?_)
  refine rC_getX0 (q := 39) E.1 r6 2 wfX11_187 rfl (Nat.le_of_ble_eq_true rfl) (rC_at_of g17) rfl dX11_upload_36 rfl ?_
  refine rv_icmp_eq (q := 42) (tgt := 52) E.1.x dX11_upload_39 (by decide) rfl ?_ ?_
  · exact rC_throw (x := 3) E rfl (by decide +kernel) rC_xk3 rC_xi3 rC_xg3 rC_xn3 rC_xo3 E.2.2.2.2.2.2.2.2.1 (is := 190) (text := "the desk is of another repository") (by decide +kernel) rfl rfl dX11_upload_42 dX11_upload_45 dX11_upload_46 dX11_upload_48 dX11_upload_51 (Nat.le_of_ble_eq_true rfl) (Nat.le_of_ble_eq_true rfl) ⟨Nat.le_of_ble_eq_true rfl, Nat.le_of_ble_eq_true rfl⟩ ⟨Nat.le_of_ble_eq_true rfl, Nat.le_of_ble_eq_true rfl⟩
  · refine rv_aload_n (q := 53) E.1.x dX11_upload_52 rfl rfl ?_
    refine rv_iload_n (q := 54) E.1.x dX11_upload_53 rfl rfl ?_
    refine rv_aload_n (q := 55) E.1.x dX11_upload_54 rfl rfl ?_
    refine rC_getX11 (q := 58) E.1 0 0 wfX11_10 rfl (Nat.le_of_ble_eq_true rfl) ⟨rfl, rfl⟩ rfl dX11_upload_55 rfl ?_
    refine rv_iload (q := 60) E.1.x dX11_upload_58 rfl rfl ?_
    refine rv_b1 (fun r19 e18 => ?_)
    refine rC_calliX9 (q := 63) E.1 ⟨rfl, rfl⟩ (c9_changeOf E.1.2.2.1 e18) gX11_192 hX9_changeOf ⟨rfl, rfl⟩ ⟨Nat.le_of_ble_eq_true rfl, Nat.le_of_ble_eq_true rfl⟩ ⟨Nat.le_of_ble_eq_true rfl, Nat.le_of_ble_eq_true rfl⟩ rfl rfl rfl (Nat.le_of_ble_eq_true rfl) dX11_upload_60 rfl ?_
    refine rv_b1 (fun r21 e20 => ?_)
    refine rC_calliX11 (q := 66) E.1 ⟨rfl, rfl⟩ (c11_isAtOrAbove E.1.2.2.1 e20) gX11_195 hX11_isAtOrAbove ⟨rfl, rfl⟩ ⟨Nat.le_of_ble_eq_true rfl, Nat.le_of_ble_eq_true rfl⟩ ⟨Nat.le_of_ble_eq_true rfl, Nat.le_of_ble_eq_true rfl⟩ rfl rfl rfl (Nat.le_of_ble_eq_true rfl) dX11_upload_63 rfl ?_
    refine rv_ifz_eq (q := 69) (tgt := 79) E.1.x dX11_upload_66 (by decide) rfl ?_ ?_
    · exact rC_throw (x := 3) E rfl (by decide +kernel) rC_xk3 rC_xi3 rC_xg3 rC_xn3 rC_xo3 E.2.2.2.2.2.2.2.2.1 (is := 199) (text := "the change would be above itself") (by decide +kernel) rfl rfl dX11_upload_69 dX11_upload_72 dX11_upload_73 dX11_upload_75 dX11_upload_78 (Nat.le_of_ble_eq_true rfl) (Nat.le_of_ble_eq_true rfl) ⟨Nat.le_of_ble_eq_true rfl, Nat.le_of_ble_eq_true rfl⟩ ⟨Nat.le_of_ble_eq_true rfl, Nat.le_of_ble_eq_true rfl⟩
    · refine rv_aload_n (q := 80) E.1.x dX11_upload_79 rfl rfl ?_
      refine rv_x2r (fun r23 e22 => ?_) (fun w24 e25 => rC_yVvX11 E ⟨rfl, rfl⟩ (fun _ => c11_needRoomForCommit_x E.2.1 E.1.2.2.1 e25) rfl gX11_201 hX11_needRoomForCommit ⟨rfl, rfl⟩ ⟨Nat.le_of_ble_eq_true rfl, Nat.le_of_ble_eq_true rfl⟩ ⟨Nat.le_of_ble_eq_true rfl, Nat.le_of_ble_eq_true rfl⟩ rfl rfl rfl (Nat.le_of_ble_eq_true rfl) dX11_upload_80 ⟨Nat.le_of_ble_eq_true rfl, Nat.le_of_ble_eq_true rfl⟩)
      refine rC_xVvX11 (q := 83) E ⟨rfl, rfl⟩ (fun _ => c11_needRoomForCommit E.2.1 E.1.2.2.1 e22) gX11_201 hX11_needRoomForCommit ⟨rfl, rfl⟩ ⟨Nat.le_of_ble_eq_true rfl, Nat.le_of_ble_eq_true rfl⟩ ⟨Nat.le_of_ble_eq_true rfl, Nat.le_of_ble_eq_true rfl⟩ rfl rfl rfl (Nat.le_of_ble_eq_true rfl) dX11_upload_80 rfl ?_
      refine rv_aload_n (q := 84) E.1.x dX11_upload_83 rfl rfl ?_
      refine rv_iload_n (q := 85) E.1.x dX11_upload_84 rfl rfl ?_
      refine rv_aload_n (q := 86) E.1.x dX11_upload_85 rfl rfl ?_
      refine rv_bipush (q := 88) E.1.x dX11_upload_86 rv_kb80 rfl ?_
      refine rv_iload (q := 90) E.1.x dX11_upload_88 rfl rfl ?_
      refine rv_b2 (fun r27 M28 e26 => ?_)
      refine rC_calliX11 (q := 93) E.1 ⟨rfl, rfl⟩ (c11_addSet E.1.2.2.1 e26) gX11_176 hX11_addSet ⟨rfl, rfl⟩ ⟨Nat.le_of_ble_eq_true rfl, Nat.le_of_ble_eq_true rfl⟩ ⟨Nat.le_of_ble_eq_true rfl, Nat.le_of_ble_eq_true rfl⟩ rfl rfl rfl (Nat.le_of_ble_eq_true rfl) dX11_upload_90 rfl ?_
      exact rv_tr (fun _ => trivial)
theorem c11_upload_x {l : Launch} {D : va_G} {cI cZ cO : ClassId} {ad : Nat → Nat} {gh : rC_gh} {de : Nat} (hfl : l.stackTraces = false) (hI : rC_I ad gh) {sz : Nat} {M : rv_Mem} {a1 : Int32} {a2 : Int32} {x : Nat} {M1 : rv_Mem} (h : f11_upload gh M a1 a2 = some (.inr (x, M1))) : vx_Met l yX11_upload (rv_ws yX11_upload cX11_upload 5 (some .int)) rmx11_upload (rC_Px D cI cZ cO ad gh de sz [.ref (ad 0), .int a1, .int a2] M) (rC_fi (rC_A ad gh sz)) (rC_xc D cI cZ cO ad gh de (rC_A ad gh sz) x M1) 1 6 (rC_A ad gh sz) := rC_xmet (Qc := fun A => rC_fi A) (XC := fun A => rC_xc D cI cZ cO ad gh de A x M1) hfl hI rfl (by decide) (Nat.le_of_ble_eq_true rfl) (fun p e s m args below meth c E => ⟨(qy11_upload D cI cZ cO ad gh de below args s), rfl, bx11_upload E M a1 a2⟩) h
abbrev rm11_findParent : Room := { frames := 4, cells := 0, slots := 0, locals := 101 }
set_option maxRecDepth 100000 in
theorem b11_findParent_41 {p : Program} {l : Launch} {e : Env} {s : State} {m : MethodId} {args : Array Value} {below : List Frame} {meth : Method} {c : Code} {D : va_G} {cI cZ cO : ClassId} {ad : Nat → Nat} {gh : rC_gh} {de : Nat} (E : rC_E D cI cZ cO ad gh (rC_K ad gh) RX11 cX11_findParent 3 (some (.object "ReviewForge$Change")) p s m args meth c) (M : rv_Mem)   : rv_M (rC_G D cI cZ cO ad gh de) (rC_K ad gh) p l e rm11_findParent s m args below meth c 0 0 (rC_qO D cI cZ cO ad gh de below args s M) (f11_findParent_41 gh M) 41 [none, none, none] [] M := by
  unfold f11_findParent_41
  refine rv_null (q := 42) E.x dX11_findParent_41 rfl ?_
  exact rC_aretO (o := none) E rfl rfl dX11_findParent_42
set_option maxRecDepth 100000 in
theorem b11_findParent {p : Program} {l : Launch} {e : Env} {s : State} {m : MethodId} {args : Array Value} {below : List Frame} {meth : Method} {c : Code} {D : va_G} {cI cZ cO : ClassId} {ad : Nat → Nat} {gh : rC_gh} {de : Nat} (E : rC_E D cI cZ cO ad gh (rC_K ad gh) RX11 cX11_findParent 3 (some (.object "ReviewForge$Change")) p s m args meth c) (M : rv_Mem) (a1 : Nat) : rv_M (rC_G D cI cZ cO ad gh de) (rC_K ad gh) p l e rm11_findParent s m args below meth c 0 0 (rC_qO D cI cZ cO ad gh de below args s M) (f11_findParent gh M a1) 0 [some (.ref (ad 0)), some (.ref (ad a1)), none] [] M := by
  unfold f11_findParent
  refine rv_aload_n (q := 1) E.x dX11_findParent_0 rfl rfl ?_
  refine rC_getX11 (q := 4) E 0 0 wfX11_10 rfl (Nat.le_of_ble_eq_true rfl) ⟨rfl, rfl⟩ rfl dX11_findParent_1 rfl ?_
  refine rv_aload_n (q := 5) E.x dX11_findParent_4 rfl rfl ?_
  refine rv_g (fun g1 => ?_)
  refine rC_getX0 (q := 8) E a1 0 wfX11_180 rfl (Nat.le_of_ble_eq_true rfl) (rC_at_of g1) rfl dX11_findParent_5 rfl ?_
  refine rv_b1 (fun r3 e2 => ?_)
  refine rC_calliX9 (q := 11) E ⟨rfl, rfl⟩ (c9_parentNumber E.2.2.1 e2) gX11_230 hX9_parentNumber ⟨rfl, rfl⟩ ⟨Nat.le_of_ble_eq_true rfl, Nat.le_of_ble_eq_true rfl⟩ ⟨Nat.le_of_ble_eq_true rfl, Nat.le_of_ble_eq_true rfl⟩ rfl rfl rfl (Nat.le_of_ble_eq_true rfl) dX11_findParent_8 rfl ?_
  refine rv_istore_n (q := 12) (lv' := [_, _, _]) E.x dX11_findParent_11 (Nat.le_of_ble_eq_true rfl) rfl rfl rfl ?_
  refine rv_iload_n (q := 13) E.x dX11_findParent_12 rfl rfl ?_
  refine rv_if_lt (q := 16) (tgt := 41) E.x dX11_findParent_13 (by decide) rfl ?_ ?_
  · refine rv_iload_n (q := 17) E.x dX11_findParent_16 rfl rfl ?_
    refine rv_aload_n (q := 18) E.x dX11_findParent_17 rfl rfl ?_
    refine rC_getX11 (q := 21) E 0 5 wfX11_49 rfl (Nat.le_of_ble_eq_true rfl) ⟨rfl, rfl⟩ rfl dX11_findParent_18 rfl ?_
    refine rC_lsz (q := 24) E 0 (by decide) (cJ_size E.2.2.1 0) gX11_155 ⟨Nat.le_of_ble_eq_true rfl, Nat.le_of_ble_eq_true rfl⟩ ⟨Nat.le_of_ble_eq_true rfl, Nat.le_of_ble_eq_true rfl⟩ rfl (Nat.le_of_ble_eq_true rfl) dX11_findParent_21 rfl ?_
    refine rv_icmp_ge (q := 27) (tgt := 41) E.x dX11_findParent_24 (by decide) rfl ?_ ?_
    · refine rv_aload_n (q := 28) E.x dX11_findParent_27 rfl rfl ?_
      refine rC_getX11 (q := 31) E 0 5 wfX11_49 rfl (Nat.le_of_ble_eq_true rfl) ⟨rfl, rfl⟩ rfl dX11_findParent_28 rfl ?_
      refine rv_iload_n (q := 32) E.x dX11_findParent_31 rfl rfl ?_
      refine rC_lgt (q := 35) E 0 (by decide) (cJ_get E.2.2.1 0) ⟨rfl, rfl⟩ gX11_223 ⟨Nat.le_of_ble_eq_true rfl, Nat.le_of_ble_eq_true rfl⟩ ⟨Nat.le_of_ble_eq_true rfl, Nat.le_of_ble_eq_true rfl⟩ rfl (Nat.le_of_ble_eq_true rfl) dX11_findParent_32 rfl ?_
      refine rv_g (fun g4 => ?_)
      refine rC_cstX0 (q := 38) E (rC_at_of g4) wxX11_165 dX11_findParent_35 rfl ?_
      refine rv_goto (q := 42) E.x dX11_findParent_38 (by decide) ?_
      exact rC_aretO (o := (some (100 + (r3).toNatClampNeg))) E rfl rfl dX11_findParent_42
    · refine rv_wk [false, false, false] ?_
      exact b11_findParent_41 E M
  · refine rv_wk [false, false, false] ?_
    exact b11_findParent_41 E M
theorem c11_findParent {l : Launch} {D : va_G} {cI cZ cO : ClassId} {ad : Nat → Nat} {gh : rC_gh} {de : Nat} (hI : rC_I ad gh) {M : rv_Mem} {a1 : Nat} {r : Option Nat} (h : f11_findParent gh M a1 = some r) : Met l yX11_findParent (rv_ws yX11_findParent cX11_findParent 3 (some (.object "ReviewForge$Change"))) rm11_findParent (rC_Pc D cI cZ cO ad gh de [.ref (ad 0), .ref (ad a1)] M) (rC_QO D cI cZ cO ad gh de r M) 0 0 (rC_K ad gh) := rC_met hI rfl (by decide) (Nat.le_of_ble_eq_true rfl) (fun p e s m args below meth c E => ⟨(rC_qO D cI cZ cO ad gh de below args s M), rfl, b11_findParent E M a1⟩) h
abbrev rm11_newBaseOf : Room := { frames := 5, cells := 0, slots := 0, locals := 123 }
set_option maxRecDepth 100000 in
theorem b11_newBaseOf {p : Program} {l : Launch} {e : Env} {s : State} {m : MethodId} {args : Array Value} {below : List Frame} {meth : Method} {c : Code} {D : va_G} {cI cZ cO : ClassId} {ad : Nat → Nat} {gh : rC_gh} {de : Nat} (E : rC_E D cI cZ cO ad gh (rC_K ad gh) RX11 cX11_newBaseOf 3 (some .int) p s m args meth c) (M : rv_Mem) (a1 : Nat) : rv_M (rC_G D cI cZ cO ad gh de) (rC_K ad gh) p l e rm11_newBaseOf s m args below meth c 0 0 (rC_qI D cI cZ cO ad gh de below args s M) (f11_newBaseOf gh M a1) 0 [some (.ref (ad 0)), some (.ref (ad a1)), none] [] M := by
  unfold f11_newBaseOf
  refine rv_aload_n (q := 1) E.x dX11_newBaseOf_0 rfl rfl ?_
  refine rv_aload_n (q := 2) E.x dX11_newBaseOf_1 rfl rfl ?_
  refine rv_b1 (fun r2 e1 => ?_)
  refine rC_calloX11 (q := 5) E ⟨rfl, rfl⟩ (c11_findParent E.2.2.1 e1) gX11_521 hX11_findParent ⟨rfl, rfl⟩ ⟨Nat.le_of_ble_eq_true rfl, Nat.le_of_ble_eq_true rfl⟩ ⟨Nat.le_of_ble_eq_true rfl, Nat.le_of_ble_eq_true rfl⟩ rfl rfl rfl (Nat.le_of_ble_eq_true rfl) dX11_newBaseOf_2 rfl ?_
  refine rv_omr (fun e4 => ?_) (fun k3 e5 => ?_)
  · refine rv_astore_nN (q := 6) (lv' := [_, _, _]) E.x dX11_newBaseOf_5 (Nat.le_of_ble_eq_true rfl) rfl rfl rfl ?_
    refine rv_aload_nN (q := 7) E.x dX11_newBaseOf_6 rfl rfl ?_
    refine rv_ifnullN (q := 29) E.x dX11_newBaseOf_7 (by decide) ?_
    refine rv_aload_nN (q := 30) E.x dX11_newBaseOf_29 rfl rfl ?_
    refine rv_ifnullN (q := 46) E.x dX11_newBaseOf_30 (by decide) ?_
    refine rv_aload_n (q := 47) E.x dX11_newBaseOf_46 rfl rfl ?_
    refine rC_getX11 (q := 50) E 0 0 wfX11_10 rfl (Nat.le_of_ble_eq_true rfl) ⟨rfl, rfl⟩ rfl dX11_newBaseOf_47 rfl ?_
    refine rv_aload_n (q := 51) E.x dX11_newBaseOf_50 rfl rfl ?_
    refine rv_g (fun g6 => ?_)
    refine rC_getX0 (q := 54) E a1 2 wfX11_187 rfl (Nat.le_of_ble_eq_true rfl) (rC_at_of g6) rfl dX11_newBaseOf_51 rfl ?_
    refine rv_b1 (fun r8 e7 => ?_)
    refine rC_calliX9 (q := 57) E ⟨rfl, rfl⟩ (c9_tipOf E.2.2.1 e7) gX11_146 hX9_tipOf ⟨rfl, rfl⟩ ⟨Nat.le_of_ble_eq_true rfl, Nat.le_of_ble_eq_true rfl⟩ ⟨Nat.le_of_ble_eq_true rfl, Nat.le_of_ble_eq_true rfl⟩ rfl rfl rfl (Nat.le_of_ble_eq_true rfl) dX11_newBaseOf_54 rfl ?_
    exact rC_iret E rfl dX11_newBaseOf_57
  · refine rv_astore_n (q := 6) (lv' := [_, _, _]) E.x dX11_newBaseOf_5 (Nat.le_of_ble_eq_true rfl) rfl rfl rfl ?_
    refine rv_aload_n (q := 7) E.x dX11_newBaseOf_6 rfl rfl ?_
    refine rv_ifnull (q := 10) E.x dX11_newBaseOf_7 rfl ?_
    refine rv_aload_n (q := 11) E.x dX11_newBaseOf_10 rfl rfl ?_
    refine rv_g (fun g9 => ?_)
    refine rC_getX0 (q := 14) E k3 5 wfX11_227 rfl (Nat.le_of_ble_eq_true rfl) (rC_at_of g9) rfl dX11_newBaseOf_11 rfl ?_
    refine rv_if_ne (q := 17) (tgt := 29) E.x dX11_newBaseOf_14 (by decide) rfl ?_ ?_
    · refine rv_aload_n (q := 18) E.x dX11_newBaseOf_17 rfl rfl ?_
      refine rC_getX11 (q := 21) E 0 0 wfX11_10 rfl (Nat.le_of_ble_eq_true rfl) ⟨rfl, rfl⟩ rfl dX11_newBaseOf_18 rfl ?_
      refine rv_aload_n (q := 22) E.x dX11_newBaseOf_21 rfl rfl ?_
      refine rC_getX0 (q := 25) E k3 0 wfX11_180 rfl (Nat.le_of_ble_eq_true rfl) (rC_at_of g9) rfl dX11_newBaseOf_22 rfl ?_
      refine rv_b1 (fun r11 e10 => ?_)
      refine rC_calliX9 (q := 28) E ⟨rfl, rfl⟩ (c9_currentOf E.2.2.1 e10) gX11_204 hX9_currentOf ⟨rfl, rfl⟩ ⟨Nat.le_of_ble_eq_true rfl, Nat.le_of_ble_eq_true rfl⟩ ⟨Nat.le_of_ble_eq_true rfl, Nat.le_of_ble_eq_true rfl⟩ rfl rfl rfl (Nat.le_of_ble_eq_true rfl) dX11_newBaseOf_25 rfl ?_
      exact rC_iret E rfl dX11_newBaseOf_28
    · refine rv_aload_n (q := 30) E.x dX11_newBaseOf_29 rfl rfl ?_
      refine rv_ifnull (q := 33) E.x dX11_newBaseOf_30 rfl ?_
      refine rv_aload_n (q := 34) E.x dX11_newBaseOf_33 rfl rfl ?_
      refine rC_getX0 (q := 37) E k3 5 wfX11_227 rfl (Nat.le_of_ble_eq_true rfl) (rC_at_of g9) rfl dX11_newBaseOf_34 rfl ?_
      refine rv_iconst (q := 38) E.x dX11_newBaseOf_37 rv_ki1 rfl ?_
      refine rv_icmp_ne (q := 41) (tgt := 46) E.x dX11_newBaseOf_38 (by decide) rfl ?_ ?_
      · refine rv_aload_n (q := 42) E.x dX11_newBaseOf_41 rfl rfl ?_
        refine rC_getX0 (q := 45) E k3 12 wfX11_525 rfl (Nat.le_of_ble_eq_true rfl) (rC_at_of g9) rfl dX11_newBaseOf_42 rfl ?_
        exact rC_iret E rfl dX11_newBaseOf_45
      · refine rv_aload_n (q := 47) E.x dX11_newBaseOf_46 rfl rfl ?_
        refine rC_getX11 (q := 50) E 0 0 wfX11_10 rfl (Nat.le_of_ble_eq_true rfl) ⟨rfl, rfl⟩ rfl dX11_newBaseOf_47 rfl ?_
        refine rv_aload_n (q := 51) E.x dX11_newBaseOf_50 rfl rfl ?_
        refine rv_g (fun g12 => ?_)
        refine rC_getX0 (q := 54) E a1 2 wfX11_187 rfl (Nat.le_of_ble_eq_true rfl) (rC_at_of g12) rfl dX11_newBaseOf_51 rfl ?_
        refine rv_b1 (fun r14 e13 => ?_)
        refine rC_calliX9 (q := 57) E ⟨rfl, rfl⟩ (c9_tipOf E.2.2.1 e13) gX11_146 hX9_tipOf ⟨rfl, rfl⟩ ⟨Nat.le_of_ble_eq_true rfl, Nat.le_of_ble_eq_true rfl⟩ ⟨Nat.le_of_ble_eq_true rfl, Nat.le_of_ble_eq_true rfl⟩ rfl rfl rfl (Nat.le_of_ble_eq_true rfl) dX11_newBaseOf_54 rfl ?_
        exact rC_iret E rfl dX11_newBaseOf_57
theorem c11_newBaseOf {l : Launch} {D : va_G} {cI cZ cO : ClassId} {ad : Nat → Nat} {gh : rC_gh} {de : Nat} (hI : rC_I ad gh) {M : rv_Mem} {a1 : Nat} {r : Int32} (h : f11_newBaseOf gh M a1 = some r) : Met l yX11_newBaseOf (rv_ws yX11_newBaseOf cX11_newBaseOf 3 (some .int)) rm11_newBaseOf (rC_Pc D cI cZ cO ad gh de [.ref (ad 0), .ref (ad a1)] M) (rC_QI D cI cZ cO ad gh de r M) 0 0 (rC_K ad gh) := rC_met hI rfl (by decide) (Nat.le_of_ble_eq_true rfl) (fun p e s m args below meth c E => ⟨(rC_qI D cI cZ cO ad gh de below args s M), rfl, b11_newBaseOf E M a1⟩) h
abbrev rm11_rebase : Room := { frames := 8, cells := 0, slots := 0, locals := 157 }
def qx11_rebase (D : va_G) (cI cZ cO : ClassId) (ad : Nat → Nat) (gh : rC_gh) (de : Nat) (below : List Frame) (args : Array Value) (s : State) : (Int32 × rv_Mem) ⊕ (Nat × rv_Mem) → State → Prop := fun r => match r with
  | .inl r => vx_MQ below (rC_qi D cI cZ cO ad gh de (rC_A ad gh s.heap.size) r.1 r.2) (rC_fx (rC_A ad gh s.heap.size)) args s 0 0 (rC_A ad gh s.heap.size)
  | .inr _ => fun _ => True
set_option maxRecDepth 100000 in
theorem b11_rebase {p : Program} {l : Launch} {e : Env} {s : State} {m : MethodId} {args : Array Value} {below : List Frame} {meth : Method} {c : Code} {D : va_G} {cI cZ cO : ClassId} {ad : Nat → Nat} {gh : rC_gh} {de : Nat} (E : rC_X D cI cZ cO ad gh RX11 cX11_rebase 7 (some .int) p l s m args meth c) (M : rv_Mem) (a1 : Int32) (a2 : Int32) : rv_M (rC_G D cI cZ cO ad gh de) (rC_A ad gh s.heap.size) p l e rm11_rebase s m args below meth c 0 0 (qx11_rebase D cI cZ cO ad gh de below args s) (f11_rebase gh M a1 a2) 0 [some (.ref (ad 0)), some (.int a1), some (.int a2), none, none, none, none] [] M := by
  unfold f11_rebase
  refine rv_iload_n (q := 1) E.1.x dX11_rebase_0 rfl rfl ?_
  refine rv_x2r (fun r2 e1 => ?_) (fun w3 e4 => rv_tr (fun _ => trivial))
  refine rC_xSv (q := 4) E (fun _ => c11_needPerson E.2.1 E.1.2.2.1 e1) gX11_152 hX11_needPerson ⟨rfl, rfl⟩ ⟨Nat.le_of_ble_eq_true rfl, Nat.le_of_ble_eq_true rfl⟩ ⟨Nat.le_of_ble_eq_true rfl, Nat.le_of_ble_eq_true rfl⟩ rfl rfl rfl (Nat.le_of_ble_eq_true rfl) dX11_rebase_1 rfl ?_
  refine rv_aload_n (q := 5) E.1.x dX11_rebase_4 rfl rfl ?_
  refine rv_iload_n (q := 6) E.1.x dX11_rebase_5 rfl rfl ?_
  refine rv_x2r (fun r6 e5 => ?_) (fun w7 e8 => rv_tr (fun _ => trivial))
  refine rC_xVrX11 (q := 9) E ⟨rfl, rfl⟩ (fun _ => c11_needChange E.2.1 E.1.2.2.1 e5) gX11_91 hX11_needChange ⟨rfl, rfl⟩ ⟨Nat.le_of_ble_eq_true rfl, Nat.le_of_ble_eq_true rfl⟩ ⟨Nat.le_of_ble_eq_true rfl, Nat.le_of_ble_eq_true rfl⟩ rfl rfl rfl (Nat.le_of_ble_eq_true rfl) dX11_rebase_6 rfl ?_
  refine rv_astore_n (q := 10) (lv' := [_, _, _, _, _, _, _]) E.1.x dX11_rebase_9 (Nat.le_of_ble_eq_true rfl) rfl rfl rfl ?_
  refine rv_iload_n (q := 11) E.1.x dX11_rebase_10 rfl rfl ?_
  refine rv_aload_n (q := 12) E.1.x dX11_rebase_11 rfl rfl ?_
  refine rv_x2r (fun r10 e9 => ?_) (fun w11 e12 => rv_tr (fun _ => trivial))
  refine rC_xSv (q := 15) E (fun _ => c11_needOpenAndSeen E.2.1 E.1.2.2.1 e9) gX11_183 hX11_needOpenAndSeen ⟨rfl, rfl⟩ ⟨Nat.le_of_ble_eq_true rfl, Nat.le_of_ble_eq_true rfl⟩ ⟨Nat.le_of_ble_eq_true rfl, Nat.le_of_ble_eq_true rfl⟩ rfl rfl rfl (Nat.le_of_ble_eq_true rfl) dX11_rebase_12 rfl ?_
  refine rv_aload_n (q := 16) E.1.x dX11_rebase_15 rfl rfl ?_
  refine rC_getX11 (q := 19) E.1 0 0 wfX11_10 rfl (Nat.le_of_ble_eq_true rfl) ⟨rfl, rfl⟩ rfl dX11_rebase_16 rfl ?_
  refine rv_iload_n (q := 20) E.1.x dX11_rebase_19 rfl rfl ?_
  refine rv_b1 (fun r14 e13 => ?_)
  refine rC_calliX9 (q := 23) E.1 ⟨rfl, rfl⟩ (c9_currentOf E.1.2.2.1 e13) gX11_204 hX9_currentOf ⟨rfl, rfl⟩ ⟨Nat.le_of_ble_eq_true rfl, Nat.le_of_ble_eq_true rfl⟩ ⟨Nat.le_of_ble_eq_true rfl, Nat.le_of_ble_eq_true rfl⟩ rfl rfl rfl (Nat.le_of_ble_eq_true rfl) dX11_rebase_20 rfl ?_
  refine rv_istore (q := 25) (lv' := [_, _, _, _, _, _, _]) E.1.x dX11_rebase_23 (Nat.le_of_ble_eq_true rfl) rfl rfl rfl ?_
  refine rv_aload_n (q := 26) E.1.x dX11_rebase_25 rfl rfl ?_
  refine rC_getX11 (q := 29) E.1 0 0 wfX11_10 rfl (Nat.le_of_ble_eq_true rfl) ⟨rfl, rfl⟩ rfl dX11_rebase_26 rfl ?_
  refine rv_iload (q := 31) E.1.x dX11_rebase_29 rfl rfl ?_
  refine rv_b1 (fun r16 e15 => ?_)
  refine rC_calliX9 (q := 34) E.1 ⟨rfl, rfl⟩ (c9_baseOf E.1.2.2.1 e15) gX11_99 hX9_baseOf ⟨rfl, rfl⟩ ⟨Nat.le_of_ble_eq_true rfl, Nat.le_of_ble_eq_true rfl⟩ ⟨Nat.le_of_ble_eq_true rfl, Nat.le_of_ble_eq_true rfl⟩ rfl rfl rfl (Nat.le_of_ble_eq_true rfl) dX11_rebase_31 rfl ?_
  refine rv_istore (q := 36) (lv' := [_, _, _, _, _, _, _]) E.1.x dX11_rebase_34 (Nat.le_of_ble_eq_true rfl) rfl rfl rfl ?_
  refine rv_aload_n (q := 37) E.1.x dX11_rebase_36 rfl rfl ?_
  refine rv_aload_n (q := 38) E.1.x dX11_rebase_37 rfl rfl ?_
  refine rv_b1 (fun r18 e17 => ?_)
  refine rC_calliX11 (q := 41) E.1 ⟨rfl, rfl⟩ (c11_newBaseOf E.1.2.2.1 e17) gX11_207 hX11_newBaseOf ⟨rfl, rfl⟩ ⟨Nat.le_of_ble_eq_true rfl, Nat.le_of_ble_eq_true rfl⟩ ⟨Nat.le_of_ble_eq_true rfl, Nat.le_of_ble_eq_true rfl⟩ rfl rfl rfl (Nat.le_of_ble_eq_true rfl) dX11_rebase_38 rfl ?_
  refine rv_istore (q := 43) (lv' := [_, _, _, _, _, _, _]) E.1.x dX11_rebase_41 (Nat.le_of_ble_eq_true rfl) rfl rfl rfl ?_
  refine rv_iload (q := 45) E.1.x dX11_rebase_43 rfl rfl ?_
  refine rv_iload (q := 47) E.1.x dX11_rebase_45 rfl rfl ?_
  refine rv_icmp_ne (q := 50) (tgt := 60) E.1.x dX11_rebase_47 (by decide) rfl ?_ ?_
  · exact rv_tr (fun _ => trivial)
  · refine rv_aload_n (q := 61) E.1.x dX11_rebase_60 rfl rfl ?_
    refine rv_x2r (fun r20 e19 => ?_) (fun w21 e22 => rv_tr (fun _ => trivial))
    refine rC_xVvX11 (q := 64) E ⟨rfl, rfl⟩ (fun _ => c11_needRoomForCommit E.2.1 E.1.2.2.1 e19) gX11_201 hX11_needRoomForCommit ⟨rfl, rfl⟩ ⟨Nat.le_of_ble_eq_true rfl, Nat.le_of_ble_eq_true rfl⟩ ⟨Nat.le_of_ble_eq_true rfl, Nat.le_of_ble_eq_true rfl⟩ rfl rfl rfl (Nat.le_of_ble_eq_true rfl) dX11_rebase_61 rfl ?_
    refine rv_aload_n (q := 65) E.1.x dX11_rebase_64 rfl rfl ?_
    refine rC_getX11 (q := 68) E.1 0 1 wfX11_21 rfl (Nat.le_of_ble_eq_true rfl) ⟨rfl, rfl⟩ rfl dX11_rebase_65 rfl ?_
    refine rv_iload (q := 70) E.1.x dX11_rebase_68 rfl rfl ?_
    refine rv_iload (q := 72) E.1.x dX11_rebase_70 rfl rfl ?_
    refine rv_iload (q := 74) E.1.x dX11_rebase_72 rfl rfl ?_
    refine rv_b2 (fun r24 M25 e23 => ?_)
    refine rC_calliX2 (q := 77) E.1 ⟨rfl, rfl⟩ (c2_mergeRows E.1.2.2.1 e23) gX11_213 hX2_mergeRows ⟨rfl, rfl⟩ ⟨Nat.le_of_ble_eq_true rfl, Nat.le_of_ble_eq_true rfl⟩ ⟨Nat.le_of_ble_eq_true rfl, Nat.le_of_ble_eq_true rfl⟩ rfl rfl rfl (Nat.le_of_ble_eq_true rfl) dX11_rebase_74 rfl ?_
    refine rv_ifz_ne (q := 80) (tgt := 90) E.1.x dX11_rebase_77 (by decide) rfl ?_ ?_
    · exact rv_tr (fun _ => trivial)
    · refine rv_aload_n (q := 91) E.1.x dX11_rebase_90 rfl rfl ?_
      refine rv_iload_n (q := 92) E.1.x dX11_rebase_91 rfl rfl ?_
      refine rv_aload_n (q := 93) E.1.x dX11_rebase_92 rfl rfl ?_
      refine rv_bipush (q := 95) E.1.x dX11_rebase_93 rv_kb81 rfl ?_
      refine rv_iload (q := 97) E.1.x dX11_rebase_95 rfl rfl ?_
      refine rv_b2 (fun r27 M28 e26 => ?_)
      refine rC_calliX11 (q := 100) E.1 ⟨rfl, rfl⟩ (c11_addSet E.1.2.2.1 e26) gX11_176 hX11_addSet ⟨rfl, rfl⟩ ⟨Nat.le_of_ble_eq_true rfl, Nat.le_of_ble_eq_true rfl⟩ ⟨Nat.le_of_ble_eq_true rfl, Nat.le_of_ble_eq_true rfl⟩ rfl rfl rfl (Nat.le_of_ble_eq_true rfl) dX11_rebase_97 rfl ?_
      exact rC_xiret E rfl ⟨Nat.le_of_ble_eq_true rfl, Nat.le_of_ble_eq_true rfl⟩ dX11_rebase_100
theorem c11_rebase {l : Launch} {D : va_G} {cI cZ cO : ClassId} {ad : Nat → Nat} {gh : rC_gh} {de : Nat} (hfl : l.stackTraces = false) (hI : rC_I ad gh) {sz : Nat} {M : rv_Mem} {a1 : Int32} {a2 : Int32} {r : Int32} {M1 : rv_Mem} (h : f11_rebase gh M a1 a2 = some (.inl (r, M1))) : vx_Met l yX11_rebase (rv_ws yX11_rebase cX11_rebase 7 (some .int)) rm11_rebase (rC_Px D cI cZ cO ad gh de sz [.ref (ad 0), .int a1, .int a2] M) (rC_qi D cI cZ cO ad gh de (rC_A ad gh sz) r M1) (rC_fx (rC_A ad gh sz)) 0 0 (rC_A ad gh sz) := rC_xmet (Qc := fun A => rC_qi D cI cZ cO ad gh de A r M1) (XC := fun A => rC_fx A) hfl hI rfl (by decide) (Nat.le_of_ble_eq_true rfl) (fun p e s m args below meth c E => ⟨(qx11_rebase D cI cZ cO ad gh de below args s), rfl, b11_rebase E M a1 a2⟩) h
abbrev rmx11_rebase : Room := { frames := 8, cells := 1, slots := 6, locals := 157 }
def qy11_rebase (D : va_G) (cI cZ cO : ClassId) (ad : Nat → Nat) (gh : rC_gh) (de : Nat) (below : List Frame) (args : Array Value) (s : State) : (Int32 × rv_Mem) ⊕ (Nat × rv_Mem) → State → Prop := fun r => match r with
  | .inl _ => fun _ => True
  | .inr r => vx_MQ below (rC_fi (rC_A ad gh s.heap.size)) (rC_xc D cI cZ cO ad gh de (rC_A ad gh s.heap.size) r.1 r.2) args s 1 6 (rC_A ad gh s.heap.size)
set_option maxRecDepth 100000 in
theorem bx11_rebase {p : Program} {l : Launch} {e : Env} {s : State} {m : MethodId} {args : Array Value} {below : List Frame} {meth : Method} {c : Code} {D : va_G} {cI cZ cO : ClassId} {ad : Nat → Nat} {gh : rC_gh} {de : Nat} (E : rC_X D cI cZ cO ad gh RX11 cX11_rebase 7 (some .int) p l s m args meth c) (M : rv_Mem) (a1 : Int32) (a2 : Int32) : rv_M (rC_G D cI cZ cO ad gh de) (rC_A ad gh s.heap.size) p l e rmx11_rebase s m args below meth c 0 0 (qy11_rebase D cI cZ cO ad gh de below args s) (f11_rebase gh M a1 a2) 0 [some (.ref (ad 0)), some (.int a1), some (.int a2), none, none, none, none] [] M := by
  unfold f11_rebase
  refine rv_iload_n (q := 1) E.1.x dX11_rebase_0 rfl rfl ?_
  refine rv_x2r (fun r2 e1 => ?_) (fun w3 e4 => rC_ySv E (fun _ => c11_needPerson_x E.2.1 E.1.2.2.1 e4) rfl gX11_152 hX11_needPerson ⟨rfl, rfl⟩ ⟨Nat.le_of_ble_eq_true rfl, Nat.le_of_ble_eq_true rfl⟩ ⟨Nat.le_of_ble_eq_true rfl, Nat.le_of_ble_eq_true rfl⟩ rfl rfl rfl (Nat.le_of_ble_eq_true rfl) dX11_rebase_1 ⟨Nat.le_of_ble_eq_true rfl, Nat.le_of_ble_eq_true rfl⟩)
  refine rC_xSv (q := 4) E (fun _ => c11_needPerson E.2.1 E.1.2.2.1 e1) gX11_152 hX11_needPerson ⟨rfl, rfl⟩ ⟨Nat.le_of_ble_eq_true rfl, Nat.le_of_ble_eq_true rfl⟩ ⟨Nat.le_of_ble_eq_true rfl, Nat.le_of_ble_eq_true rfl⟩ rfl rfl rfl (Nat.le_of_ble_eq_true rfl) dX11_rebase_1 rfl ?_
  refine rv_aload_n (q := 5) E.1.x dX11_rebase_4 rfl rfl ?_
  refine rv_iload_n (q := 6) E.1.x dX11_rebase_5 rfl rfl ?_
  refine rv_x2r (fun r6 e5 => ?_) (fun w7 e8 => rC_yVrX11 E ⟨rfl, rfl⟩ (fun _ => c11_needChange_x E.2.1 E.1.2.2.1 e8) rfl gX11_91 hX11_needChange ⟨rfl, rfl⟩ ⟨Nat.le_of_ble_eq_true rfl, Nat.le_of_ble_eq_true rfl⟩ ⟨Nat.le_of_ble_eq_true rfl, Nat.le_of_ble_eq_true rfl⟩ rfl rfl rfl (Nat.le_of_ble_eq_true rfl) dX11_rebase_6 ⟨Nat.le_of_ble_eq_true rfl, Nat.le_of_ble_eq_true rfl⟩)
  refine rC_xVrX11 (q := 9) E ⟨rfl, rfl⟩ (fun _ => c11_needChange E.2.1 E.1.2.2.1 e5) gX11_91 hX11_needChange ⟨rfl, rfl⟩ ⟨Nat.le_of_ble_eq_true rfl, Nat.le_of_ble_eq_true rfl⟩ ⟨Nat.le_of_ble_eq_true rfl, Nat.le_of_ble_eq_true rfl⟩ rfl rfl rfl (Nat.le_of_ble_eq_true rfl) dX11_rebase_6 rfl ?_
  refine rv_astore_n (q := 10) (lv' := [_, _, _, _, _, _, _]) E.1.x dX11_rebase_9 (Nat.le_of_ble_eq_true rfl) rfl rfl rfl ?_
  refine rv_iload_n (q := 11) E.1.x dX11_rebase_10 rfl rfl ?_
  refine rv_aload_n (q := 12) E.1.x dX11_rebase_11 rfl rfl ?_
  refine rv_x2r (fun r10 e9 => ?_) (fun w11 e12 => rC_ySv E (fun _ => c11_needOpenAndSeen_x E.2.1 E.1.2.2.1 e12) rfl gX11_183 hX11_needOpenAndSeen ⟨rfl, rfl⟩ ⟨Nat.le_of_ble_eq_true rfl, Nat.le_of_ble_eq_true rfl⟩ ⟨Nat.le_of_ble_eq_true rfl, Nat.le_of_ble_eq_true rfl⟩ rfl rfl rfl (Nat.le_of_ble_eq_true rfl) dX11_rebase_12 ⟨Nat.le_of_ble_eq_true rfl, Nat.le_of_ble_eq_true rfl⟩)
  refine rC_xSv (q := 15) E (fun _ => c11_needOpenAndSeen E.2.1 E.1.2.2.1 e9) gX11_183 hX11_needOpenAndSeen ⟨rfl, rfl⟩ ⟨Nat.le_of_ble_eq_true rfl, Nat.le_of_ble_eq_true rfl⟩ ⟨Nat.le_of_ble_eq_true rfl, Nat.le_of_ble_eq_true rfl⟩ rfl rfl rfl (Nat.le_of_ble_eq_true rfl) dX11_rebase_12 rfl ?_
  refine rv_aload_n (q := 16) E.1.x dX11_rebase_15 rfl rfl ?_
  refine rC_getX11 (q := 19) E.1 0 0 wfX11_10 rfl (Nat.le_of_ble_eq_true rfl) ⟨rfl, rfl⟩ rfl dX11_rebase_16 rfl ?_
  refine rv_iload_n (q := 20) E.1.x dX11_rebase_19 rfl rfl ?_
  refine rv_b1 (fun r14 e13 => ?_)
  refine rC_calliX9 (q := 23) E.1 ⟨rfl, rfl⟩ (c9_currentOf E.1.2.2.1 e13) gX11_204 hX9_currentOf ⟨rfl, rfl⟩ ⟨Nat.le_of_ble_eq_true rfl, Nat.le_of_ble_eq_true rfl⟩ ⟨Nat.le_of_ble_eq_true rfl, Nat.le_of_ble_eq_true rfl⟩ rfl rfl rfl (Nat.le_of_ble_eq_true rfl) dX11_rebase_20 rfl ?_
  refine rv_istore (q := 25) (lv' := [_, _, _, _, _, _, _]) E.1.x dX11_rebase_23 (Nat.le_of_ble_eq_true rfl) rfl rfl rfl ?_
  refine rv_aload_n (q := 26) E.1.x dX11_rebase_25 rfl rfl ?_
  refine rC_getX11 (q := 29) E.1 0 0 wfX11_10 rfl (Nat.le_of_ble_eq_true rfl) ⟨rfl, rfl⟩ rfl dX11_rebase_26 rfl ?_
  refine rv_iload (q := 31) E.1.x dX11_rebase_29 rfl rfl ?_
  refine rv_b1 (fun r16 e15 => ?_)
  refine rC_calliX9 (q := 34) E.1 ⟨rfl, rfl⟩ (c9_baseOf E.1.2.2.1 e15) gX11_99 hX9_baseOf ⟨rfl, rfl⟩ ⟨Nat.le_of_ble_eq_true rfl, Nat.le_of_ble_eq_true rfl⟩ ⟨Nat.le_of_ble_eq_true rfl, Nat.le_of_ble_eq_true rfl⟩ rfl rfl rfl (Nat.le_of_ble_eq_true rfl) dX11_rebase_31 rfl ?_
  refine rv_istore (q := 36) (lv' := [_, _, _, _, _, _, _]) E.1.x dX11_rebase_34 (Nat.le_of_ble_eq_true rfl) rfl rfl rfl ?_
  refine rv_aload_n (q := 37) E.1.x dX11_rebase_36 rfl rfl ?_
  refine rv_aload_n (q := 38) E.1.x dX11_rebase_37 rfl rfl ?_
  refine rv_b1 (fun r18 e17 => ?_)
  refine rC_calliX11 (q := 41) E.1 ⟨rfl, rfl⟩ (c11_newBaseOf E.1.2.2.1 e17) gX11_207 hX11_newBaseOf ⟨rfl, rfl⟩ ⟨Nat.le_of_ble_eq_true rfl, Nat.le_of_ble_eq_true rfl⟩ ⟨Nat.le_of_ble_eq_true rfl, Nat.le_of_ble_eq_true rfl⟩ rfl rfl rfl (Nat.le_of_ble_eq_true rfl) dX11_rebase_38 rfl ?_
  refine rv_istore (q := 43) (lv' := [_, _, _, _, _, _, _]) E.1.x dX11_rebase_41 (Nat.le_of_ble_eq_true rfl) rfl rfl rfl ?_
  refine rv_iload (q := 45) E.1.x dX11_rebase_43 rfl rfl ?_
  refine rv_iload (q := 47) E.1.x dX11_rebase_45 rfl rfl ?_
  refine rv_icmp_ne (q := 50) (tgt := 60) E.1.x dX11_rebase_47 (by decide) rfl ?_ ?_
  · exact rC_throw (x := 3) E rfl (by decide +kernel) rC_xk3 rC_xi3 rC_xg3 rC_xn3 rC_xo3 E.2.2.2.2.2.2.2.2.1 (is := 211) (text := "the base is the new one already") (by decide +kernel) rfl rfl dX11_rebase_50 dX11_rebase_53 dX11_rebase_54 dX11_rebase_56 dX11_rebase_59 (Nat.le_of_ble_eq_true rfl) (Nat.le_of_ble_eq_true rfl) ⟨Nat.le_of_ble_eq_true rfl, Nat.le_of_ble_eq_true rfl⟩ ⟨Nat.le_of_ble_eq_true rfl, Nat.le_of_ble_eq_true rfl⟩
  · refine rv_aload_n (q := 61) E.1.x dX11_rebase_60 rfl rfl ?_
    refine rv_x2r (fun r20 e19 => ?_) (fun w21 e22 => rC_yVvX11 E ⟨rfl, rfl⟩ (fun _ => c11_needRoomForCommit_x E.2.1 E.1.2.2.1 e22) rfl gX11_201 hX11_needRoomForCommit ⟨rfl, rfl⟩ ⟨Nat.le_of_ble_eq_true rfl, Nat.le_of_ble_eq_true rfl⟩ ⟨Nat.le_of_ble_eq_true rfl, Nat.le_of_ble_eq_true rfl⟩ rfl rfl rfl (Nat.le_of_ble_eq_true rfl) dX11_rebase_61 ⟨Nat.le_of_ble_eq_true rfl, Nat.le_of_ble_eq_true rfl⟩)
    refine rC_xVvX11 (q := 64) E ⟨rfl, rfl⟩ (fun _ => c11_needRoomForCommit E.2.1 E.1.2.2.1 e19) gX11_201 hX11_needRoomForCommit ⟨rfl, rfl⟩ ⟨Nat.le_of_ble_eq_true rfl, Nat.le_of_ble_eq_true rfl⟩ ⟨Nat.le_of_ble_eq_true rfl, Nat.le_of_ble_eq_true rfl⟩ rfl rfl rfl (Nat.le_of_ble_eq_true rfl) dX11_rebase_61 rfl ?_
    refine rv_aload_n (q := 65) E.1.x dX11_rebase_64 rfl rfl ?_
    refine rC_getX11 (q := 68) E.1 0 1 wfX11_21 rfl (Nat.le_of_ble_eq_true rfl) ⟨rfl, rfl⟩ rfl dX11_rebase_65 rfl ?_
    refine rv_iload (q := 70) E.1.x dX11_rebase_68 rfl rfl ?_
    refine rv_iload (q := 72) E.1.x dX11_rebase_70 rfl rfl ?_
    refine rv_iload (q := 74) E.1.x dX11_rebase_72 rfl rfl ?_
    refine rv_b2 (fun r24 M25 e23 => ?_)
    refine rC_calliX2 (q := 77) E.1 ⟨rfl, rfl⟩ (c2_mergeRows E.1.2.2.1 e23) gX11_213 hX2_mergeRows ⟨rfl, rfl⟩ ⟨Nat.le_of_ble_eq_true rfl, Nat.le_of_ble_eq_true rfl⟩ ⟨Nat.le_of_ble_eq_true rfl, Nat.le_of_ble_eq_true rfl⟩ rfl rfl rfl (Nat.le_of_ble_eq_true rfl) dX11_rebase_74 rfl ?_
    refine rv_ifz_ne (q := 80) (tgt := 90) E.1.x dX11_rebase_77 (by decide) rfl ?_ ?_
    · exact rC_throw (x := 3) E rfl (by decide +kernel) rC_xk3 rC_xi3 rC_xg3 rC_xn3 rC_xo3 E.2.2.2.2.2.2.2.2.1 (is := 217) (text := "a conflict") (by decide +kernel) rfl rfl dX11_rebase_80 dX11_rebase_83 dX11_rebase_84 dX11_rebase_86 dX11_rebase_89 (Nat.le_of_ble_eq_true rfl) (Nat.le_of_ble_eq_true rfl) ⟨Nat.le_of_ble_eq_true rfl, Nat.le_of_ble_eq_true rfl⟩ ⟨Nat.le_of_ble_eq_true rfl, Nat.le_of_ble_eq_true rfl⟩
    · refine rv_aload_n (q := 91) E.1.x dX11_rebase_90 rfl rfl ?_
      refine rv_iload_n (q := 92) E.1.x dX11_rebase_91 rfl rfl ?_
      refine rv_aload_n (q := 93) E.1.x dX11_rebase_92 rfl rfl ?_
      refine rv_bipush (q := 95) E.1.x dX11_rebase_93 rv_kb81 rfl ?_
      refine rv_iload (q := 97) E.1.x dX11_rebase_95 rfl rfl ?_
      refine rv_b2 (fun r27 M28 e26 => ?_)
      refine rC_calliX11 (q := 100) E.1 ⟨rfl, rfl⟩ (c11_addSet E.1.2.2.1 e26) gX11_176 hX11_addSet ⟨rfl, rfl⟩ ⟨Nat.le_of_ble_eq_true rfl, Nat.le_of_ble_eq_true rfl⟩ ⟨Nat.le_of_ble_eq_true rfl, Nat.le_of_ble_eq_true rfl⟩ rfl rfl rfl (Nat.le_of_ble_eq_true rfl) dX11_rebase_97 rfl ?_
      exact rv_tr (fun _ => trivial)
theorem c11_rebase_x {l : Launch} {D : va_G} {cI cZ cO : ClassId} {ad : Nat → Nat} {gh : rC_gh} {de : Nat} (hfl : l.stackTraces = false) (hI : rC_I ad gh) {sz : Nat} {M : rv_Mem} {a1 : Int32} {a2 : Int32} {x : Nat} {M1 : rv_Mem} (h : f11_rebase gh M a1 a2 = some (.inr (x, M1))) : vx_Met l yX11_rebase (rv_ws yX11_rebase cX11_rebase 7 (some .int)) rmx11_rebase (rC_Px D cI cZ cO ad gh de sz [.ref (ad 0), .int a1, .int a2] M) (rC_fi (rC_A ad gh sz)) (rC_xc D cI cZ cO ad gh de (rC_A ad gh sz) x M1) 1 6 (rC_A ad gh sz) := rC_xmet (Qc := fun A => rC_fi A) (XC := fun A => rC_xc D cI cZ cO ad gh de A x M1) hfl hI rfl (by decide) (Nat.le_of_ble_eq_true rfl) (fun p e s m args below meth c E => ⟨(qy11_rebase D cI cZ cO ad gh de below args s), rfl, bx11_rebase E M a1 a2⟩) h
abbrev rm11_endChange : Room := { frames := 2, cells := 0, slots := 0, locals := 45 }
set_option maxRecDepth 100000 in
theorem b11_endChange {p : Program} {l : Launch} {e : Env} {s : State} {m : MethodId} {args : Array Value} {below : List Frame} {meth : Method} {c : Code} {D : va_G} {cI cZ cO : ClassId} {ad : Nat → Nat} {gh : rC_gh} {de : Nat} (E : rC_E D cI cZ cO ad gh (rC_K ad gh) RX11 cX11_endChange 4 none p s m args meth c) (M : rv_Mem) (a1 : Nat) (a2 : Int32) (a3 : Int32) : rv_M (rC_G D cI cZ cO ad gh de) (rC_K ad gh) p l e rm11_endChange s m args below meth c 0 0 (rC_qV D cI cZ cO ad gh de below args s) (f11_endChange gh M a1 a2 a3) 0 [some (.ref (ad 0)), some (.ref (ad a1)), some (.int a2), some (.int a3)] [] M := by
  unfold f11_endChange
  refine rv_aload_n (q := 1) E.x dX11_endChange_0 rfl rfl ?_
  refine rv_iload_n (q := 2) E.x dX11_endChange_1 rfl rfl ?_
  refine rv_g (fun g1 => ?_)
  refine rC_putX0 (q := 5) E a1 5 wfX11_227 rfl (Nat.le_of_ble_eq_true rfl) (rC_at_of g1) rfl ⟨rfl, rfl⟩ dX11_endChange_2 rfl ?_
  refine rv_ltm (fun M2 => ?_)
  refine rv_aload_n (q := 6) E.x dX11_endChange_5 rfl rfl ?_
  refine rv_iconst (q := 7) E.x dX11_endChange_6 rv_ki0 rfl ?_
  refine rC_putX0 (q := 10) E a1 10 wfX11_250 rfl (Nat.le_of_ble_eq_true rfl) (rC_at_of g1) rfl ⟨rfl, rfl⟩ dX11_endChange_7 rfl ?_
  refine rv_ltm (fun M3 => ?_)
  refine rv_aload_n (q := 11) E.x dX11_endChange_10 rfl rfl ?_
  refine rv_iload_n (q := 12) E.x dX11_endChange_11 rfl rfl ?_
  refine rv_aload_n (q := 13) E.x dX11_endChange_12 rfl rfl ?_
  refine rv_b1 (fun M5 e4 => ?_)
  refine rC_callvX11 (q := 16) E ⟨rfl, rfl⟩ (c11_noteAct E.2.2.1 e4) gX11_330 hX11_noteAct ⟨rfl, rfl⟩ ⟨Nat.le_of_ble_eq_true rfl, Nat.le_of_ble_eq_true rfl⟩ ⟨Nat.le_of_ble_eq_true rfl, Nat.le_of_ble_eq_true rfl⟩ rfl rfl rfl (Nat.le_of_ble_eq_true rfl) dX11_endChange_13 rfl ?_
  exact rC_vret E rfl dX11_endChange_16
theorem c11_endChange {l : Launch} {D : va_G} {cI cZ cO : ClassId} {ad : Nat → Nat} {gh : rC_gh} {de : Nat} (hI : rC_I ad gh) {M : rv_Mem} {a1 : Nat} {a2 : Int32} {a3 : Int32} {M1 : rv_Mem} (h : f11_endChange gh M a1 a2 a3 = some M1) : Met l yX11_endChange (rv_ws yX11_endChange cX11_endChange 4 none) rm11_endChange (rC_Pc D cI cZ cO ad gh de [.ref (ad 0), .ref (ad a1), .int a2, .int a3] M) (rC_QV D cI cZ cO ad gh de M1) 0 0 (rC_K ad gh) := rC_met hI rfl (by decide) (Nat.le_of_ble_eq_true rfl) (fun p e s m args below meth c E => ⟨(rC_qV D cI cZ cO ad gh de below args s), rfl, b11_endChange E M a1 a2 a3⟩) h
abbrev rm11_abandon : Room := { frames := 8, cells := 0, slots := 0, locals := 142 }
def qx11_abandon (D : va_G) (cI cZ cO : ClassId) (ad : Nat → Nat) (gh : rC_gh) (de : Nat) (below : List Frame) (args : Array Value) (s : State) : (Int32 × rv_Mem) ⊕ (Nat × rv_Mem) → State → Prop := fun r => match r with
  | .inl r => vx_MQ below (rC_qi D cI cZ cO ad gh de (rC_A ad gh s.heap.size) r.1 r.2) (rC_fx (rC_A ad gh s.heap.size)) args s 0 0 (rC_A ad gh s.heap.size)
  | .inr _ => fun _ => True
set_option maxRecDepth 100000 in
theorem b11_abandon_74 {p : Program} {l : Launch} {e : Env} {s : State} {m : MethodId} {args : Array Value} {below : List Frame} {meth : Method} {c : Code} {D : va_G} {cI cZ cO : ClassId} {ad : Nat → Nat} {gh : rC_gh} {de : Nat} (E : rC_X D cI cZ cO ad gh RX11 cX11_abandon 6 (some .int) p l s m args meth c) (k28 : rv_Mem → Int32 → Int32 → Int32 → Option ((Int32 × rv_Mem) ⊕ (Nat × rv_Mem))) (h28 : ∀ (M : rv_Mem) (x2 : Int32) (x4 : Int32) (x5 : Int32), rv_M (rC_G D cI cZ cO ad gh de) (rC_A ad gh s.heap.size) p l e rm11_abandon s m args below meth c 0 0 (qx11_abandon D cI cZ cO ad gh de below args s) (k28 M x2 x4 x5) 28 [some (.ref (ad 0)), none, some (.int x2), none, some (.int x4), some (.int x5)] [] M) : ∀ (M : rv_Mem) (x2 : Int32) (x4 : Int32) (x5 : Int32), rv_M (rC_G D cI cZ cO ad gh de) (rC_A ad gh s.heap.size) p l e rm11_abandon s m args below meth c 0 0 (qx11_abandon D cI cZ cO ad gh de below args s) (f11_abandon_74 gh k28 M x2 x4 x5) 74 [some (.ref (ad 0)), none, some (.int x2), none, some (.int x4), some (.int x5)] [] M := by
  intro M x2 x4 x5
  unfold f11_abandon_74
  refine rv_iinc (q := 77) (lv' := [_, _, _, _, _, _]) E.1.x dX11_abandon_74 rv_ki1 rfl rfl rfl rfl ?_
  refine rv_goto (q := 28) E.1.x dX11_abandon_77 (by decide) ?_
  refine rv_wk [true, false, true, false, true, true] ?_
  exact h28 M x2 x4 (x5 + 1)
set_option maxRecDepth 100000 in
theorem b11_abandon_28_s {p : Program} {l : Launch} {e : Env} {s : State} {m : MethodId} {args : Array Value} {below : List Frame} {meth : Method} {c : Code} {D : va_G} {cI cZ cO : ClassId} {ad : Nat → Nat} {gh : rC_gh} {de : Nat} (E : rC_X D cI cZ cO ad gh RX11 cX11_abandon 6 (some .int) p l s m args meth c)   (k28 : rv_Mem → Int32 → Int32 → Int32 → Option ((Int32 × rv_Mem) ⊕ (Nat × rv_Mem))) (h28 : ∀ (M : rv_Mem) (x2 : Int32) (x4 : Int32) (x5 : Int32), rv_M (rC_G D cI cZ cO ad gh de) (rC_A ad gh s.heap.size) p l e rm11_abandon s m args below meth c 0 0 (qx11_abandon D cI cZ cO ad gh de below args s) (k28 M x2 x4 x5) 28 [some (.ref (ad 0)), none, some (.int x2), none, some (.int x4), some (.int x5)] [] M) : ∀ (M : rv_Mem) (x2 : Int32) (x4 : Int32) (x5 : Int32), rv_M (rC_G D cI cZ cO ad gh de) (rC_A ad gh s.heap.size) p l e rm11_abandon s m args below meth c 0 0 (qx11_abandon D cI cZ cO ad gh de below args s) (f11_abandon_28_s gh k28 M x2 x4 x5) 28 [some (.ref (ad 0)), none, some (.int x2), none, some (.int x4), some (.int x5)] [] M := by
  intro M x2 x4 x5
  unfold f11_abandon_28_s
  refine rv_iload (q := 30) E.1.x dX11_abandon_28 rfl rfl ?_
  refine rv_aload_n (q := 31) E.1.x dX11_abandon_30 rfl rfl ?_
  refine rC_getX11 (q := 34) E.1 0 5 wfX11_49 rfl (Nat.le_of_ble_eq_true rfl) ⟨rfl, rfl⟩ rfl dX11_abandon_31 rfl ?_
  refine rC_lsz (q := 37) E.1 0 (by decide) (cJ_size E.1.2.2.1 0) gX11_155 ⟨Nat.le_of_ble_eq_true rfl, Nat.le_of_ble_eq_true rfl⟩ ⟨Nat.le_of_ble_eq_true rfl, Nat.le_of_ble_eq_true rfl⟩ rfl (Nat.le_of_ble_eq_true rfl) dX11_abandon_34 rfl ?_
  refine rv_icmp_ge (q := 40) (tgt := 80) E.1.x dX11_abandon_37 (by decide) rfl ?_ ?_
  · refine rv_aload_n (q := 41) E.1.x dX11_abandon_40 rfl rfl ?_
    refine rC_getX11 (q := 44) E.1 0 5 wfX11_49 rfl (Nat.le_of_ble_eq_true rfl) ⟨rfl, rfl⟩ rfl dX11_abandon_41 rfl ?_
    refine rv_iload (q := 46) E.1.x dX11_abandon_44 rfl rfl ?_
    refine rC_lgt (q := 49) E.1 0 (by decide) (cJ_get E.1.2.2.1 0) ⟨rfl, rfl⟩ gX11_223 ⟨Nat.le_of_ble_eq_true rfl, Nat.le_of_ble_eq_true rfl⟩ ⟨Nat.le_of_ble_eq_true rfl, Nat.le_of_ble_eq_true rfl⟩ rfl (Nat.le_of_ble_eq_true rfl) dX11_abandon_46 rfl ?_
    refine rv_g (fun g1 => ?_)
    refine rC_cstX0 (q := 52) E.1 (rC_at_of g1) wxX11_165 dX11_abandon_49 rfl ?_
    refine rC_getX0 (q := 55) E.1 (100 + (x5).toNatClampNeg) 5 wfX11_227 rfl (Nat.le_of_ble_eq_true rfl) (rC_at_of g1) rfl dX11_abandon_52 rfl ?_
    refine rv_if_ne (q := 58) (tgt := 74) E.1.x dX11_abandon_55 (by decide) rfl ?_ ?_
    · refine rv_aload_n (q := 59) E.1.x dX11_abandon_58 rfl rfl ?_
      refine rC_getX11 (q := 62) E.1 0 0 wfX11_10 rfl (Nat.le_of_ble_eq_true rfl) ⟨rfl, rfl⟩ rfl dX11_abandon_59 rfl ?_
      refine rv_iload (q := 64) E.1.x dX11_abandon_62 rfl rfl ?_
      refine rv_b1 (fun r3 e2 => ?_)
      refine rC_calliX9 (q := 67) E.1 ⟨rfl, rfl⟩ (c9_parentNumber E.1.2.2.1 e2) gX11_230 hX9_parentNumber ⟨rfl, rfl⟩ ⟨Nat.le_of_ble_eq_true rfl, Nat.le_of_ble_eq_true rfl⟩ ⟨Nat.le_of_ble_eq_true rfl, Nat.le_of_ble_eq_true rfl⟩ rfl rfl rfl (Nat.le_of_ble_eq_true rfl) dX11_abandon_64 rfl ?_
      refine rv_iload_n (q := 68) E.1.x dX11_abandon_67 rfl rfl ?_
      refine rv_icmp_ne (q := 71) (tgt := 74) E.1.x dX11_abandon_68 (by decide) rfl ?_ ?_
      · refine rv_iinc (q := 74) (lv' := [_, _, _, _, _, _]) E.1.x dX11_abandon_71 rv_ki1 rfl rfl rfl rfl ?_
        refine rv_wk [true, false, true, false, true, true] ?_
        exact b11_abandon_74 E k28 h28 M x2 (x4 + 1) x5
      · refine rv_wk [true, false, true, false, true, true] ?_
        exact b11_abandon_74 E k28 h28 M x2 x4 x5
    · refine rv_wk [true, false, true, false, true, true] ?_
      exact b11_abandon_74 E k28 h28 M x2 x4 x5
  · refine rv_iload (q := 82) E.1.x dX11_abandon_80 rfl rfl ?_
    exact rC_xiret E rfl ⟨Nat.le_of_ble_eq_true rfl, Nat.le_of_ble_eq_true rfl⟩ dX11_abandon_82
theorem b11_abandon_28 {p : Program} {l : Launch} {e : Env} {s : State} {m : MethodId} {args : Array Value} {below : List Frame} {meth : Method} {c : Code} {D : va_G} {cI cZ cO : ClassId} {ad : Nat → Nat} {gh : rC_gh} {de : Nat} (E : rC_X D cI cZ cO ad gh RX11 cX11_abandon 6 (some .int) p l s m args meth c)   : ∀ (n : Nat), ∀ (M : rv_Mem) (x2 : Int32) (x4 : Int32) (x5 : Int32), rv_M (rC_G D cI cZ cO ad gh de) (rC_A ad gh s.heap.size) p l e rm11_abandon s m args below meth c 0 0 (qx11_abandon D cI cZ cO ad gh de below args s) (f11_abandon_28 gh n M x2 x4 x5) 28 [some (.ref (ad 0)), none, some (.int x2), none, some (.int x4), some (.int x5)] [] M := by
  intro n
  induction n with
  | zero => exact fun _ _ _ _ => rv_stuck
  | succ n ih => exact b11_abandon_28_s E  (f11_abandon_28 gh n) ih
set_option maxRecDepth 100000 in
theorem b11_abandon {p : Program} {l : Launch} {e : Env} {s : State} {m : MethodId} {args : Array Value} {below : List Frame} {meth : Method} {c : Code} {D : va_G} {cI cZ cO : ClassId} {ad : Nat → Nat} {gh : rC_gh} {de : Nat} (E : rC_X D cI cZ cO ad gh RX11 cX11_abandon 6 (some .int) p l s m args meth c) (M : rv_Mem) (a1 : Int32) (a2 : Int32) : rv_M (rC_G D cI cZ cO ad gh de) (rC_A ad gh s.heap.size) p l e rm11_abandon s m args below meth c 0 0 (qx11_abandon D cI cZ cO ad gh de below args s) (f11_abandon gh M a1 a2) 0 [some (.ref (ad 0)), some (.int a1), some (.int a2), none, none, none] [] M := by
  unfold f11_abandon
  refine rv_iload_n (q := 1) E.1.x dX11_abandon_0 rfl rfl ?_
  refine rv_x2r (fun r2 e1 => ?_) (fun w3 e4 => rv_tr (fun _ => trivial))
  refine rC_xSv (q := 4) E (fun _ => c11_needPerson E.2.1 E.1.2.2.1 e1) gX11_152 hX11_needPerson ⟨rfl, rfl⟩ ⟨Nat.le_of_ble_eq_true rfl, Nat.le_of_ble_eq_true rfl⟩ ⟨Nat.le_of_ble_eq_true rfl, Nat.le_of_ble_eq_true rfl⟩ rfl rfl rfl (Nat.le_of_ble_eq_true rfl) dX11_abandon_1 rfl ?_
  refine rv_aload_n (q := 5) E.1.x dX11_abandon_4 rfl rfl ?_
  refine rv_iload_n (q := 6) E.1.x dX11_abandon_5 rfl rfl ?_
  refine rv_x2r (fun r6 e5 => ?_) (fun w7 e8 => rv_tr (fun _ => trivial))
  refine rC_xVrX11 (q := 9) E ⟨rfl, rfl⟩ (fun _ => c11_needChange E.2.1 E.1.2.2.1 e5) gX11_91 hX11_needChange ⟨rfl, rfl⟩ ⟨Nat.le_of_ble_eq_true rfl, Nat.le_of_ble_eq_true rfl⟩ ⟨Nat.le_of_ble_eq_true rfl, Nat.le_of_ble_eq_true rfl⟩ rfl rfl rfl (Nat.le_of_ble_eq_true rfl) dX11_abandon_6 rfl ?_
  refine rv_astore_n (q := 10) (lv' := [_, _, _, _, _, _]) E.1.x dX11_abandon_9 (Nat.le_of_ble_eq_true rfl) rfl rfl rfl ?_
  refine rv_iload_n (q := 11) E.1.x dX11_abandon_10 rfl rfl ?_
  refine rv_aload_n (q := 12) E.1.x dX11_abandon_11 rfl rfl ?_
  refine rv_x2r (fun r10 e9 => ?_) (fun w11 e12 => rv_tr (fun _ => trivial))
  refine rC_xSv (q := 15) E (fun _ => c11_needOpenAndSeen E.2.1 E.1.2.2.1 e9) gX11_183 hX11_needOpenAndSeen ⟨rfl, rfl⟩ ⟨Nat.le_of_ble_eq_true rfl, Nat.le_of_ble_eq_true rfl⟩ ⟨Nat.le_of_ble_eq_true rfl, Nat.le_of_ble_eq_true rfl⟩ rfl rfl rfl (Nat.le_of_ble_eq_true rfl) dX11_abandon_12 rfl ?_
  refine rv_aload_n (q := 16) E.1.x dX11_abandon_15 rfl rfl ?_
  refine rv_aload_n (q := 17) E.1.x dX11_abandon_16 rfl rfl ?_
  refine rv_iconst (q := 18) E.1.x dX11_abandon_17 rv_ki2 rfl ?_
  refine rv_iload_n (q := 19) E.1.x dX11_abandon_18 rfl rfl ?_
  refine rv_b1 (fun M14 e13 => ?_)
  refine rC_callvX11 (q := 22) E.1 ⟨rfl, rfl⟩ (c11_endChange E.1.2.2.1 e13) gX11_219 hX11_endChange ⟨rfl, rfl⟩ ⟨Nat.le_of_ble_eq_true rfl, Nat.le_of_ble_eq_true rfl⟩ ⟨Nat.le_of_ble_eq_true rfl, Nat.le_of_ble_eq_true rfl⟩ rfl rfl rfl (Nat.le_of_ble_eq_true rfl) dX11_abandon_19 rfl ?_
  refine rv_iconst (q := 23) E.1.x dX11_abandon_22 rv_ki0 rfl ?_
  refine rv_istore (q := 25) (lv' := [_, _, _, _, _, _]) E.1.x dX11_abandon_23 (Nat.le_of_ble_eq_true rfl) rfl rfl rfl ?_
  refine rv_iconst (q := 26) E.1.x dX11_abandon_25 rv_ki0 rfl ?_
  refine rv_istore (q := 28) (lv' := [_, _, _, _, _, _]) E.1.x dX11_abandon_26 (Nat.le_of_ble_eq_true rfl) rfl rfl rfl ?_
  refine rv_wk [true, false, true, false, true, true] ?_
  exact b11_abandon_28 E rv_FU M14 a2 0 0
theorem c11_abandon {l : Launch} {D : va_G} {cI cZ cO : ClassId} {ad : Nat → Nat} {gh : rC_gh} {de : Nat} (hfl : l.stackTraces = false) (hI : rC_I ad gh) {sz : Nat} {M : rv_Mem} {a1 : Int32} {a2 : Int32} {r : Int32} {M1 : rv_Mem} (h : f11_abandon gh M a1 a2 = some (.inl (r, M1))) : vx_Met l yX11_abandon (rv_ws yX11_abandon cX11_abandon 6 (some .int)) rm11_abandon (rC_Px D cI cZ cO ad gh de sz [.ref (ad 0), .int a1, .int a2] M) (rC_qi D cI cZ cO ad gh de (rC_A ad gh sz) r M1) (rC_fx (rC_A ad gh sz)) 0 0 (rC_A ad gh sz) := rC_xmet (Qc := fun A => rC_qi D cI cZ cO ad gh de A r M1) (XC := fun A => rC_fx A) hfl hI rfl (by decide) (Nat.le_of_ble_eq_true rfl) (fun p e s m args below meth c E => ⟨(qx11_abandon D cI cZ cO ad gh de below args s), rfl, b11_abandon E M a1 a2⟩) h
abbrev rmx11_abandon : Room := { frames := 8, cells := 1, slots := 6, locals := 142 }
def qy11_abandon (D : va_G) (cI cZ cO : ClassId) (ad : Nat → Nat) (gh : rC_gh) (de : Nat) (below : List Frame) (args : Array Value) (s : State) : (Int32 × rv_Mem) ⊕ (Nat × rv_Mem) → State → Prop := fun r => match r with
  | .inl _ => fun _ => True
  | .inr r => vx_MQ below (rC_fi (rC_A ad gh s.heap.size)) (rC_xc D cI cZ cO ad gh de (rC_A ad gh s.heap.size) r.1 r.2) args s 1 6 (rC_A ad gh s.heap.size)
set_option maxRecDepth 100000 in
theorem bx11_abandon_74 {p : Program} {l : Launch} {e : Env} {s : State} {m : MethodId} {args : Array Value} {below : List Frame} {meth : Method} {c : Code} {D : va_G} {cI cZ cO : ClassId} {ad : Nat → Nat} {gh : rC_gh} {de : Nat} (E : rC_X D cI cZ cO ad gh RX11 cX11_abandon 6 (some .int) p l s m args meth c) (k28 : rv_Mem → Int32 → Int32 → Int32 → Option ((Int32 × rv_Mem) ⊕ (Nat × rv_Mem))) (h28 : ∀ (M : rv_Mem) (x2 : Int32) (x4 : Int32) (x5 : Int32), rv_M (rC_G D cI cZ cO ad gh de) (rC_A ad gh s.heap.size) p l e rmx11_abandon s m args below meth c 0 0 (qy11_abandon D cI cZ cO ad gh de below args s) (k28 M x2 x4 x5) 28 [some (.ref (ad 0)), none, some (.int x2), none, some (.int x4), some (.int x5)] [] M) : ∀ (M : rv_Mem) (x2 : Int32) (x4 : Int32) (x5 : Int32), rv_M (rC_G D cI cZ cO ad gh de) (rC_A ad gh s.heap.size) p l e rmx11_abandon s m args below meth c 0 0 (qy11_abandon D cI cZ cO ad gh de below args s) (f11_abandon_74 gh k28 M x2 x4 x5) 74 [some (.ref (ad 0)), none, some (.int x2), none, some (.int x4), some (.int x5)] [] M := by
  intro M x2 x4 x5
  unfold f11_abandon_74
  refine rv_iinc (q := 77) (lv' := [_, _, _, _, _, _]) E.1.x dX11_abandon_74 rv_ki1 rfl rfl rfl rfl ?_
  refine rv_goto (q := 28) E.1.x dX11_abandon_77 (by decide) ?_
  refine rv_wk [true, false, true, false, true, true] ?_
  exact h28 M x2 x4 (x5 + 1)
set_option maxRecDepth 100000 in
theorem bx11_abandon_28_s {p : Program} {l : Launch} {e : Env} {s : State} {m : MethodId} {args : Array Value} {below : List Frame} {meth : Method} {c : Code} {D : va_G} {cI cZ cO : ClassId} {ad : Nat → Nat} {gh : rC_gh} {de : Nat} (E : rC_X D cI cZ cO ad gh RX11 cX11_abandon 6 (some .int) p l s m args meth c)   (k28 : rv_Mem → Int32 → Int32 → Int32 → Option ((Int32 × rv_Mem) ⊕ (Nat × rv_Mem))) (h28 : ∀ (M : rv_Mem) (x2 : Int32) (x4 : Int32) (x5 : Int32), rv_M (rC_G D cI cZ cO ad gh de) (rC_A ad gh s.heap.size) p l e rmx11_abandon s m args below meth c 0 0 (qy11_abandon D cI cZ cO ad gh de below args s) (k28 M x2 x4 x5) 28 [some (.ref (ad 0)), none, some (.int x2), none, some (.int x4), some (.int x5)] [] M) : ∀ (M : rv_Mem) (x2 : Int32) (x4 : Int32) (x5 : Int32), rv_M (rC_G D cI cZ cO ad gh de) (rC_A ad gh s.heap.size) p l e rmx11_abandon s m args below meth c 0 0 (qy11_abandon D cI cZ cO ad gh de below args s) (f11_abandon_28_s gh k28 M x2 x4 x5) 28 [some (.ref (ad 0)), none, some (.int x2), none, some (.int x4), some (.int x5)] [] M := by
  intro M x2 x4 x5
  unfold f11_abandon_28_s
  refine rv_iload (q := 30) E.1.x dX11_abandon_28 rfl rfl ?_
  refine rv_aload_n (q := 31) E.1.x dX11_abandon_30 rfl rfl ?_
  refine rC_getX11 (q := 34) E.1 0 5 wfX11_49 rfl (Nat.le_of_ble_eq_true rfl) ⟨rfl, rfl⟩ rfl dX11_abandon_31 rfl ?_
  refine rC_lsz (q := 37) E.1 0 (by decide) (cJ_size E.1.2.2.1 0) gX11_155 ⟨Nat.le_of_ble_eq_true rfl, Nat.le_of_ble_eq_true rfl⟩ ⟨Nat.le_of_ble_eq_true rfl, Nat.le_of_ble_eq_true rfl⟩ rfl (Nat.le_of_ble_eq_true rfl) dX11_abandon_34 rfl ?_
  refine rv_icmp_ge (q := 40) (tgt := 80) E.1.x dX11_abandon_37 (by decide) rfl ?_ ?_
  · refine rv_aload_n (q := 41) E.1.x dX11_abandon_40 rfl rfl ?_
    refine rC_getX11 (q := 44) E.1 0 5 wfX11_49 rfl (Nat.le_of_ble_eq_true rfl) ⟨rfl, rfl⟩ rfl dX11_abandon_41 rfl ?_
    refine rv_iload (q := 46) E.1.x dX11_abandon_44 rfl rfl ?_
    refine rC_lgt (q := 49) E.1 0 (by decide) (cJ_get E.1.2.2.1 0) ⟨rfl, rfl⟩ gX11_223 ⟨Nat.le_of_ble_eq_true rfl, Nat.le_of_ble_eq_true rfl⟩ ⟨Nat.le_of_ble_eq_true rfl, Nat.le_of_ble_eq_true rfl⟩ rfl (Nat.le_of_ble_eq_true rfl) dX11_abandon_46 rfl ?_
    refine rv_g (fun g1 => ?_)
    refine rC_cstX0 (q := 52) E.1 (rC_at_of g1) wxX11_165 dX11_abandon_49 rfl ?_
    refine rC_getX0 (q := 55) E.1 (100 + (x5).toNatClampNeg) 5 wfX11_227 rfl (Nat.le_of_ble_eq_true rfl) (rC_at_of g1) rfl dX11_abandon_52 rfl ?_
    refine rv_if_ne (q := 58) (tgt := 74) E.1.x dX11_abandon_55 (by decide) rfl ?_ ?_
    · refine rv_aload_n (q := 59) E.1.x dX11_abandon_58 rfl rfl ?_
      refine rC_getX11 (q := 62) E.1 0 0 wfX11_10 rfl (Nat.le_of_ble_eq_true rfl) ⟨rfl, rfl⟩ rfl dX11_abandon_59 rfl ?_
      refine rv_iload (q := 64) E.1.x dX11_abandon_62 rfl rfl ?_
      refine rv_b1 (fun r3 e2 => ?_)
      refine rC_calliX9 (q := 67) E.1 ⟨rfl, rfl⟩ (c9_parentNumber E.1.2.2.1 e2) gX11_230 hX9_parentNumber ⟨rfl, rfl⟩ ⟨Nat.le_of_ble_eq_true rfl, Nat.le_of_ble_eq_true rfl⟩ ⟨Nat.le_of_ble_eq_true rfl, Nat.le_of_ble_eq_true rfl⟩ rfl rfl rfl (Nat.le_of_ble_eq_true rfl) dX11_abandon_64 rfl ?_
      refine rv_iload_n (q := 68) E.1.x dX11_abandon_67 rfl rfl ?_
      refine rv_icmp_ne (q := 71) (tgt := 74) E.1.x dX11_abandon_68 (by decide) rfl ?_ ?_
      · refine rv_iinc (q := 74) (lv' := [_, _, _, _, _, _]) E.1.x dX11_abandon_71 rv_ki1 rfl rfl rfl rfl ?_
        refine rv_wk [true, false, true, false, true, true] ?_
        exact bx11_abandon_74 E k28 h28 M x2 (x4 + 1) x5
      · refine rv_wk [true, false, true, false, true, true] ?_
        exact bx11_abandon_74 E k28 h28 M x2 x4 x5
    · refine rv_wk [true, false, true, false, true, true] ?_
      exact bx11_abandon_74 E k28 h28 M x2 x4 x5
  · refine rv_iload (q := 82) E.1.x dX11_abandon_80 rfl rfl ?_
    exact rv_tr (fun _ => trivial)
theorem bx11_abandon_28 {p : Program} {l : Launch} {e : Env} {s : State} {m : MethodId} {args : Array Value} {below : List Frame} {meth : Method} {c : Code} {D : va_G} {cI cZ cO : ClassId} {ad : Nat → Nat} {gh : rC_gh} {de : Nat} (E : rC_X D cI cZ cO ad gh RX11 cX11_abandon 6 (some .int) p l s m args meth c)   : ∀ (n : Nat), ∀ (M : rv_Mem) (x2 : Int32) (x4 : Int32) (x5 : Int32), rv_M (rC_G D cI cZ cO ad gh de) (rC_A ad gh s.heap.size) p l e rmx11_abandon s m args below meth c 0 0 (qy11_abandon D cI cZ cO ad gh de below args s) (f11_abandon_28 gh n M x2 x4 x5) 28 [some (.ref (ad 0)), none, some (.int x2), none, some (.int x4), some (.int x5)] [] M := by
  intro n
  induction n with
  | zero => exact fun _ _ _ _ => rv_stuck
  | succ n ih => exact bx11_abandon_28_s E  (f11_abandon_28 gh n) ih
set_option maxRecDepth 100000 in
theorem bx11_abandon {p : Program} {l : Launch} {e : Env} {s : State} {m : MethodId} {args : Array Value} {below : List Frame} {meth : Method} {c : Code} {D : va_G} {cI cZ cO : ClassId} {ad : Nat → Nat} {gh : rC_gh} {de : Nat} (E : rC_X D cI cZ cO ad gh RX11 cX11_abandon 6 (some .int) p l s m args meth c) (M : rv_Mem) (a1 : Int32) (a2 : Int32) : rv_M (rC_G D cI cZ cO ad gh de) (rC_A ad gh s.heap.size) p l e rmx11_abandon s m args below meth c 0 0 (qy11_abandon D cI cZ cO ad gh de below args s) (f11_abandon gh M a1 a2) 0 [some (.ref (ad 0)), some (.int a1), some (.int a2), none, none, none] [] M := by
  unfold f11_abandon
  refine rv_iload_n (q := 1) E.1.x dX11_abandon_0 rfl rfl ?_
  refine rv_x2r (fun r2 e1 => ?_) (fun w3 e4 => rC_ySv E (fun _ => c11_needPerson_x E.2.1 E.1.2.2.1 e4) rfl gX11_152 hX11_needPerson ⟨rfl, rfl⟩ ⟨Nat.le_of_ble_eq_true rfl, Nat.le_of_ble_eq_true rfl⟩ ⟨Nat.le_of_ble_eq_true rfl, Nat.le_of_ble_eq_true rfl⟩ rfl rfl rfl (Nat.le_of_ble_eq_true rfl) dX11_abandon_1 ⟨Nat.le_of_ble_eq_true rfl, Nat.le_of_ble_eq_true rfl⟩)
  refine rC_xSv (q := 4) E (fun _ => c11_needPerson E.2.1 E.1.2.2.1 e1) gX11_152 hX11_needPerson ⟨rfl, rfl⟩ ⟨Nat.le_of_ble_eq_true rfl, Nat.le_of_ble_eq_true rfl⟩ ⟨Nat.le_of_ble_eq_true rfl, Nat.le_of_ble_eq_true rfl⟩ rfl rfl rfl (Nat.le_of_ble_eq_true rfl) dX11_abandon_1 rfl ?_
  refine rv_aload_n (q := 5) E.1.x dX11_abandon_4 rfl rfl ?_
  refine rv_iload_n (q := 6) E.1.x dX11_abandon_5 rfl rfl ?_
  refine rv_x2r (fun r6 e5 => ?_) (fun w7 e8 => rC_yVrX11 E ⟨rfl, rfl⟩ (fun _ => c11_needChange_x E.2.1 E.1.2.2.1 e8) rfl gX11_91 hX11_needChange ⟨rfl, rfl⟩ ⟨Nat.le_of_ble_eq_true rfl, Nat.le_of_ble_eq_true rfl⟩ ⟨Nat.le_of_ble_eq_true rfl, Nat.le_of_ble_eq_true rfl⟩ rfl rfl rfl (Nat.le_of_ble_eq_true rfl) dX11_abandon_6 ⟨Nat.le_of_ble_eq_true rfl, Nat.le_of_ble_eq_true rfl⟩)
  refine rC_xVrX11 (q := 9) E ⟨rfl, rfl⟩ (fun _ => c11_needChange E.2.1 E.1.2.2.1 e5) gX11_91 hX11_needChange ⟨rfl, rfl⟩ ⟨Nat.le_of_ble_eq_true rfl, Nat.le_of_ble_eq_true rfl⟩ ⟨Nat.le_of_ble_eq_true rfl, Nat.le_of_ble_eq_true rfl⟩ rfl rfl rfl (Nat.le_of_ble_eq_true rfl) dX11_abandon_6 rfl ?_
  refine rv_astore_n (q := 10) (lv' := [_, _, _, _, _, _]) E.1.x dX11_abandon_9 (Nat.le_of_ble_eq_true rfl) rfl rfl rfl ?_
  refine rv_iload_n (q := 11) E.1.x dX11_abandon_10 rfl rfl ?_
  refine rv_aload_n (q := 12) E.1.x dX11_abandon_11 rfl rfl ?_
  refine rv_x2r (fun r10 e9 => ?_) (fun w11 e12 => rC_ySv E (fun _ => c11_needOpenAndSeen_x E.2.1 E.1.2.2.1 e12) rfl gX11_183 hX11_needOpenAndSeen ⟨rfl, rfl⟩ ⟨Nat.le_of_ble_eq_true rfl, Nat.le_of_ble_eq_true rfl⟩ ⟨Nat.le_of_ble_eq_true rfl, Nat.le_of_ble_eq_true rfl⟩ rfl rfl rfl (Nat.le_of_ble_eq_true rfl) dX11_abandon_12 ⟨Nat.le_of_ble_eq_true rfl, Nat.le_of_ble_eq_true rfl⟩)
  refine rC_xSv (q := 15) E (fun _ => c11_needOpenAndSeen E.2.1 E.1.2.2.1 e9) gX11_183 hX11_needOpenAndSeen ⟨rfl, rfl⟩ ⟨Nat.le_of_ble_eq_true rfl, Nat.le_of_ble_eq_true rfl⟩ ⟨Nat.le_of_ble_eq_true rfl, Nat.le_of_ble_eq_true rfl⟩ rfl rfl rfl (Nat.le_of_ble_eq_true rfl) dX11_abandon_12 rfl ?_
  refine rv_aload_n (q := 16) E.1.x dX11_abandon_15 rfl rfl ?_
  refine rv_aload_n (q := 17) E.1.x dX11_abandon_16 rfl rfl ?_
  refine rv_iconst (q := 18) E.1.x dX11_abandon_17 rv_ki2 rfl ?_
  refine rv_iload_n (q := 19) E.1.x dX11_abandon_18 rfl rfl ?_
  refine rv_b1 (fun M14 e13 => ?_)
  refine rC_callvX11 (q := 22) E.1 ⟨rfl, rfl⟩ (c11_endChange E.1.2.2.1 e13) gX11_219 hX11_endChange ⟨rfl, rfl⟩ ⟨Nat.le_of_ble_eq_true rfl, Nat.le_of_ble_eq_true rfl⟩ ⟨Nat.le_of_ble_eq_true rfl, Nat.le_of_ble_eq_true rfl⟩ rfl rfl rfl (Nat.le_of_ble_eq_true rfl) dX11_abandon_19 rfl ?_
  refine rv_iconst (q := 23) E.1.x dX11_abandon_22 rv_ki0 rfl ?_
  refine rv_istore (q := 25) (lv' := [_, _, _, _, _, _]) E.1.x dX11_abandon_23 (Nat.le_of_ble_eq_true rfl) rfl rfl rfl ?_
  refine rv_iconst (q := 26) E.1.x dX11_abandon_25 rv_ki0 rfl ?_
  refine rv_istore (q := 28) (lv' := [_, _, _, _, _, _]) E.1.x dX11_abandon_26 (Nat.le_of_ble_eq_true rfl) rfl rfl rfl ?_
  refine rv_wk [true, false, true, false, true, true] ?_
  exact bx11_abandon_28 E rv_FU M14 a2 0 0
theorem c11_abandon_x {l : Launch} {D : va_G} {cI cZ cO : ClassId} {ad : Nat → Nat} {gh : rC_gh} {de : Nat} (hfl : l.stackTraces = false) (hI : rC_I ad gh) {sz : Nat} {M : rv_Mem} {a1 : Int32} {a2 : Int32} {x : Nat} {M1 : rv_Mem} (h : f11_abandon gh M a1 a2 = some (.inr (x, M1))) : vx_Met l yX11_abandon (rv_ws yX11_abandon cX11_abandon 6 (some .int)) rmx11_abandon (rC_Px D cI cZ cO ad gh de sz [.ref (ad 0), .int a1, .int a2] M) (rC_fi (rC_A ad gh sz)) (rC_xc D cI cZ cO ad gh de (rC_A ad gh sz) x M1) 1 6 (rC_A ad gh sz) := rC_xmet (Qc := fun A => rC_fi A) (XC := fun A => rC_xc D cI cZ cO ad gh de A x M1) hfl hI rfl (by decide) (Nat.le_of_ble_eq_true rfl) (fun p e s m args below meth c E => ⟨(qy11_abandon D cI cZ cO ad gh de below args s), rfl, bx11_abandon E M a1 a2⟩) h
abbrev rm11_restore : Room := { frames := 7, cells := 0, slots := 0, locals := 122 }
def qx11_restore (D : va_G) (cI cZ cO : ClassId) (ad : Nat → Nat) (gh : rC_gh) (de : Nat) (below : List Frame) (args : Array Value) (s : State) : (Int32 × rv_Mem) ⊕ (Nat × rv_Mem) → State → Prop := fun r => match r with
  | .inl r => vx_MQ below (rC_qi D cI cZ cO ad gh de (rC_A ad gh s.heap.size) r.1 r.2) (rC_fx (rC_A ad gh s.heap.size)) args s 0 0 (rC_A ad gh s.heap.size)
  | .inr _ => fun _ => True
set_option maxRecDepth 100000 in
theorem b11_restore {p : Program} {l : Launch} {e : Env} {s : State} {m : MethodId} {args : Array Value} {below : List Frame} {meth : Method} {c : Code} {D : va_G} {cI cZ cO : ClassId} {ad : Nat → Nat} {gh : rC_gh} {de : Nat} (E : rC_X D cI cZ cO ad gh RX11 cX11_restore 3 (some .int) p l s m args meth c) (M : rv_Mem) (a1 : Int32) : rv_M (rC_G D cI cZ cO ad gh de) (rC_A ad gh s.heap.size) p l e rm11_restore s m args below meth c 0 0 (qx11_restore D cI cZ cO ad gh de below args s) (f11_restore gh M a1) 0 [some (.ref (ad 0)), some (.int a1), none] [] M := by
  unfold f11_restore
  refine rv_aload_n (q := 1) E.1.x dX11_restore_0 rfl rfl ?_
  refine rv_iload_n (q := 2) E.1.x dX11_restore_1 rfl rfl ?_
  refine rv_x2r (fun r2 e1 => ?_) (fun w3 e4 => rv_tr (fun _ => trivial))
  refine rC_xVrX11 (q := 5) E ⟨rfl, rfl⟩ (fun _ => c11_needChange E.2.1 E.1.2.2.1 e1) gX11_91 hX11_needChange ⟨rfl, rfl⟩ ⟨Nat.le_of_ble_eq_true rfl, Nat.le_of_ble_eq_true rfl⟩ ⟨Nat.le_of_ble_eq_true rfl, Nat.le_of_ble_eq_true rfl⟩ rfl rfl rfl (Nat.le_of_ble_eq_true rfl) dX11_restore_2 rfl ?_
  refine rv_astore_n (q := 6) (lv' := [_, _, _]) E.1.x dX11_restore_5 (Nat.le_of_ble_eq_true rfl) rfl rfl rfl ?_
  refine rv_aload_n (q := 7) E.1.x dX11_restore_6 rfl rfl ?_
  refine rv_g (fun g5 => ?_)
  refine rC_getX0 (q := 10) E.1 r2 5 wfX11_227 rfl (Nat.le_of_ble_eq_true rfl) (rC_at_of g5) rfl dX11_restore_7 rfl ?_
  refine rv_iconst (q := 11) E.1.x dX11_restore_10 rv_ki2 rfl ?_
  refine rv_icmp_eq (q := 14) (tgt := 24) E.1.x dX11_restore_11 (by decide) rfl ?_ ?_
  · exact rv_tr (fun _ => trivial)
  · refine rv_aload_n (q := 25) E.1.x dX11_restore_24 rfl rfl ?_
    refine rv_iconst (q := 26) E.1.x dX11_restore_25 rv_ki0 rfl ?_
    refine rC_putX0 (q := 29) E.1 r2 5 wfX11_227 rfl (Nat.le_of_ble_eq_true rfl) (rC_at_of g5) rfl ⟨rfl, rfl⟩ dX11_restore_26 rfl ?_
    refine rv_ltm (fun M6 => ?_)
    refine rv_aload_n (q := 30) E.1.x dX11_restore_29 rfl rfl ?_
    refine rv_aload_n (q := 31) E.1.x dX11_restore_30 rfl rfl ?_
    refine rC_getX11 (q := 34) E.1 0 11 wfX11_75 rfl (Nat.le_of_ble_eq_true rfl) ⟨rfl, rfl⟩ rfl dX11_restore_31 rfl ?_
    refine rC_putX0 (q := 37) E.1 r2 11 wfX11_235 rfl (Nat.le_of_ble_eq_true rfl) (rC_at_of g5) rfl ⟨rfl, rfl⟩ dX11_restore_34 rfl ?_
    refine rv_ltm (fun M7 => ?_)
    refine rv_aload_n (q := 38) E.1.x dX11_restore_37 rfl rfl ?_
    refine rC_getX0 (q := 41) E.1 r2 4 wfX11_238 rfl (Nat.le_of_ble_eq_true rfl) (rC_at_of g5) rfl dX11_restore_38 rfl ?_
    refine rv_iconst (q := 42) E.1.x dX11_restore_41 rv_ki1 rfl ?_
    refine rv_isub (q := 43) E.1.x dX11_restore_42 rfl ?_
    exact rC_xiret E rfl ⟨Nat.le_of_ble_eq_true rfl, Nat.le_of_ble_eq_true rfl⟩ dX11_restore_43
theorem c11_restore {l : Launch} {D : va_G} {cI cZ cO : ClassId} {ad : Nat → Nat} {gh : rC_gh} {de : Nat} (hfl : l.stackTraces = false) (hI : rC_I ad gh) {sz : Nat} {M : rv_Mem} {a1 : Int32} {r : Int32} {M1 : rv_Mem} (h : f11_restore gh M a1 = some (.inl (r, M1))) : vx_Met l yX11_restore (rv_ws yX11_restore cX11_restore 3 (some .int)) rm11_restore (rC_Px D cI cZ cO ad gh de sz [.ref (ad 0), .int a1] M) (rC_qi D cI cZ cO ad gh de (rC_A ad gh sz) r M1) (rC_fx (rC_A ad gh sz)) 0 0 (rC_A ad gh sz) := rC_xmet (Qc := fun A => rC_qi D cI cZ cO ad gh de A r M1) (XC := fun A => rC_fx A) hfl hI rfl (by decide) (Nat.le_of_ble_eq_true rfl) (fun p e s m args below meth c E => ⟨(qx11_restore D cI cZ cO ad gh de below args s), rfl, b11_restore E M a1⟩) h
