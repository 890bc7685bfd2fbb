abbrev rm11_vote : Room := { frames := 8, cells := 0, slots := 0, locals := 142 }
def qx11_vote (D : va_G) (cI cZ cO : ClassId) (ad : Nat → Nat) (gh : rC_gh) (de : Nat) (below : List Frame) (args : Array Value) (s : State) : (Int32 × rv_Mem) ⊕ (Nat × rv_Mem) → State → Prop := fun r => match r with
  | .inl r => vx_MQ below (rC_qi D cI cZ cO ad gh de (rC_A ad gh s.heap.size) r.1 r.2) (rC_fx (rC_A ad gh s.heap.size)) args s 0 0 (rC_A ad gh s.heap.size)
  | .inr _ => fun _ => True
set_option maxRecDepth 100000 in
theorem b11_vote_34 {p : Program} {l : Launch} {e : Env} {s : State} {m : MethodId} {args : Array Value} {below : List Frame} {meth : Method} {c : Code} {D : va_G} {cI cZ cO : ClassId} {ad : Nat → Nat} {gh : rC_gh} {de : Nat} (E : rC_X D cI cZ cO ad gh RX11 cX11_vote 9 (some .int) p l s m args meth c)   : ∀ (M : rv_Mem) (x1 : Int32) (x4 : Int32) (x5 : Int32) (x6 : Nat) (x7 : Int32) (s0 : Int32), rv_M (rC_G D cI cZ cO ad gh de) (rC_A ad gh s.heap.size) p l e rm11_vote s m args below meth c 0 0 (qx11_vote D cI cZ cO ad gh de below args s) (f11_vote_34 gh M x1 x4 x5 x6 x7 s0) 34 [some (.ref (ad 0)), some (.int x1), none, none, some (.int x4), some (.int x5), some (.ref (ad x6)), some (.int x7), none] [.int s0] M := by
  intro M x1 x4 x5 x6 x7 s0
  unfold f11_vote_34
  refine rv_istore (q := 36) (lv' := [_, _, _, _, _, _, _, _, _]) E.1.x dX11_vote_34 (Nat.le_of_ble_eq_true rfl) rfl rfl rfl ?_
  refine rv_iload (q := 38) E.1.x dX11_vote_36 rfl rfl ?_
  refine rv_iload (q := 40) E.1.x dX11_vote_38 rfl rfl ?_
  refine rv_ineg (q := 41) E.1.x dX11_vote_40 rfl ?_
  refine rv_icmp_lt (q := 44) (tgt := 51) E.1.x dX11_vote_41 (by decide) rfl ?_ ?_
  · refine rv_iload (q := 46) E.1.x dX11_vote_44 rfl rfl ?_
    refine rv_iload (q := 48) E.1.x dX11_vote_46 rfl rfl ?_
    refine rv_icmp_le (q := 51) (tgt := 62) E.1.x dX11_vote_48 (by decide) rfl ?_ ?_
    · exact rv_tr (fun _ => trivial)
    · refine rv_iload_n (q := 63) E.1.x dX11_vote_62 rfl rfl ?_
      refine rv_aload (q := 65) E.1.x dX11_vote_63 rfl rfl ?_
      refine rv_x2r (fun r2 e1 => ?_) (fun w3 e4 => rv_tr (fun _ => trivial))
      refine rC_xSv (q := 68) E (fun _ => c11_needOpenAndSeen E.2.1 E.1.2.2.1 e1) gX11_183 hX11_needOpenAndSeen ⟨rfl, rfl⟩ ⟨Nat.le_of_ble_eq_true rfl, Nat.le_of_ble_eq_true rfl⟩ ⟨Nat.le_of_ble_eq_true rfl, Nat.le_of_ble_eq_true rfl⟩ rfl rfl rfl (Nat.le_of_ble_eq_true rfl) dX11_vote_65 rfl ?_
      refine rv_aload_n (q := 69) E.1.x dX11_vote_68 rfl rfl ?_
      refine rC_getX11 (q := 72) E.1 0 2 wfX11_28 rfl (Nat.le_of_ble_eq_true rfl) ⟨rfl, rfl⟩ rfl dX11_vote_69 rfl ?_
      refine rv_iload (q := 74) E.1.x dX11_vote_72 rfl rfl ?_
      refine rv_iload (q := 76) E.1.x dX11_vote_74 rfl rfl ?_
      refine rv_iload_n (q := 77) E.1.x dX11_vote_76 rfl rfl ?_
      refine rv_iload (q := 79) E.1.x dX11_vote_77 rfl rfl ?_
      refine rv_b1 (fun M6 e5 => ?_)
      refine rC_callvX10 (q := 82) E.1 ⟨rfl, rfl⟩ (c10_castVote E.1.2.2.1 e5) gX11_418 hX10_castVote ⟨rfl, rfl⟩ ⟨Nat.le_of_ble_eq_true rfl, Nat.le_of_ble_eq_true rfl⟩ ⟨Nat.le_of_ble_eq_true rfl, Nat.le_of_ble_eq_true rfl⟩ rfl rfl rfl (Nat.le_of_ble_eq_true rfl) dX11_vote_79 rfl ?_
      refine rv_aload (q := 84) E.1.x dX11_vote_82 rfl rfl ?_
      refine rv_iload_n (q := 85) E.1.x dX11_vote_84 rfl rfl ?_
      refine rv_g (fun g7 => ?_)
      refine rv_b1 (fun M9 e8 => ?_)
      refine rC_callvX0 (q := 88) E.1 (rC_at_of g7) (c0_takePart E.1.2.2.1 e8) gX11_323 hX0_takePart ⟨rfl, rfl⟩ ⟨Nat.le_of_ble_eq_true rfl, Nat.le_of_ble_eq_true rfl⟩ ⟨Nat.le_of_ble_eq_true rfl, Nat.le_of_ble_eq_true rfl⟩ rfl rfl rfl (Nat.le_of_ble_eq_true rfl) dX11_vote_85 rfl ?_
      refine rv_aload_n (q := 89) E.1.x dX11_vote_88 rfl rfl ?_
      refine rv_iload_n (q := 90) E.1.x dX11_vote_89 rfl rfl ?_
      refine rv_aload (q := 92) E.1.x dX11_vote_90 rfl rfl ?_
      refine rv_iconst (q := 93) E.1.x dX11_vote_92 rv_ki0 rfl ?_
      refine rv_b1 (fun M11 e10 => ?_)
      refine rC_callvX11 (q := 96) E.1 ⟨rfl, rfl⟩ (c11_passTurns E.1.2.2.1 e10) gX11_326 hX11_passTurns ⟨rfl, rfl⟩ ⟨Nat.le_of_ble_eq_true rfl, Nat.le_of_ble_eq_true rfl⟩ ⟨Nat.le_of_ble_eq_true rfl, Nat.le_of_ble_eq_true rfl⟩ rfl rfl rfl (Nat.le_of_ble_eq_true rfl) dX11_vote_93 rfl ?_
      refine rv_aload_n (q := 97) E.1.x dX11_vote_96 rfl rfl ?_
      refine rv_iload_n (q := 98) E.1.x dX11_vote_97 rfl rfl ?_
      refine rv_aload (q := 100) E.1.x dX11_vote_98 rfl rfl ?_
      refine rv_b1 (fun M13 e12 => ?_)
      refine rC_callvX11 (q := 103) E.1 ⟨rfl, rfl⟩ (c11_noteAct E.1.2.2.1 e12) gX11_330 hX11_noteAct ⟨rfl, rfl⟩ ⟨Nat.le_of_ble_eq_true rfl, Nat.le_of_ble_eq_true rfl⟩ ⟨Nat.le_of_ble_eq_true rfl, Nat.le_of_ble_eq_true rfl⟩ rfl rfl rfl (Nat.le_of_ble_eq_true rfl) dX11_vote_100 rfl ?_
      refine rv_aload_n (q := 104) E.1.x dX11_vote_103 rfl rfl ?_
      refine rC_getX11 (q := 107) E.1 0 2 wfX11_28 rfl (Nat.le_of_ble_eq_true rfl) ⟨rfl, rfl⟩ rfl dX11_vote_104 rfl ?_
      refine rv_aload (q := 109) E.1.x dX11_vote_107 rfl rfl ?_
      refine rv_aload (q := 111) E.1.x dX11_vote_109 rfl rfl ?_
      refine rC_getX0 (q := 114) E.1 x6 4 wfX11_238 rfl (Nat.le_of_ble_eq_true rfl) (rC_at_of g7) rfl dX11_vote_111 rfl ?_
      refine rv_iconst (q := 115) E.1.x dX11_vote_114 rv_ki1 rfl ?_
      refine rv_isub (q := 116) E.1.x dX11_vote_115 rfl ?_
      refine rv_iload (q := 118) E.1.x dX11_vote_116 rfl rfl ?_
      refine rv_iload_n (q := 119) E.1.x dX11_vote_118 rfl rfl ?_
      refine rv_b1 (fun r15 e14 => ?_)
      refine rC_calliX10 (q := 122) E.1 ⟨rfl, rfl⟩ (c10_worthOn E.1.2.2.1 e14) gX11_421 hX10_worthOn ⟨rfl, rfl⟩ ⟨Nat.le_of_ble_eq_true rfl, Nat.le_of_ble_eq_true rfl⟩ ⟨Nat.le_of_ble_eq_true rfl, Nat.le_of_ble_eq_true rfl⟩ rfl rfl rfl (Nat.le_of_ble_eq_true rfl) dX11_vote_119 rfl ?_
      exact rC_xiret E rfl ⟨Nat.le_of_ble_eq_true rfl, Nat.le_of_ble_eq_true rfl⟩ dX11_vote_122
  · exact rv_tr (fun _ => trivial)
set_option maxRecDepth 100000 in
theorem b11_vote {p : Program} {l : Launch} {e : Env} {s : State} {m : MethodId} {args : Array Value} {below : List Frame} {meth : Method} {c : Code} {D : va_G} {cI cZ cO : ClassId} {ad : Nat → Nat} {gh : rC_gh} {de : Nat} (E : rC_X D cI cZ cO ad gh RX11 cX11_vote 9 (some .int) p l s m args meth c) (M : rv_Mem) (a1 : Int32) (a2 : Int32) (a3 : Int32) (a4 : Int32) (a5 : Int32) : rv_M (rC_G D cI cZ cO ad gh de) (rC_A ad gh s.heap.size) p l e rm11_vote s m args below meth c 0 0 (qx11_vote D cI cZ cO ad gh de below args s) (f11_vote gh M a1 a2 a3 a4 a5) 0 [some (.ref (ad 0)), some (.int a1), some (.int a2), some (.int a3), some (.int a4), some (.int a5), none, none, none] [] M := by
  unfold f11_vote
  refine rv_iload_n (q := 1) E.1.x dX11_vote_0 rfl rfl ?_
  refine rv_x2r (fun r2 e1 => ?_) (fun w3 e4 => rv_tr (fun _ => trivial))
  refine rC_xSv (q := 4) E (fun _ => c11_needPerson E.2.1 E.1.2.2.1 e1) gX11_152 hX11_needPerson ⟨rfl, rfl⟩ ⟨Nat.le_of_ble_eq_true rfl, Nat.le_of_ble_eq_true rfl⟩ ⟨Nat.le_of_ble_eq_true rfl, Nat.le_of_ble_eq_true rfl⟩ rfl rfl rfl (Nat.le_of_ble_eq_true rfl) dX11_vote_1 rfl ?_
  refine rv_aload_n (q := 5) E.1.x dX11_vote_4 rfl rfl ?_
  refine rv_iload_n (q := 6) E.1.x dX11_vote_5 rfl rfl ?_
  refine rv_x2r (fun r6 e5 => ?_) (fun w7 e8 => rv_tr (fun _ => trivial))
  refine rC_xVrX11 (q := 9) E ⟨rfl, rfl⟩ (fun _ => c11_needChange E.2.1 E.1.2.2.1 e5) gX11_91 hX11_needChange ⟨rfl, rfl⟩ ⟨Nat.le_of_ble_eq_true rfl, Nat.le_of_ble_eq_true rfl⟩ ⟨Nat.le_of_ble_eq_true rfl, Nat.le_of_ble_eq_true rfl⟩ rfl rfl rfl (Nat.le_of_ble_eq_true rfl) dX11_vote_6 rfl ?_
  refine rv_astore (q := 11) (lv' := [_, _, _, _, _, _, _, _, _]) E.1.x dX11_vote_9 (Nat.le_of_ble_eq_true rfl) rfl rfl rfl ?_
  refine rv_aload (q := 13) E.1.x dX11_vote_11 rfl rfl ?_
  refine rv_iload_n (q := 14) E.1.x dX11_vote_13 rfl rfl ?_
  refine rv_x2r (fun r10 e9 => ?_) (fun w11 e12 => rv_tr (fun _ => trivial))
  refine rC_xSi (q := 17) E (fun _ => c11_needSet E.2.1 E.1.2.2.1 e9) gX11_95 hX11_needSet ⟨rfl, rfl⟩ ⟨Nat.le_of_ble_eq_true rfl, Nat.le_of_ble_eq_true rfl⟩ ⟨Nat.le_of_ble_eq_true rfl, Nat.le_of_ble_eq_true rfl⟩ rfl rfl rfl (Nat.le_of_ble_eq_true rfl) dX11_vote_14 rfl ?_
  refine rv_istore (q := 19) (lv' := [_, _, _, _, _, _, _, _, _]) E.1.x dX11_vote_17 (Nat.le_of_ble_eq_true rfl) rfl rfl rfl ?_
  refine rv_iload (q := 21) E.1.x dX11_vote_19 rfl rfl ?_
  refine rv_x2r (fun r14 e13 => ?_) (fun w15 e16 => rv_tr (fun _ => trivial))
  refine rC_xSv (q := 24) E (fun _ => c11_needLabel E.2.1 E.1.2.2.1 e13) gX11_413 hX11_needLabel ⟨rfl, rfl⟩ ⟨Nat.le_of_ble_eq_true rfl, Nat.le_of_ble_eq_true rfl⟩ ⟨Nat.le_of_ble_eq_true rfl, Nat.le_of_ble_eq_true rfl⟩ rfl rfl rfl (Nat.le_of_ble_eq_true rfl) dX11_vote_21 rfl ?_
  refine rv_iload (q := 26) E.1.x dX11_vote_24 rfl rfl ?_
  refine rv_if_ne (q := 29) (tgt := 33) E.1.x dX11_vote_26 (by decide) rfl ?_ ?_
  · refine rv_iconst (q := 30) E.1.x dX11_vote_29 rv_ki2 rfl ?_
    refine rv_goto (q := 34) E.1.x dX11_vote_30 (by decide) ?_
    refine rv_wk [true, true, false, false, true, true, true, true, false] ?_
    exact b11_vote_34 E M a1 a4 a5 r6 r10 2
  · refine rv_iconst (q := 34) E.1.x dX11_vote_33 rv_ki1 rfl ?_
    refine rv_wk [true, true, false, false, true, true, true, true, false] ?_
    exact b11_vote_34 E M a1 a4 a5 r6 r10 1
theorem c11_vote {l : Launch} {D : va_G} {cI cZ cO : ClassId} {ad : Nat → Nat} {gh : rC_gh} {de : Nat} (hfl : l.stackTraces = false) (hI : rC_I ad gh) {sz : Nat} {M : rv_Mem} {a1 : Int32} {a2 : Int32} {a3 : Int32} {a4 : Int32} {a5 : Int32} {r : Int32} {M1 : rv_Mem} (h : f11_vote gh M a1 a2 a3 a4 a5 = some (.inl (r, M1))) : vx_Met l yX11_vote (rv_ws yX11_vote cX11_vote 9 (some .int)) rm11_vote (rC_Px D cI cZ cO ad gh de sz [.ref (ad 0), .int a1, .int a2, .int a3, .int a4, .int a5] M) (rC_qi D cI cZ cO ad gh de (rC_A ad gh sz) r M1) (rC_fx (rC_A ad gh sz)) 0 0 (rC_A ad gh sz) := rC_xmet (Qc := fun A => rC_qi D cI cZ cO ad gh de A r M1) (XC := fun A => rC_fx A) hfl hI rfl (by decide) (Nat.le_of_ble_eq_true rfl) (fun p e s m args below meth c E => ⟨(qx11_vote D cI cZ cO ad gh de below args s), rfl, b11_vote E M a1 a2 a3 a4 a5⟩) h
abbrev rmx11_vote : Room := { frames := 8, cells := 1, slots := 6, locals := 142 }
def qy11_vote (D : va_G) (cI cZ cO : ClassId) (ad : Nat → Nat) (gh : rC_gh) (de : Nat) (below : List Frame) (args : Array Value) (s : State) : (Int32 × rv_Mem) ⊕ (Nat × rv_Mem) → State → Prop := fun r => match r with
  | .inl _ => fun _ => True
  | .inr r => vx_MQ below (rC_fi (rC_A ad gh s.heap.size)) (rC_xc D cI cZ cO ad gh de (rC_A ad gh s.heap.size) r.1 r.2) args s 1 6 (rC_A ad gh s.heap.size)
set_option maxRecDepth 100000 in
theorem bx11_vote_34 {p : Program} {l : Launch} {e : Env} {s : State} {m : MethodId} {args : Array Value} {below : List Frame} {meth : Method} {c : Code} {D : va_G} {cI cZ cO : ClassId} {ad : Nat → Nat} {gh : rC_gh} {de : Nat} (E : rC_X D cI cZ cO ad gh RX11 cX11_vote 9 (some .int) p l s m args meth c)   : ∀ (M : rv_Mem) (x1 : Int32) (x4 : Int32) (x5 : Int32) (x6 : Nat) (x7 : Int32) (s0 : Int32), rv_M (rC_G D cI cZ cO ad gh de) (rC_A ad gh s.heap.size) p l e rmx11_vote s m args below meth c 0 0 (qy11_vote D cI cZ cO ad gh de below args s) (f11_vote_34 gh M x1 x4 x5 x6 x7 s0) 34 [some (.ref (ad 0)), some (.int x1), none, none, some (.int x4), some (.int x5), some (.ref (ad x6)), some (.int x7), none] [.int s0] M := by
  intro M x1 x4 x5 x6 x7 s0
  unfold f11_vote_34
  refine rv_istore (q := 36) (lv' := [_, _, _, _, _, _, _, _, _]) E.1.x dX11_vote_34 (Nat.le_of_ble_eq_true rfl) rfl rfl rfl ?_
  refine rv_iload (q := 38) E.1.x dX11_vote_36 rfl rfl ?_
  refine rv_iload (q := 40) E.1.x dX11_vote_38 rfl rfl ?_
  refine rv_ineg (q := 41) E.1.x dX11_vote_40 rfl ?_
  refine rv_icmp_lt (q := 44) (tgt := 51) E.1.x dX11_vote_41 (by decide) rfl ?_ ?_
  · refine rv_iload (q := 46) E.1.x dX11_vote_44 rfl rfl ?_
    refine rv_iload (q := 48) E.1.x dX11_vote_46 rfl rfl ?_
    refine rv_icmp_le (q := 51) (tgt := 62) E.1.x dX11_vote_48 (by decide) rfl ?_ ?_
    · exact rC_throwW (x := 2) E rfl (by decide +kernel) rC_xk2 rC_xi2 rC_xg2 rC_xn2 rC_xo2 E.2.2.2.2.2.2.2.1 (is := 416) (text := "no such value") (by decide +kernel) rfl rfl dX11_vote_51 dX11_vote_54 dX11_vote_55 dX11_vote_58 dX11_vote_61 (Nat.le_of_ble_eq_true rfl) (Nat.le_of_ble_eq_true rfl) ⟨Nat.le_of_ble_eq_true rfl, Nat.le_of_ble_eq_true rfl⟩ ⟨Nat.le_of_ble_eq_true rfl, Nat.le_of_ble_eq_true rfl⟩
    · refine rv_iload_n (q := 63) E.1.x dX11_vote_62 rfl rfl ?_
      refine rv_aload (q := 65) E.1.x dX11_vote_63 rfl rfl ?_
      refine rv_x2r (fun r2 e1 => ?_) (fun w3 e4 => rC_ySv E (fun _ => c11_needOpenAndSeen_x E.2.1 E.1.2.2.1 e4) rfl gX11_183 hX11_needOpenAndSeen ⟨rfl, rfl⟩ ⟨Nat.le_of_ble_eq_true rfl, Nat.le_of_ble_eq_true rfl⟩ ⟨Nat.le_of_ble_eq_true rfl, Nat.le_of_ble_eq_true rfl⟩ rfl rfl rfl (Nat.le_of_ble_eq_true rfl) dX11_vote_65 ⟨Nat.le_of_ble_eq_true rfl, Nat.le_of_ble_eq_true rfl⟩)
      refine rC_xSv (q := 68) E (fun _ => c11_needOpenAndSeen E.2.1 E.1.2.2.1 e1) gX11_183 hX11_needOpenAndSeen ⟨rfl, rfl⟩ ⟨Nat.le_of_ble_eq_true rfl, Nat.le_of_ble_eq_true rfl⟩ ⟨Nat.le_of_ble_eq_true rfl, Nat.le_of_ble_eq_true rfl⟩ rfl rfl rfl (Nat.le_of_ble_eq_true rfl) dX11_vote_65 rfl ?_
      refine rv_aload_n (q := 69) E.1.x dX11_vote_68 rfl rfl ?_
      refine rC_getX11 (q := 72) E.1 0 2 wfX11_28 rfl (Nat.le_of_ble_eq_true rfl) ⟨rfl, rfl⟩ rfl dX11_vote_69 rfl ?_
      refine rv_iload (q := 74) E.1.x dX11_vote_72 rfl rfl ?_
      refine rv_iload (q := 76) E.1.x dX11_vote_74 rfl rfl ?_
      refine rv_iload_n (q := 77) E.1.x dX11_vote_76 rfl rfl ?_
      refine rv_iload (q := 79) E.1.x dX11_vote_77 rfl rfl ?_
      refine rv_b1 (fun M6 e5 => ?_)
      refine rC_callvX10 (q := 82) E.1 ⟨rfl, rfl⟩ (c10_castVote E.1.2.2.1 e5) gX11_418 hX10_castVote ⟨rfl, rfl⟩ ⟨Nat.le_of_ble_eq_true rfl, Nat.le_of_ble_eq_true rfl⟩ ⟨Nat.le_of_ble_eq_true rfl, Nat.le_of_ble_eq_true rfl⟩ rfl rfl rfl (Nat.le_of_ble_eq_true rfl) dX11_vote_79 rfl ?_
      refine rv_aload (q := 84) E.1.x dX11_vote_82 rfl rfl ?_
      refine rv_iload_n (q := 85) E.1.x dX11_vote_84 rfl rfl ?_
      refine rv_g (fun g7 => ?_)
      refine rv_b1 (fun M9 e8 => ?_)
      refine rC_callvX0 (q := 88) E.1 (rC_at_of g7) (c0_takePart E.1.2.2.1 e8) gX11_323 hX0_takePart ⟨rfl, rfl⟩ ⟨Nat.le_of_ble_eq_true rfl, Nat.le_of_ble_eq_true rfl⟩ ⟨Nat.le_of_ble_eq_true rfl, Nat.le_of_ble_eq_true rfl⟩ rfl rfl rfl (Nat.le_of_ble_eq_true rfl) dX11_vote_85 rfl ?_
      refine rv_aload_n (q := 89) E.1.x dX11_vote_88 rfl rfl ?_
      refine rv_iload_n (q := 90) E.1.x dX11_vote_89 rfl rfl ?_
      refine rv_aload (q := 92) E.1.x dX11_vote_90 rfl rfl ?_
      refine rv_iconst (q := 93) E.1.x dX11_vote_92 rv_ki0 rfl ?_
      refine rv_b1 (fun M11 e10 => ?_)
      refine rC_callvX11 (q := 96) E.1 ⟨rfl, rfl⟩ (c11_passTurns E.1.2.2.1 e10) gX11_326 hX11_passTurns ⟨rfl, rfl⟩ ⟨Nat.le_of_ble_eq_true rfl, Nat.le_of_ble_eq_true rfl⟩ ⟨Nat.le_of_ble_eq_true rfl, Nat.le_of_ble_eq_true rfl⟩ rfl rfl rfl (Nat.le_of_ble_eq_true rfl) dX11_vote_93 rfl ?_
      refine rv_aload_n (q := 97) E.1.x dX11_vote_96 rfl rfl ?_
      refine rv_iload_n (q := 98) E.1.x dX11_vote_97 rfl rfl ?_
      refine rv_aload (q := 100) E.1.x dX11_vote_98 rfl rfl ?_
      refine rv_b1 (fun M13 e12 => ?_)
      refine rC_callvX11 (q := 103) E.1 ⟨rfl, rfl⟩ (c11_noteAct E.1.2.2.1 e12) gX11_330 hX11_noteAct ⟨rfl, rfl⟩ ⟨Nat.le_of_ble_eq_true rfl, Nat.le_of_ble_eq_true rfl⟩ ⟨Nat.le_of_ble_eq_true rfl, Nat.le_of_ble_eq_true rfl⟩ rfl rfl rfl (Nat.le_of_ble_eq_true rfl) dX11_vote_100 rfl ?_
      refine rv_aload_n (q := 104) E.1.x dX11_vote_103 rfl rfl ?_
      refine rC_getX11 (q := 107) E.1 0 2 wfX11_28 rfl (Nat.le_of_ble_eq_true rfl) ⟨rfl, rfl⟩ rfl dX11_vote_104 rfl ?_
      refine rv_aload (q := 109) E.1.x dX11_vote_107 rfl rfl ?_
      refine rv_aload (q := 111) E.1.x dX11_vote_109 rfl rfl ?_
      refine rC_getX0 (q := 114) E.1 x6 4 wfX11_238 rfl (Nat.le_of_ble_eq_true rfl) (rC_at_of g7) rfl dX11_vote_111 rfl ?_
      refine rv_iconst (q := 115) E.1.x dX11_vote_114 rv_ki1 rfl ?_
      refine rv_isub (q := 116) E.1.x dX11_vote_115 rfl ?_
      refine rv_iload (q := 118) E.1.x dX11_vote_116 rfl rfl ?_
      refine rv_iload_n (q := 119) E.1.x dX11_vote_118 rfl rfl ?_
      refine rv_b1 (fun r15 e14 => ?_)
      refine rC_calliX10 (q := 122) E.1 ⟨rfl, rfl⟩ (c10_worthOn E.1.2.2.1 e14) gX11_421 hX10_worthOn ⟨rfl, rfl⟩ ⟨Nat.le_of_ble_eq_true rfl, Nat.le_of_ble_eq_true rfl⟩ ⟨Nat.le_of_ble_eq_true rfl, Nat.le_of_ble_eq_true rfl⟩ rfl rfl rfl (Nat.le_of_ble_eq_true rfl) dX11_vote_119 rfl ?_
      exact rv_tr (fun _ => trivial)
  · exact rC_throwW (x := 2) E rfl (by decide +kernel) rC_xk2 rC_xi2 rC_xg2 rC_xn2 rC_xo2 E.2.2.2.2.2.2.2.1 (is := 416) (text := "no such value") (by decide +kernel) rfl rfl dX11_vote_51 dX11_vote_54 dX11_vote_55 dX11_vote_58 dX11_vote_61 (Nat.le_of_ble_eq_true rfl) (Nat.le_of_ble_eq_true rfl) ⟨Nat.le_of_ble_eq_true rfl, Nat.le_of_ble_eq_true rfl⟩ ⟨Nat.le_of_ble_eq_true rfl, Nat.le_of_ble_eq_true rfl⟩
set_option maxRecDepth 100000 in
theorem bx11_vote {p : Program} {l : Launch} {e : Env} {s : State} {m : MethodId} {args : Array Value} {below : List Frame} {meth : Method} {c : Code} {D : va_G} {cI cZ cO : ClassId} {ad : Nat → Nat} {gh : rC_gh} {de : Nat} (E : rC_X D cI cZ cO ad gh RX11 cX11_vote 9 (some .int) p l s m args meth c) (M : rv_Mem) (a1 : Int32) (a2 : Int32) (a3 : Int32) (a4 : Int32) (a5 : Int32) : rv_M (rC_G D cI cZ cO ad gh de) (rC_A ad gh s.heap.size) p l e rmx11_vote s m args below meth c 0 0 (qy11_vote D cI cZ cO ad gh de below args s) (f11_vote gh M a1 a2 a3 a4 a5) 0 [some (.ref (ad 0)), some (.int a1), some (.int a2), some (.int a3), some (.int a4), some (.int a5), none, none, none] [] M := by
  unfold f11_vote
  refine rv_iload_n (q := 1) E.1.x dX11_vote_0 rfl rfl ?_
  refine rv_x2r (fun r2 e1 => ?_) (fun w3 e4 => rC_ySv E (fun _ => c11_needPerson_x E.2.1 E.1.2.2.1 e4) rfl gX11_152 hX11_needPerson ⟨rfl, rfl⟩ ⟨Nat.le_of_ble_eq_true rfl, Nat.le_of_ble_eq_true rfl⟩ ⟨Nat.le_of_ble_eq_true rfl, Nat.le_of_ble_eq_true rfl⟩ rfl rfl rfl (Nat.le_of_ble_eq_true rfl) dX11_vote_1 ⟨Nat.le_of_ble_eq_true rfl, Nat.le_of_ble_eq_true rfl⟩)
  refine rC_xSv (q := 4) E (fun _ => c11_needPerson E.2.1 E.1.2.2.1 e1) gX11_152 hX11_needPerson ⟨rfl, rfl⟩ ⟨Nat.le_of_ble_eq_true rfl, Nat.le_of_ble_eq_true rfl⟩ ⟨Nat.le_of_ble_eq_true rfl, Nat.le_of_ble_eq_true rfl⟩ rfl rfl rfl (Nat.le_of_ble_eq_true rfl) dX11_vote_1 rfl ?_
  refine rv_aload_n (q := 5) E.1.x dX11_vote_4 rfl rfl ?_
  refine rv_iload_n (q := 6) E.1.x dX11_vote_5 rfl rfl ?_
  refine rv_x2r (fun r6 e5 => ?_) (fun w7 e8 => rC_yVrX11 E ⟨rfl, rfl⟩ (fun _ => c11_needChange_x E.2.1 E.1.2.2.1 e8) rfl gX11_91 hX11_needChange ⟨rfl, rfl⟩ ⟨Nat.le_of_ble_eq_true rfl, Nat.le_of_ble_eq_true rfl⟩ ⟨Nat.le_of_ble_eq_true rfl, Nat.le_of_ble_eq_true rfl⟩ rfl rfl rfl (Nat.le_of_ble_eq_true rfl) dX11_vote_6 ⟨Nat.le_of_ble_eq_true rfl, Nat.le_of_ble_eq_true rfl⟩)
  refine rC_xVrX11 (q := 9) E ⟨rfl, rfl⟩ (fun _ => c11_needChange E.2.1 E.1.2.2.1 e5) gX11_91 hX11_needChange ⟨rfl, rfl⟩ ⟨Nat.le_of_ble_eq_true rfl, Nat.le_of_ble_eq_true rfl⟩ ⟨Nat.le_of_ble_eq_true rfl, Nat.le_of_ble_eq_true rfl⟩ rfl rfl rfl (Nat.le_of_ble_eq_true rfl) dX11_vote_6 rfl ?_
  refine rv_astore (q := 11) (lv' := [_, _, _, _, _, _, _, _, _]) E.1.x dX11_vote_9 (Nat.le_of_ble_eq_true rfl) rfl rfl rfl ?_
  refine rv_aload (q := 13) E.1.x dX11_vote_11 rfl rfl ?_
  refine rv_iload_n (q := 14) E.1.x dX11_vote_13 rfl rfl ?_
  refine rv_x2r (fun r10 e9 => ?_) (fun w11 e12 => rC_ySi E (fun _ => c11_needSet_x E.2.1 E.1.2.2.1 e12) rfl gX11_95 hX11_needSet ⟨rfl, rfl⟩ ⟨Nat.le_of_ble_eq_true rfl, Nat.le_of_ble_eq_true rfl⟩ ⟨Nat.le_of_ble_eq_true rfl, Nat.le_of_ble_eq_true rfl⟩ rfl rfl rfl (Nat.le_of_ble_eq_true rfl) dX11_vote_14 ⟨Nat.le_of_ble_eq_true rfl, Nat.le_of_ble_eq_true rfl⟩)
  refine rC_xSi (q := 17) E (fun _ => c11_needSet E.2.1 E.1.2.2.1 e9) gX11_95 hX11_needSet ⟨rfl, rfl⟩ ⟨Nat.le_of_ble_eq_true rfl, Nat.le_of_ble_eq_true rfl⟩ ⟨Nat.le_of_ble_eq_true rfl, Nat.le_of_ble_eq_true rfl⟩ rfl rfl rfl (Nat.le_of_ble_eq_true rfl) dX11_vote_14 rfl ?_
  refine rv_istore (q := 19) (lv' := [_, _, _, _, _, _, _, _, _]) E.1.x dX11_vote_17 (Nat.le_of_ble_eq_true rfl) rfl rfl rfl ?_
  refine rv_iload (q := 21) E.1.x dX11_vote_19 rfl rfl ?_
  refine rv_x2r (fun r14 e13 => ?_) (fun w15 e16 => rC_ySv E (fun _ => c11_needLabel_x E.2.1 E.1.2.2.1 e16) rfl gX11_413 hX11_needLabel ⟨rfl, rfl⟩ ⟨Nat.le_of_ble_eq_true rfl, Nat.le_of_ble_eq_true rfl⟩ ⟨Nat.le_of_ble_eq_true rfl, Nat.le_of_ble_eq_true rfl⟩ rfl rfl rfl (Nat.le_of_ble_eq_true rfl) dX11_vote_21 ⟨Nat.le_of_ble_eq_true rfl, Nat.le_of_ble_eq_true rfl⟩)
  refine rC_xSv (q := 24) E (fun _ => c11_needLabel E.2.1 E.1.2.2.1 e13) gX11_413 hX11_needLabel ⟨rfl, rfl⟩ ⟨Nat.le_of_ble_eq_true rfl, Nat.le_of_ble_eq_true rfl⟩ ⟨Nat.le_of_ble_eq_true rfl, Nat.le_of_ble_eq_true rfl⟩ rfl rfl rfl (Nat.le_of_ble_eq_true rfl) dX11_vote_21 rfl ?_
  refine rv_iload (q := 26) E.1.x dX11_vote_24 rfl rfl ?_
  refine rv_if_ne (q := 29) (tgt := 33) E.1.x dX11_vote_26 (by decide) rfl ?_ ?_
  · refine rv_iconst (q := 30) E.1.x dX11_vote_29 rv_ki2 rfl ?_
    refine rv_goto (q := 34) E.1.x dX11_vote_30 (by decide) ?_
    refine rv_wk [true, true, false, false, true, true, true, true, false] ?_
    exact bx11_vote_34 E M a1 a4 a5 r6 r10 2
  · refine rv_iconst (q := 34) E.1.x dX11_vote_33 rv_ki1 rfl ?_
    refine rv_wk [true, true, false, false, true, true, true, true, false] ?_
    exact bx11_vote_34 E M a1 a4 a5 r6 r10 1
theorem c11_vote_x {l : Launch} {D : va_G} {cI cZ cO : ClassId} {ad : Nat → Nat} {gh : rC_gh} {de : Nat} (hfl : l.stackTraces = false) (hI : rC_I ad gh) {sz : Nat} {M : rv_Mem} {a1 : Int32} {a2 : Int32} {a3 : Int32} {a4 : Int32} {a5 : Int32} {x : Nat} {M1 : rv_Mem} (h : f11_vote gh M a1 a2 a3 a4 a5 = some (.inr (x, M1))) : vx_Met l yX11_vote (rv_ws yX11_vote cX11_vote 9 (some .int)) rmx11_vote (rC_Px D cI cZ cO ad gh de sz [.ref (ad 0), .int a1, .int a2, .int a3, .int a4, .int a5] M) (rC_fi (rC_A ad gh sz)) (rC_xc D cI cZ cO ad gh de (rC_A ad gh sz) x M1) 1 6 (rC_A ad gh sz) := rC_xmet (Qc := fun A => rC_fi A) (XC := fun A => rC_xc D cI cZ cO ad gh de A x M1) hfl hI rfl (by decide) (Nat.le_of_ble_eq_true rfl) (fun p e s m args below meth c E => ⟨(qy11_vote D cI cZ cO ad gh de below args s), rfl, bx11_vote E M a1 a2 a3 a4 a5⟩) h
abbrev rm11_worth : Room := { frames := 7, cells := 0, slots := 0, locals := 122 }
def qx11_worth (D : va_G) (cI cZ cO : ClassId) (ad : Nat → Nat) (gh : rC_gh) (de : Nat) (below : List Frame) (args : Array Value) (s : State) (M : rv_Mem) : Int32 ⊕ Nat → State → Prop := fun r => match r with
  | .inl r => vx_MQ below (rC_qi D cI cZ cO ad gh de (rC_A ad gh s.heap.size) r M) (rC_fx (rC_A ad gh s.heap.size)) args s 0 0 (rC_A ad gh s.heap.size)
  | .inr _ => fun _ => True
set_option maxRecDepth 100000 in
theorem b11_worth {p : Program} {l : Launch} {e : Env} {s : State} {m : MethodId} {args : Array Value} {below : List Frame} {meth : Method} {c : Code} {D : va_G} {cI cZ cO : ClassId} {ad : Nat → Nat} {gh : rC_gh} {de : Nat} (E : rC_X D cI cZ cO ad gh RX11 cX11_worth 6 (some .int) p l s m args meth c) (M : rv_Mem) (a1 : Int32) (a2 : Int32) (a3 : Int32) (a4 : Int32) : rv_M (rC_G D cI cZ cO ad gh de) (rC_A ad gh s.heap.size) p l e rm11_worth s m args below meth c 0 0 (qx11_worth D cI cZ cO ad gh de below args s M) (f11_worth gh M a1 a2 a3 a4) 0 [some (.ref (ad 0)), some (.int a1), some (.int a2), some (.int a3), some (.int a4), none] [] M := by
  unfold f11_worth
  refine rv_iload_n (q := 1) E.1.x dX11_worth_0 rfl rfl ?_
  refine rv_x1r (fun r2 e1 => ?_) (fun w3 e4 => rv_tr (fun _ => trivial))
  refine rC_xSv (q := 4) E (fun _ => c11_needPerson E.2.1 E.1.2.2.1 e1) gX11_152 hX11_needPerson ⟨rfl, rfl⟩ ⟨Nat.le_of_ble_eq_true rfl, Nat.le_of_ble_eq_true rfl⟩ ⟨Nat.le_of_ble_eq_true rfl, Nat.le_of_ble_eq_true rfl⟩ rfl rfl rfl (Nat.le_of_ble_eq_true rfl) dX11_worth_1 rfl ?_
  refine rv_aload_n (q := 5) E.1.x dX11_worth_4 rfl rfl ?_
  refine rv_iload_n (q := 6) E.1.x dX11_worth_5 rfl rfl ?_
  refine rv_x1r (fun r6 e5 => ?_) (fun w7 e8 => rv_tr (fun _ => trivial))
  refine rC_xVrX11 (q := 9) E ⟨rfl, rfl⟩ (fun _ => c11_needChange E.2.1 E.1.2.2.1 e5) gX11_91 hX11_needChange ⟨rfl, rfl⟩ ⟨Nat.le_of_ble_eq_true rfl, Nat.le_of_ble_eq_true rfl⟩ ⟨Nat.le_of_ble_eq_true rfl, Nat.le_of_ble_eq_true rfl⟩ rfl rfl rfl (Nat.le_of_ble_eq_true rfl) dX11_worth_6 rfl ?_
  refine rv_astore (q := 11) (lv' := [_, _, _, _, _, _]) E.1.x dX11_worth_9 (Nat.le_of_ble_eq_true rfl) rfl rfl rfl ?_
  refine rv_aload (q := 13) E.1.x dX11_worth_11 rfl rfl ?_
  refine rv_iload_n (q := 14) E.1.x dX11_worth_13 rfl rfl ?_
  refine rv_x1r (fun r10 e9 => ?_) (fun w11 e12 => rv_tr (fun _ => trivial))
  refine rC_xSi (q := 17) E (fun _ => c11_needSet E.2.1 E.1.2.2.1 e9) gX11_95 hX11_needSet ⟨rfl, rfl⟩ ⟨Nat.le_of_ble_eq_true rfl, Nat.le_of_ble_eq_true rfl⟩ ⟨Nat.le_of_ble_eq_true rfl, Nat.le_of_ble_eq_true rfl⟩ rfl rfl rfl (Nat.le_of_ble_eq_true rfl) dX11_worth_14 rfl ?_
  refine rv_pop (q := 18) E.1.x dX11_worth_17 rfl rfl ?_
  refine rv_iload (q := 20) E.1.x dX11_worth_18 rfl rfl ?_
  refine rv_x1r (fun r14 e13 => ?_) (fun w15 e16 => rv_tr (fun _ => trivial))
  refine rC_xSv (q := 23) E (fun _ => c11_needLabel E.2.1 E.1.2.2.1 e13) gX11_413 hX11_needLabel ⟨rfl, rfl⟩ ⟨Nat.le_of_ble_eq_true rfl, Nat.le_of_ble_eq_true rfl⟩ ⟨Nat.le_of_ble_eq_true rfl, Nat.le_of_ble_eq_true rfl⟩ rfl rfl rfl (Nat.le_of_ble_eq_true rfl) dX11_worth_20 rfl ?_
  refine rv_aload_n (q := 24) E.1.x dX11_worth_23 rfl rfl ?_
  refine rC_getX11 (q := 27) E.1 0 2 wfX11_28 rfl (Nat.le_of_ble_eq_true rfl) ⟨rfl, rfl⟩ rfl dX11_worth_24 rfl ?_
  refine rv_aload (q := 29) E.1.x dX11_worth_27 rfl rfl ?_
  refine rv_iload_n (q := 30) E.1.x dX11_worth_29 rfl rfl ?_
  refine rv_iload (q := 32) E.1.x dX11_worth_30 rfl rfl ?_
  refine rv_iload_n (q := 33) E.1.x dX11_worth_32 rfl rfl ?_
  refine rv_b1 (fun r18 e17 => ?_)
  refine rC_calliX10 (q := 36) E.1 ⟨rfl, rfl⟩ (c10_worthOn E.1.2.2.1 e17) gX11_421 hX10_worthOn ⟨rfl, rfl⟩ ⟨Nat.le_of_ble_eq_true rfl, Nat.le_of_ble_eq_true rfl⟩ ⟨Nat.le_of_ble_eq_true rfl, Nat.le_of_ble_eq_true rfl⟩ rfl rfl rfl (Nat.le_of_ble_eq_true rfl) dX11_worth_33 rfl ?_
  exact rC_xiret E rfl ⟨Nat.le_of_ble_eq_true rfl, Nat.le_of_ble_eq_true rfl⟩ dX11_worth_36
theorem c11_worth {l : Launch} {D : va_G} {cI cZ cO : ClassId} {ad : Nat → Nat} {gh : rC_gh} {de : Nat} (hfl : l.stackTraces = false) (hI : rC_I ad gh) {sz : Nat} {M : rv_Mem} {a1 : Int32} {a2 : Int32} {a3 : Int32} {a4 : Int32} {r : Int32} (h : f11_worth gh M a1 a2 a3 a4 = some (.inl r)) : vx_Met l yX11_worth (rv_ws yX11_worth cX11_worth 6 (some .int)) rm11_worth (rC_Px D cI cZ cO ad gh de sz [.ref (ad 0), .int a1, .int a2, .int a3, .int a4] M) (rC_qi D cI cZ cO ad gh de (rC_A ad gh sz) r M) (rC_fx (rC_A ad gh sz)) 0 0 (rC_A ad gh sz) := rC_xmet (Qc := fun A => rC_qi D cI cZ cO ad gh de A r M) (XC := fun A => rC_fx A) hfl hI rfl (by decide) (Nat.le_of_ble_eq_true rfl) (fun p e s m args below meth c E => ⟨(qx11_worth D cI cZ cO ad gh de below args s M), rfl, b11_worth E M a1 a2 a3 a4⟩) h
abbrev rmx11_worth : Room := { frames := 7, cells := 1, slots := 6, locals := 122 }
def qy11_worth (D : va_G) (cI cZ cO : ClassId) (ad : Nat → Nat) (gh : rC_gh) (de : Nat) (below : List Frame) (args : Array Value) (s : State) (M : rv_Mem) : Int32 ⊕ Nat → State → Prop := fun r => match r with
  | .inl _ => fun _ => True
  | .inr r => vx_MQ below (rC_fi (rC_A ad gh s.heap.size)) (rC_xc D cI cZ cO ad gh de (rC_A ad gh s.heap.size) r M) args s 1 6 (rC_A ad gh s.heap.size)
set_option maxRecDepth 100000 in
theorem bx11_worth {p : Program} {l : Launch} {e : Env} {s : State} {m : MethodId} {args : Array Value} {below : List Frame} {meth : Method} {c : Code} {D : va_G} {cI cZ cO : ClassId} {ad : Nat → Nat} {gh : rC_gh} {de : Nat} (E : rC_X D cI cZ cO ad gh RX11 cX11_worth 6 (some .int) p l s m args meth c) (M : rv_Mem) (a1 : Int32) (a2 : Int32) (a3 : Int32) (a4 : Int32) : rv_M (rC_G D cI cZ cO ad gh de) (rC_A ad gh s.heap.size) p l e rmx11_worth s m args below meth c 0 0 (qy11_worth D cI cZ cO ad gh de below args s M) (f11_worth gh M a1 a2 a3 a4) 0 [some (.ref (ad 0)), some (.int a1), some (.int a2), some (.int a3), some (.int a4), none] [] M := by
  unfold f11_worth
  refine rv_iload_n (q := 1) E.1.x dX11_worth_0 rfl rfl ?_
  refine rv_x1r (fun r2 e1 => ?_) (fun w3 e4 => rC_ySv E (fun _ => c11_needPerson_x E.2.1 E.1.2.2.1 e4) rfl gX11_152 hX11_needPerson ⟨rfl, rfl⟩ ⟨Nat.le_of_ble_eq_true rfl, Nat.le_of_ble_eq_true rfl⟩ ⟨Nat.le_of_ble_eq_true rfl, Nat.le_of_ble_eq_true rfl⟩ rfl rfl rfl (Nat.le_of_ble_eq_true rfl) dX11_worth_1 ⟨Nat.le_of_ble_eq_true rfl, Nat.le_of_ble_eq_true rfl⟩)
  refine rC_xSv (q := 4) E (fun _ => c11_needPerson E.2.1 E.1.2.2.1 e1) gX11_152 hX11_needPerson ⟨rfl, rfl⟩ ⟨Nat.le_of_ble_eq_true rfl, Nat.le_of_ble_eq_true rfl⟩ ⟨Nat.le_of_ble_eq_true rfl, Nat.le_of_ble_eq_true rfl⟩ rfl rfl rfl (Nat.le_of_ble_eq_true rfl) dX11_worth_1 rfl ?_
  refine rv_aload_n (q := 5) E.1.x dX11_worth_4 rfl rfl ?_
  refine rv_iload_n (q := 6) E.1.x dX11_worth_5 rfl rfl ?_
  refine rv_x1r (fun r6 e5 => ?_) (fun w7 e8 => rC_yVrX11 E ⟨rfl, rfl⟩ (fun _ => c11_needChange_x E.2.1 E.1.2.2.1 e8) rfl gX11_91 hX11_needChange ⟨rfl, rfl⟩ ⟨Nat.le_of_ble_eq_true rfl, Nat.le_of_ble_eq_true rfl⟩ ⟨Nat.le_of_ble_eq_true rfl, Nat.le_of_ble_eq_true rfl⟩ rfl rfl rfl (Nat.le_of_ble_eq_true rfl) dX11_worth_6 ⟨Nat.le_of_ble_eq_true rfl, Nat.le_of_ble_eq_true rfl⟩)
  refine rC_xVrX11 (q := 9) E ⟨rfl, rfl⟩ (fun _ => c11_needChange E.2.1 E.1.2.2.1 e5) gX11_91 hX11_needChange ⟨rfl, rfl⟩ ⟨Nat.le_of_ble_eq_true rfl, Nat.le_of_ble_eq_true rfl⟩ ⟨Nat.le_of_ble_eq_true rfl, Nat.le_of_ble_eq_true rfl⟩ rfl rfl rfl (Nat.le_of_ble_eq_true rfl) dX11_worth_6 rfl ?_
  refine rv_astore (q := 11) (lv' := [_, _, _, _, _, _]) E.1.x dX11_worth_9 (Nat.le_of_ble_eq_true rfl) rfl rfl rfl ?_
  refine rv_aload (q := 13) E.1.x dX11_worth_11 rfl rfl ?_
  refine rv_iload_n (q := 14) E.1.x dX11_worth_13 rfl rfl ?_
  refine rv_x1r (fun r10 e9 => ?_) (fun w11 e12 => rC_ySi E (fun _ => c11_needSet_x E.2.1 E.1.2.2.1 e12) rfl gX11_95 hX11_needSet ⟨rfl, rfl⟩ ⟨Nat.le_of_ble_eq_true rfl, Nat.le_of_ble_eq_true rfl⟩ ⟨Nat.le_of_ble_eq_true rfl, Nat.le_of_ble_eq_true rfl⟩ rfl rfl rfl (Nat.le_of_ble_eq_true rfl) dX11_worth_14 ⟨Nat.le_of_ble_eq_true rfl, Nat.le_of_ble_eq_true rfl⟩)
  refine rC_xSi (q := 17) E (fun _ => c11_needSet E.2.1 E.1.2.2.1 e9) gX11_95 hX11_needSet ⟨rfl, rfl⟩ ⟨Nat.le_of_ble_eq_true rfl, Nat.le_of_ble_eq_true rfl⟩ ⟨Nat.le_of_ble_eq_true rfl, Nat.le_of_ble_eq_true rfl⟩ rfl rfl rfl (Nat.le_of_ble_eq_true rfl) dX11_worth_14 rfl ?_
  refine rv_pop (q := 18) E.1.x dX11_worth_17 rfl rfl ?_
  refine rv_iload (q := 20) E.1.x dX11_worth_18 rfl rfl ?_
  refine rv_x1r (fun r14 e13 => ?_) (fun w15 e16 => rC_ySv E (fun _ => c11_needLabel_x E.2.1 E.1.2.2.1 e16) rfl gX11_413 hX11_needLabel ⟨rfl, rfl⟩ ⟨Nat.le_of_ble_eq_true rfl, Nat.le_of_ble_eq_true rfl⟩ ⟨Nat.le_of_ble_eq_true rfl, Nat.le_of_ble_eq_true rfl⟩ rfl rfl rfl (Nat.le_of_ble_eq_true rfl) dX11_worth_20 ⟨Nat.le_of_ble_eq_true rfl, Nat.le_of_ble_eq_true rfl⟩)
  refine rC_xSv (q := 23) E (fun _ => c11_needLabel E.2.1 E.1.2.2.1 e13) gX11_413 hX11_needLabel ⟨rfl, rfl⟩ ⟨Nat.le_of_ble_eq_true rfl, Nat.le_of_ble_eq_true rfl⟩ ⟨Nat.le_of_ble_eq_true rfl, Nat.le_of_ble_eq_true rfl⟩ rfl rfl rfl (Nat.le_of_ble_eq_true rfl) dX11_worth_20 rfl ?_
  refine rv_aload_n (q := 24) E.1.x dX11_worth_23 rfl rfl ?_
  refine rC_getX11 (q := 27) E.1 0 2 wfX11_28 rfl (Nat.le_of_ble_eq_true rfl) ⟨rfl, rfl⟩ rfl dX11_worth_24 rfl ?_
  refine rv_aload (q := 29) E.1.x dX11_worth_27 rfl rfl ?_
  refine rv_iload_n (q := 30) E.1.x dX11_worth_29 rfl rfl ?_
  refine rv_iload (q := 32) E.1.x dX11_worth_30 rfl rfl ?_
  refine rv_iload_n (q := 33) E.1.x dX11_worth_32 rfl rfl ?_
  refine rv_b1 (fun r18 e17 => ?_)
  refine rC_calliX10 (q := 36) E.1 ⟨rfl, rfl⟩ (c10_worthOn E.1.2.2.1 e17) gX11_421 hX10_worthOn ⟨rfl, rfl⟩ ⟨Nat.le_of_ble_eq_true rfl, Nat.le_of_ble_eq_true rfl⟩ ⟨Nat.le_of_ble_eq_true rfl, Nat.le_of_ble_eq_true rfl⟩ rfl rfl rfl (Nat.le_of_ble_eq_true rfl) dX11_worth_33 rfl ?_
  exact rv_tr (fun _ => trivial)
theorem c11_worth_x {l : Launch} {D : va_G} {cI cZ cO : ClassId} {ad : Nat → Nat} {gh : rC_gh} {de : Nat} (hfl : l.stackTraces = false) (hI : rC_I ad gh) {sz : Nat} {M : rv_Mem} {a1 : Int32} {a2 : Int32} {a3 : Int32} {a4 : Int32} {x : Nat} (h : f11_worth gh M a1 a2 a3 a4 = some (.inr x)) : vx_Met l yX11_worth (rv_ws yX11_worth cX11_worth 6 (some .int)) rmx11_worth (rC_Px D cI cZ cO ad gh de sz [.ref (ad 0), .int a1, .int a2, .int a3, .int a4] M) (rC_fi (rC_A ad gh sz)) (rC_xc D cI cZ cO ad gh de (rC_A ad gh sz) x M) 1 6 (rC_A ad gh sz) := rC_xmet (Qc := fun A => rC_fi A) (XC := fun A => rC_xc D cI cZ cO ad gh de A x M) hfl hI rfl (by decide) (Nat.le_of_ble_eq_true rfl) (fun p e s m args below meth c E => ⟨(qy11_worth D cI cZ cO ad gh de below args s M), rfl, bx11_worth E M a1 a2 a3 a4⟩) h
abbrev rm11_setCopied : Room := { frames := 7, cells := 0, slots := 0, locals := 120 }
def qx11_setCopied (D : va_G) (cI cZ cO : ClassId) (ad : Nat → Nat) (gh : rC_gh) (de : Nat) (below : List Frame) (args : Array Value) (s : State) : (Int32 × rv_Mem) ⊕ (Nat × rv_Mem) → State → Prop := fun r => match r with
  | .inl r => vx_MQ below (rC_qi D cI cZ cO ad gh de (rC_A ad gh s.heap.size) r.1 r.2) (rC_fx (rC_A ad gh s.heap.size)) args s 0 0 (rC_A ad gh s.heap.size)
  | .inr _ => fun _ => True
set_option maxRecDepth 100000 in
theorem b11_setCopied {p : Program} {l : Launch} {e : Env} {s : State} {m : MethodId} {args : Array Value} {below : List Frame} {meth : Method} {c : Code} {D : va_G} {cI cZ cO : ClassId} {ad : Nat → Nat} {gh : rC_gh} {de : Nat} (E : rC_X D cI cZ cO ad gh RX11 cX11_setCopied 4 (some .int) p l s m args meth c) (M : rv_Mem) (a1 : Int32) (a2 : Int32) (a3 : Int32) : rv_M (rC_G D cI cZ cO ad gh de) (rC_A ad gh s.heap.size) p l e rm11_setCopied s m args below meth c 0 0 (qx11_setCopied D cI cZ cO ad gh de below args s) (f11_setCopied gh M a1 a2 a3) 0 [some (.ref (ad 0)), some (.int a1), some (.int a2), some (.int a3)] [] M := by
  unfold f11_setCopied
  refine rv_iload_n (q := 1) E.1.x dX11_setCopied_0 rfl rfl ?_
  refine rv_x2r (fun r2 e1 => ?_) (fun w3 e4 => rv_tr (fun _ => trivial))
  refine rC_xSv (q := 4) E (fun _ => c11_needLabel E.2.1 E.1.2.2.1 e1) gX11_413 hX11_needLabel ⟨rfl, rfl⟩ ⟨Nat.le_of_ble_eq_true rfl, Nat.le_of_ble_eq_true rfl⟩ ⟨Nat.le_of_ble_eq_true rfl, Nat.le_of_ble_eq_true rfl⟩ rfl rfl rfl (Nat.le_of_ble_eq_true rfl) dX11_setCopied_1 rfl ?_
  refine rv_iload_n (q := 5) E.1.x dX11_setCopied_4 rfl rfl ?_
  refine rv_if_lt (q := 8) (tgt := 13) E.1.x dX11_setCopied_5 (by decide) rfl ?_ ?_
  · refine rv_iload_n (q := 9) E.1.x dX11_setCopied_8 rfl rfl ?_
    refine rv_iconst (q := 10) E.1.x dX11_setCopied_9 rv_ki3 rfl ?_
    refine rv_icmp_lt (q := 13) (tgt := 24) E.1.x dX11_setCopied_10 (by decide) rfl ?_ ?_
    · exact rv_tr (fun _ => trivial)
    · refine rv_iload_n (q := 25) E.1.x dX11_setCopied_24 rfl rfl ?_
      refine rv_if_lt (q := 28) (tgt := 34) E.1.x dX11_setCopied_25 (by decide) rfl ?_ ?_
      · refine rv_iload_n (q := 29) E.1.x dX11_setCopied_28 rfl rfl ?_
        refine rv_bipush (q := 31) E.1.x dX11_setCopied_29 rv_kb32 rfl ?_
        refine rv_icmp_lt (q := 34) (tgt := 45) E.1.x dX11_setCopied_31 (by decide) rfl ?_ ?_
        · exact rv_tr (fun _ => trivial)
        · refine rv_aload_n (q := 46) E.1.x dX11_setCopied_45 rfl rfl ?_
          refine rC_getX11 (q := 49) E.1 0 2 wfX11_28 rfl (Nat.le_of_ble_eq_true rfl) ⟨rfl, rfl⟩ rfl dX11_setCopied_46 rfl ?_
          refine rv_iload_n (q := 50) E.1.x dX11_setCopied_49 rfl rfl ?_
          refine rv_iconst (q := 51) E.1.x dX11_setCopied_50 rv_ki3 rfl ?_
          refine rv_imul (q := 52) E.1.x dX11_setCopied_51 rfl ?_
          refine rv_iload_n (q := 53) E.1.x dX11_setCopied_52 rfl rfl ?_
          refine rv_iadd (q := 54) E.1.x dX11_setCopied_53 rfl ?_
          refine rv_iload_n (q := 55) E.1.x dX11_setCopied_54 rfl rfl ?_
          refine rv_b2 (fun r6 M7 e5 => ?_)
          refine rC_calliX10 (q := 58) E.1 ⟨rfl, rfl⟩ (c10_replaceCopied E.1.2.2.1 e5) gX11_429 hX10_replaceCopied ⟨rfl, rfl⟩ ⟨Nat.le_of_ble_eq_true rfl, Nat.le_of_ble_eq_true rfl⟩ ⟨Nat.le_of_ble_eq_true rfl, Nat.le_of_ble_eq_true rfl⟩ rfl rfl rfl (Nat.le_of_ble_eq_true rfl) dX11_setCopied_55 rfl ?_
          exact rC_xiret E rfl ⟨Nat.le_of_ble_eq_true rfl, Nat.le_of_ble_eq_true rfl⟩ dX11_setCopied_58
      · exact rv_tr (fun _ => trivial)
  · exact rv_tr (fun _ => trivial)
theorem c11_setCopied {l : Launch} {D : va_G} {cI cZ cO : ClassId} {ad : Nat → Nat} {gh : rC_gh} {de : Nat} (hfl : l.stackTraces = false) (hI : rC_I ad gh) {sz : Nat} {M : rv_Mem} {a1 : Int32} {a2 : Int32} {a3 : Int32} {r : Int32} {M1 : rv_Mem} (h : f11_setCopied gh M a1 a2 a3 = some (.inl (r, M1))) : vx_Met l yX11_setCopied (rv_ws yX11_setCopied cX11_setCopied 4 (some .int)) rm11_setCopied (rC_Px D cI cZ cO ad gh de sz [.ref (ad 0), .int a1, .int a2, .int a3] M) (rC_qi D cI cZ cO ad gh de (rC_A ad gh sz) r M1) (rC_fx (rC_A ad gh sz)) 0 0 (rC_A ad gh sz) := rC_xmet (Qc := fun A => rC_qi D cI cZ cO ad gh de A r M1) (XC := fun A => rC_fx A) hfl hI rfl (by decide) (Nat.le_of_ble_eq_true rfl) (fun p e s m args below meth c E => ⟨(qx11_setCopied D cI cZ cO ad gh de below args s), rfl, b11_setCopied E M a1 a2 a3⟩) h
abbrev rmx11_setCopied : Room := { frames := 7, cells := 1, slots := 6, locals := 120 }
def qy11_setCopied (D : va_G) (cI cZ cO : ClassId) (ad : Nat → Nat) (gh : rC_gh) (de : Nat) (below : List Frame) (args : Array Value) (s : State) : (Int32 × rv_Mem) ⊕ (Nat × rv_Mem) → State → Prop := fun r => match r with
  | .inl _ => fun _ => True
  | .inr r => vx_MQ below (rC_fi (rC_A ad gh s.heap.size)) (rC_xc D cI cZ cO ad gh de (rC_A ad gh s.heap.size) r.1 r.2) args s 1 6 (rC_A ad gh s.heap.size)
set_option maxRecDepth 100000 in
theorem bx11_setCopied {p : Program} {l : Launch} {e : Env} {s : State} {m : MethodId} {args : Array Value} {below : List Frame} {meth : Method} {c : Code} {D : va_G} {cI cZ cO : ClassId} {ad : Nat → Nat} {gh : rC_gh} {de : Nat} (E : rC_X D cI cZ cO ad gh RX11 cX11_setCopied 4 (some .int) p l s m args meth c) (M : rv_Mem) (a1 : Int32) (a2 : Int32) (a3 : Int32) : rv_M (rC_G D cI cZ cO ad gh de) (rC_A ad gh s.heap.size) p l e rmx11_setCopied s m args below meth c 0 0 (qy11_setCopied D cI cZ cO ad gh de below args s) (f11_setCopied gh M a1 a2 a3) 0 [some (.ref (ad 0)), some (.int a1), some (.int a2), some (.int a3)] [] M := by
  unfold f11_setCopied
  refine rv_iload_n (q := 1) E.1.x dX11_setCopied_0 rfl rfl ?_
  refine rv_x2r (fun r2 e1 => ?_) (fun w3 e4 => rC_ySv E (fun _ => c11_needLabel_x E.2.1 E.1.2.2.1 e4) rfl gX11_413 hX11_needLabel ⟨rfl, rfl⟩ ⟨Nat.le_of_ble_eq_true rfl, Nat.le_of_ble_eq_true rfl⟩ ⟨Nat.le_of_ble_eq_true rfl, Nat.le_of_ble_eq_true rfl⟩ rfl rfl rfl (Nat.le_of_ble_eq_true rfl) dX11_setCopied_1 ⟨Nat.le_of_ble_eq_true rfl, Nat.le_of_ble_eq_true rfl⟩)
  refine rC_xSv (q := 4) E (fun _ => c11_needLabel E.2.1 E.1.2.2.1 e1) gX11_413 hX11_needLabel ⟨rfl, rfl⟩ ⟨Nat.le_of_ble_eq_true rfl, Nat.le_of_ble_eq_true rfl⟩ ⟨Nat.le_of_ble_eq_true rfl, Nat.le_of_ble_eq_true rfl⟩ rfl rfl rfl (Nat.le_of_ble_eq_true rfl) dX11_setCopied_1 rfl ?_
  refine rv_iload_n (q := 5) E.1.x dX11_setCopied_4 rfl rfl ?_
  refine rv_if_lt (q := 8) (tgt := 13) E.1.x dX11_setCopied_5 (by decide) rfl ?_ ?_
  · refine rv_iload_n (q := 9) E.1.x dX11_setCopied_8 rfl rfl ?_
    refine rv_iconst (q := 10) E.1.x dX11_setCopied_9 rv_ki3 rfl ?_
    refine rv_icmp_lt (q := 13) (tgt := 24) E.1.x dX11_setCopied_10 (by decide) rfl ?_ ?_
    · exact rC_throwW (x := 2) E rfl (by decide +kernel) rC_xk2 rC_xi2 rC_xg2 rC_xn2 rC_xo2 E.2.2.2.2.2.2.2.1 (is := 425) (text := "no such kind") (by decide +kernel) rfl rfl dX11_setCopied_13 dX11_setCopied_16 dX11_setCopied_17 dX11_setCopied_20 dX11_setCopied_23 (Nat.le_of_ble_eq_true rfl) (Nat.le_of_ble_eq_true rfl) ⟨Nat.le_of_ble_eq_true rfl, Nat.le_of_ble_eq_true rfl⟩ ⟨Nat.le_of_ble_eq_true rfl, Nat.le_of_ble_eq_true rfl⟩
    · refine rv_iload_n (q := 25) E.1.x dX11_setCopied_24 rfl rfl ?_
      refine rv_if_lt (q := 28) (tgt := 34) E.1.x dX11_setCopied_25 (by decide) rfl ?_ ?_
      · refine rv_iload_n (q := 29) E.1.x dX11_setCopied_28 rfl rfl ?_
        refine rv_bipush (q := 31) E.1.x dX11_setCopied_29 rv_kb32 rfl ?_
        refine rv_icmp_lt (q := 34) (tgt := 45) E.1.x dX11_setCopied_31 (by decide) rfl ?_ ?_
        · exact rC_throwW (x := 2) E rfl (by decide +kernel) rC_xk2 rC_xi2 rC_xg2 rC_xn2 rC_xo2 E.2.2.2.2.2.2.2.1 (is := 427) (text := "no such values") (by decide +kernel) rfl rfl dX11_setCopied_34 dX11_setCopied_37 dX11_setCopied_38 dX11_setCopied_41 dX11_setCopied_44 (Nat.le_of_ble_eq_true rfl) (Nat.le_of_ble_eq_true rfl) ⟨Nat.le_of_ble_eq_true rfl, Nat.le_of_ble_eq_true rfl⟩ ⟨Nat.le_of_ble_eq_true rfl, Nat.le_of_ble_eq_true rfl⟩
        · refine rv_aload_n (q := 46) E.1.x dX11_setCopied_45 rfl rfl ?_
          refine rC_getX11 (q := 49) E.1 0 2 wfX11_28 rfl (Nat.le_of_ble_eq_true rfl) ⟨rfl, rfl⟩ rfl dX11_setCopied_46 rfl ?_
          refine rv_iload_n (q := 50) E.1.x dX11_setCopied_49 rfl rfl ?_
          refine rv_iconst (q := 51) E.1.x dX11_setCopied_50 rv_ki3 rfl ?_
          refine rv_imul (q := 52) E.1.x dX11_setCopied_51 rfl ?_
          refine rv_iload_n (q := 53) E.1.x dX11_setCopied_52 rfl rfl ?_
          refine rv_iadd (q := 54) E.1.x dX11_setCopied_53 rfl ?_
          refine rv_iload_n (q := 55) E.1.x dX11_setCopied_54 rfl rfl ?_
          refine rv_b2 (fun r6 M7 e5 => ?_)
          refine rC_calliX10 (q := 58) E.1 ⟨rfl, rfl⟩ (c10_replaceCopied E.1.2.2.1 e5) gX11_429 hX10_replaceCopied ⟨rfl, rfl⟩ ⟨Nat.le_of_ble_eq_true rfl, Nat.le_of_ble_eq_true rfl⟩ ⟨Nat.le_of_ble_eq_true rfl, Nat.le_of_ble_eq_true rfl⟩ rfl rfl rfl (Nat.le_of_ble_eq_true rfl) dX11_setCopied_55 rfl ?_
          exact rv_tr (fun _ => trivial)
      · exact rC_throwW (x := 2) E rfl (by decide +kernel) rC_xk2 rC_xi2 rC_xg2 rC_xn2 rC_xo2 E.2.2.2.2.2.2.2.1 (is := 427) (text := "no such values") (by decide +kernel) rfl rfl dX11_setCopied_34 dX11_setCopied_37 dX11_setCopied_38 dX11_setCopied_41 dX11_setCopied_44 (Nat.le_of_ble_eq_true rfl) (Nat.le_of_ble_eq_true rfl) ⟨Nat.le_of_ble_eq_true rfl, Nat.le_of_ble_eq_true rfl⟩ ⟨Nat.le_of_ble_eq_true rfl, Nat.le_of_ble_eq_true rfl⟩
  · exact rC_throwW (x := 2) E rfl (by decide +kernel) rC_xk2 rC_xi2 rC_xg2 rC_xn2 rC_xo2 E.2.2.2.2.2.2.2.1 (is := 425) (text := "no such kind") (by decide +kernel) rfl rfl dX11_setCopied_13 dX11_setCopied_16 dX11_setCopied_17 dX11_setCopied_20 dX11_setCopied_23 (Nat.le_of_ble_eq_true rfl) (Nat.le_of_ble_eq_true rfl) ⟨Nat.le_of_ble_eq_true rfl, Nat.le_of_ble_eq_true rfl⟩ ⟨Nat.le_of_ble_eq_true rfl, Nat.le_of_ble_eq_true rfl⟩
theorem c11_setCopied_x {l : Launch} {D : va_G} {cI cZ cO : ClassId} {ad : Nat → Nat} {gh : rC_gh} {de : Nat} (hfl : l.stackTraces = false) (hI : rC_I ad gh) {sz : Nat} {M : rv_Mem} {a1 : Int32} {a2 : Int32} {a3 : Int32} {x : Nat} {M1 : rv_Mem} (h : f11_setCopied gh M a1 a2 a3 = some (.inr (x, M1))) : vx_Met l yX11_setCopied (rv_ws yX11_setCopied cX11_setCopied 4 (some .int)) rmx11_setCopied (rC_Px D cI cZ cO ad gh de sz [.ref (ad 0), .int a1, .int a2, .int a3] M) (rC_fi (rC_A ad gh sz)) (rC_xc D cI cZ cO ad gh de (rC_A ad gh sz) x M1) 1 6 (rC_A ad gh sz) := rC_xmet (Qc := fun A => rC_fi A) (XC := fun A => rC_xc D cI cZ cO ad gh de A x M1) hfl hI rfl (by decide) (Nat.le_of_ble_eq_true rfl) (fun p e s m args below meth c E => ⟨(qy11_setCopied D cI cZ cO ad gh de below args s), rfl, bx11_setCopied E M a1 a2 a3⟩) h
abbrev rm11_addRule : Room := { frames := 6, cells := 0, slots := 0, locals := 101 }
def qx11_addRule (D : va_G) (cI cZ cO : ClassId) (ad : Nat → Nat) (gh : rC_gh) (de : Nat) (below : List Frame) (args : Array Value) (s : State) : (Int32 × rv_Mem) ⊕ (Nat × rv_Mem) → State → Prop := fun r => match r with
  | .inl r => vx_MQ below (rC_qi D cI cZ cO ad gh de (rC_A ad gh s.heap.size) r.1 r.2) (rC_fx (rC_A ad gh s.heap.size)) args s 0 0 (rC_A ad gh s.heap.size)
  | .inr _ => fun _ => True
set_option maxRecDepth 100000 in
theorem b11_addRule {p : Program} {l : Launch} {e : Env} {s : State} {m : MethodId} {args : Array Value} {below : List Frame} {meth : Method} {c : Code} {D : va_G} {cI cZ cO : ClassId} {ad : Nat → Nat} {gh : rC_gh} {de : Nat} (E : rC_X D cI cZ cO ad gh RX11 cX11_addRule 5 (some .int) p l s m args meth c) (M : rv_Mem) (a1 : Int32) (a2 : Int32) (a3 : Int32) : rv_M (rC_G D cI cZ cO ad gh de) (rC_A ad gh s.heap.size) p l e rm11_addRule s m args below meth c 0 0 (qx11_addRule D cI cZ cO ad gh de below args s) (f11_addRule gh M a1 a2 a3) 0 [some (.ref (ad 0)), some (.int a1), some (.int a2), some (.int a3), none] [] M := by
  unfold f11_addRule
  refine rv_iload_n (q := 1) E.1.x dX11_addRule_0 rfl rfl ?_
  refine rv_bipush (q := 3) E.1.x dX11_addRule_1 rv_kb8 rfl ?_
  refine rv_icmp_lt (q := 6) (tgt := 12) E.1.x dX11_addRule_3 (by decide) rfl ?_ ?_
  · refine rv_iload_n (q := 7) E.1.x dX11_addRule_6 rfl rfl ?_
    refine rv_bipush (q := 9) E.1.x dX11_addRule_7 rv_kb16 rfl ?_
    refine rv_icmp_lt (q := 12) (tgt := 23) E.1.x dX11_addRule_9 (by decide) rfl ?_ ?_
    · exact rv_tr (fun _ => trivial)
    · refine rv_iload_n (q := 24) E.1.x dX11_addRule_23 rfl rfl ?_
      refine rv_if_lt (q := 27) (tgt := 45) E.1.x dX11_addRule_24 (by decide) rfl ?_ ?_
      · refine rv_iload_n (q := 28) E.1.x dX11_addRule_27 rfl rfl ?_
        refine rC_ldc_w (q := 31) E.1 (wkX11_434) dX11_addRule_28 rfl ?_
        refine rv_icmp_ge (q := 34) (tgt := 45) E.1.x dX11_addRule_31 (by decide) rfl ?_ ?_
        · refine rv_iload_n (q := 35) E.1.x dX11_addRule_34 rfl rfl ?_
          refine rv_if_lt (q := 38) (tgt := 45) E.1.x dX11_addRule_35 (by decide) rfl ?_ ?_
          · refine rv_iload_n (q := 39) E.1.x dX11_addRule_38 rfl rfl ?_
            refine rC_ldc_w (q := 42) E.1 (wkX11_434) dX11_addRule_39 rfl ?_
            refine rv_icmp_lt (q := 45) (tgt := 56) E.1.x dX11_addRule_42 (by decide) rfl ?_ ?_
            · exact rv_tr (fun _ => trivial)
            · refine rv_aload_n (q := 57) E.1.x dX11_addRule_56 rfl rfl ?_
              refine rC_getX11 (q := 60) E.1 0 3 wfX11_35 rfl (Nat.le_of_ble_eq_true rfl) ⟨rfl, rfl⟩ rfl dX11_addRule_57 rfl ?_
              refine rv_iload_n (q := 61) E.1.x dX11_addRule_60 rfl rfl ?_
              refine rv_iload_n (q := 62) E.1.x dX11_addRule_61 rfl rfl ?_
              refine rv_iload_n (q := 63) E.1.x dX11_addRule_62 rfl rfl ?_
              refine rv_b2 (fun r2 M3 e1 => ?_)
              refine rC_calliX8 (q := 66) E.1 ⟨rfl, rfl⟩ (c8_tryAdd E.1.2.2.1 e1) gX11_437 hX8_tryAdd ⟨rfl, rfl⟩ ⟨Nat.le_of_ble_eq_true rfl, Nat.le_of_ble_eq_true rfl⟩ ⟨Nat.le_of_ble_eq_true rfl, Nat.le_of_ble_eq_true rfl⟩ rfl rfl rfl (Nat.le_of_ble_eq_true rfl) dX11_addRule_63 rfl ?_
              refine rv_istore (q := 68) (lv' := [_, _, _, _, _]) E.1.x dX11_addRule_66 (Nat.le_of_ble_eq_true rfl) rfl rfl rfl ?_
              refine rv_iload (q := 70) E.1.x dX11_addRule_68 rfl rfl ?_
              refine rv_iconst (q := 71) E.1.x dX11_addRule_70 rv_kim1 rfl ?_
              refine rv_icmp_ne (q := 74) (tgt := 85) E.1.x dX11_addRule_71 (by decide) rfl ?_ ?_
              · exact rv_tr (fun _ => trivial)
              · refine rv_iload (q := 87) E.1.x dX11_addRule_85 rfl rfl ?_
                exact rC_xiret E rfl ⟨Nat.le_of_ble_eq_true rfl, Nat.le_of_ble_eq_true rfl⟩ dX11_addRule_87
          · exact rv_tr (fun _ => trivial)
        · exact rv_tr (fun _ => trivial)
      · exact rv_tr (fun _ => trivial)
  · exact rv_tr (fun _ => trivial)
theorem c11_addRule {l : Launch} {D : va_G} {cI cZ cO : ClassId} {ad : Nat → Nat} {gh : rC_gh} {de : Nat} (hfl : l.stackTraces = false) (hI : rC_I ad gh) {sz : Nat} {M : rv_Mem} {a1 : Int32} {a2 : Int32} {a3 : Int32} {r : Int32} {M1 : rv_Mem} (h : f11_addRule gh M a1 a2 a3 = some (.inl (r, M1))) : vx_Met l yX11_addRule (rv_ws yX11_addRule cX11_addRule 5 (some .int)) rm11_addRule (rC_Px D cI cZ cO ad gh de sz [.ref (ad 0), .int a1, .int a2, .int a3] M) (rC_qi D cI cZ cO ad gh de (rC_A ad gh sz) r M1) (rC_fx (rC_A ad gh sz)) 0 0 (rC_A ad gh sz) := rC_xmet (Qc := fun A => rC_qi D cI cZ cO ad gh de A r M1) (XC := fun A => rC_fx A) hfl hI rfl (by decide) (Nat.le_of_ble_eq_true rfl) (fun p e s m args below meth c E => ⟨(qx11_addRule D cI cZ cO ad gh de below args s), rfl, b11_addRule E M a1 a2 a3⟩) h
abbrev rmx11_addRule : Room := { frames := 6, cells := 1, slots := 6, locals := 101 }
def qy11_addRule (D : va_G) (cI cZ cO : ClassId) (ad : Nat → Nat) (gh : rC_gh) (de : Nat) (below : List Frame) (args : Array Value) (s : State) : (Int32 × rv_Mem) ⊕ (Nat × rv_Mem) → State → Prop := fun r => match r with
  | .inl _ => fun _ => True
  | .inr r => vx_MQ below (rC_fi (rC_A ad gh s.heap.size)) (rC_xc D cI cZ cO ad gh de (rC_A ad gh s.heap.size) r.1 r.2) args s 1 6 (rC_A ad gh s.heap.size)
set_option maxRecDepth 100000 in
theorem bx11_addRule {p : Program} {l : Launch} {e : Env} {s : State} {m : MethodId} {args : Array Value} {below : List Frame} {meth : Method} {c : Code} {D : va_G} {cI cZ cO : ClassId} {ad : Nat → Nat} {gh : rC_gh} {de : Nat} (E : rC_X D cI cZ cO ad gh RX11 cX11_addRule 5 (some .int) p l s m args meth c) (M : rv_Mem) (a1 : Int32) (a2 : Int32) (a3 : Int32) : rv_M (rC_G D cI cZ cO ad gh de) (rC_A ad gh s.heap.size) p l e rmx11_addRule s m args below meth c 0 0 (qy11_addRule D cI cZ cO ad gh de below args s) (f11_addRule gh M a1 a2 a3) 0 [some (.ref (ad 0)), some (.int a1), some (.int a2), some (.int a3), none] [] M := by
  unfold f11_addRule
  refine rv_iload_n (q := 1) E.1.x dX11_addRule_0 rfl rfl ?_
  refine rv_bipush (q := 3) E.1.x dX11_addRule_1 rv_kb8 rfl ?_
  refine rv_icmp_lt (q := 6) (tgt := 12) E.1.x dX11_addRule_3 (by decide) rfl ?_ ?_
  · refine rv_iload_n (q := 7) E.1.x dX11_addRule_6 rfl rfl ?_
    refine rv_bipush (q := 9) E.1.x dX11_addRule_7 rv_kb16 rfl ?_
    refine rv_icmp_lt (q := 12) (tgt := 23) E.1.x dX11_addRule_9 (by decide) rfl ?_ ?_
    · exact rC_throwW (x := 2) E rfl (by decide +kernel) rC_xk2 rC_xi2 rC_xg2 rC_xn2 rC_xo2 E.2.2.2.2.2.2.2.1 (is := 432) (text := "no rule can be for that") (by decide +kernel) rfl rfl dX11_addRule_12 dX11_addRule_15 dX11_addRule_16 dX11_addRule_19 dX11_addRule_22 (Nat.le_of_ble_eq_true rfl) (Nat.le_of_ble_eq_true rfl) ⟨Nat.le_of_ble_eq_true rfl, Nat.le_of_ble_eq_true rfl⟩ ⟨Nat.le_of_ble_eq_true rfl, Nat.le_of_ble_eq_true rfl⟩
    · refine rv_iload_n (q := 24) E.1.x dX11_addRule_23 rfl rfl ?_
      refine rv_if_lt (q := 27) (tgt := 45) E.1.x dX11_addRule_24 (by decide) rfl ?_ ?_
      · refine rv_iload_n (q := 28) E.1.x dX11_addRule_27 rfl rfl ?_
        refine rC_ldc_w (q := 31) E.1 (wkX11_434) dX11_addRule_28 rfl ?_
        refine rv_icmp_ge (q := 34) (tgt := 45) E.1.x dX11_addRule_31 (by decide) rfl ?_ ?_
        · refine rv_iload_n (q := 35) E.1.x dX11_addRule_34 rfl rfl ?_
          refine rv_if_lt (q := 38) (tgt := 45) E.1.x dX11_addRule_35 (by decide) rfl ?_ ?_
          · refine rv_iload_n (q := 39) E.1.x dX11_addRule_38 rfl rfl ?_
            refine rC_ldc_w (q := 42) E.1 (wkX11_434) dX11_addRule_39 rfl ?_
            refine rv_icmp_lt (q := 45) (tgt := 56) E.1.x dX11_addRule_42 (by decide) rfl ?_ ?_
            · exact rC_throwW (x := 2) E rfl (by decide +kernel) rC_xk2 rC_xi2 rC_xg2 rC_xn2 rC_xo2 E.2.2.2.2.2.2.2.1 (is := 435) (text := "no such statements") (by decide +kernel) rfl rfl dX11_addRule_45 dX11_addRule_48 dX11_addRule_49 dX11_addRule_52 dX11_addRule_55 (Nat.le_of_ble_eq_true rfl) (Nat.le_of_ble_eq_true rfl) ⟨Nat.le_of_ble_eq_true rfl, Nat.le_of_ble_eq_true rfl⟩ ⟨Nat.le_of_ble_eq_true rfl, Nat.le_of_ble_eq_true rfl⟩
            · refine rv_aload_n (q := 57) E.1.x dX11_addRule_56 rfl rfl ?_
              refine rC_getX11 (q := 60) E.1 0 3 wfX11_35 rfl (Nat.le_of_ble_eq_true rfl) ⟨rfl, rfl⟩ rfl dX11_addRule_57 rfl ?_
              refine rv_iload_n (q := 61) E.1.x dX11_addRule_60 rfl rfl ?_
              refine rv_iload_n (q := 62) E.1.x dX11_addRule_61 rfl rfl ?_
              refine rv_iload_n (q := 63) E.1.x dX11_addRule_62 rfl rfl ?_
              refine rv_b2 (fun r2 M3 e1 => ?_)
              refine rC_calliX8 (q := 66) E.1 ⟨rfl, rfl⟩ (c8_tryAdd E.1.2.2.1 e1) gX11_437 hX8_tryAdd ⟨rfl, rfl⟩ ⟨Nat.le_of_ble_eq_true rfl, Nat.le_of_ble_eq_true rfl⟩ ⟨Nat.le_of_ble_eq_true rfl, Nat.le_of_ble_eq_true rfl⟩ rfl rfl rfl (Nat.le_of_ble_eq_true rfl) dX11_addRule_63 rfl ?_
              refine rv_istore (q := 68) (lv' := [_, _, _, _, _]) E.1.x dX11_addRule_66 (Nat.le_of_ble_eq_true rfl) rfl rfl rfl ?_
              refine rv_iload (q := 70) E.1.x dX11_addRule_68 rfl rfl ?_
              refine rv_iconst (q := 71) E.1.x dX11_addRule_70 rv_kim1 rfl ?_
              refine rv_icmp_ne (q := 74) (tgt := 85) E.1.x dX11_addRule_71 (by decide) rfl ?_ ?_
              · exact rC_throwW (x := 3) E rfl (by decide +kernel) rC_xk3 rC_xi3 rC_xg3 rC_xn3 rC_xo3 E.2.2.2.2.2.2.2.2.1 (is := 440) (text := "the rule is refused") (by decide +kernel) rfl rfl dX11_addRule_74 dX11_addRule_77 dX11_addRule_78 dX11_addRule_81 dX11_addRule_84 (Nat.le_of_ble_eq_true rfl) (Nat.le_of_ble_eq_true rfl) ⟨Nat.le_of_ble_eq_true rfl, Nat.le_of_ble_eq_true rfl⟩ ⟨Nat.le_of_ble_eq_true rfl, Nat.le_of_ble_eq_true rfl⟩
              · refine rv_iload (q := 87) E.1.x dX11_addRule_85 rfl rfl ?_
                exact rv_tr (fun _ => trivial)
          · exact rC_throwW (x := 2) E rfl (by decide +kernel) rC_xk2 rC_xi2 rC_xg2 rC_xn2 rC_xo2 E.2.2.2.2.2.2.2.1 (is := 435) (text := "no such statements") (by decide +kernel) rfl rfl dX11_addRule_45 dX11_addRule_48 dX11_addRule_49 dX11_addRule_52 dX11_addRule_55 (Nat.le_of_ble_eq_true rfl) (Nat.le_of_ble_eq_true rfl) ⟨Nat.le_of_ble_eq_true rfl, Nat.le_of_ble_eq_true rfl⟩ ⟨Nat.le_of_ble_eq_true rfl, Nat.le_of_ble_eq_true rfl⟩
        · exact rC_throwW (x := 2) E rfl (by decide +kernel) rC_xk2 rC_xi2 rC_xg2 rC_xn2 rC_xo2 E.2.2.2.2.2.2.2.1 (is := 435) (text := "no such statements") (by decide +kernel) rfl rfl dX11_addRule_45 dX11_addRule_48 dX11_addRule_49 dX11_addRule_52 dX11_addRule_55 (Nat.le_of_ble_eq_true rfl) (Nat.le_of_ble_eq_true rfl) ⟨Nat.le_of_ble_eq_true rfl, Nat.le_of_ble_eq_true rfl⟩ ⟨Nat.le_of_ble_eq_true rfl, Nat.le_of_ble_eq_true rfl⟩
      · exact rC_throwW (x := 2) E rfl (by decide +kernel) rC_xk2 rC_xi2 rC_xg2 rC_xn2 rC_xo2 E.2.2.2.2.2.2.2.1 (is := 435) (text := "no such statements") (by decide +kernel) rfl rfl dX11_addRule_45 dX11_addRule_48 dX11_addRule_49 dX11_addRule_52 dX11_addRule_55 (Nat.le_of_ble_eq_true rfl) (Nat.le_of_ble_eq_true rfl) ⟨Nat.le_of_ble_eq_true rfl, Nat.le_of_ble_eq_true rfl⟩ ⟨Nat.le_of_ble_eq_true rfl, Nat.le_of_ble_eq_true rfl⟩
  · exact rC_throwW (x := 2) E rfl (by decide +kernel) rC_xk2 rC_xi2 rC_xg2 rC_xn2 rC_xo2 E.2.2.2.2.2.2.2.1 (is := 432) (text := "no rule can be for that") (by decide +kernel) rfl rfl dX11_addRule_12 dX11_addRule_15 dX11_addRule_16 dX11_addRule_19 dX11_addRule_22 (Nat.le_of_ble_eq_true rfl) (Nat.le_of_ble_eq_true rfl) ⟨Nat.le_of_ble_eq_true rfl, Nat.le_of_ble_eq_true rfl⟩ ⟨Nat.le_of_ble_eq_true rfl, Nat.le_of_ble_eq_true rfl⟩
theorem c11_addRule_x {l : Launch} {D : va_G} {cI cZ cO : ClassId} {ad : Nat → Nat} {gh : rC_gh} {de : Nat} (hfl : l.stackTraces = false) (hI : rC_I ad gh) {sz : Nat} {M : rv_Mem} {a1 : Int32} {a2 : Int32} {a3 : Int32} {x : Nat} {M1 : rv_Mem} (h : f11_addRule gh M a1 a2 a3 = some (.inr (x, M1))) : vx_Met l yX11_addRule (rv_ws yX11_addRule cX11_addRule 5 (some .int)) rmx11_addRule (rC_Px D cI cZ cO ad gh de sz [.ref (ad 0), .int a1, .int a2, .int a3] M) (rC_fi (rC_A ad gh sz)) (rC_xc D cI cZ cO ad gh de (rC_A ad gh sz) x M1) 1 6 (rC_A ad gh sz) := rC_xmet (Qc := fun A => rC_fi A) (XC := fun A => rC_xc D cI cZ cO ad gh de A x M1) hfl hI rfl (by decide) (Nat.le_of_ble_eq_true rfl) (fun p e s m args below meth c E => ⟨(qy11_addRule D cI cZ cO ad gh de below args s), rfl, bx11_addRule E M a1 a2 a3⟩) h
abbrev rm11_dropRule : Room := { frames := 6, cells := 0, slots := 0, locals := 100 }
def qx11_dropRule (D : va_G) (cI cZ cO : ClassId) (ad : Nat → Nat) (gh : rC_gh) (de : Nat) (below : List Frame) (args : Array Value) (s : State) : (Int32 × rv_Mem) ⊕ (Nat × rv_Mem) → State → Prop := fun r => match r with
  | .inl r => vx_MQ below (rC_qi D cI cZ cO ad gh de (rC_A ad gh s.heap.size) r.1 r.2) (rC_fx (rC_A ad gh s.heap.size)) args s 0 0 (rC_A ad gh s.heap.size)
  | .inr _ => fun _ => True
set_option maxRecDepth 100000 in
theorem b11_dropRule {p : Program} {l : Launch} {e : Env} {s : State} {m : MethodId} {args : Array Value} {below : List Frame} {meth : Method} {c : Code} {D : va_G} {cI cZ cO : ClassId} {ad : Nat → Nat} {gh : rC_gh} {de : Nat} (E : rC_X D cI cZ cO ad gh RX11 cX11_dropRule 3 (some .int) p l s m args meth c) (M : rv_Mem) (a1 : Int32) : rv_M (rC_G D cI cZ cO ad gh de) (rC_A ad gh s.heap.size) p l e rm11_dropRule s m args below meth c 0 0 (qx11_dropRule D cI cZ cO ad gh de below args s) (f11_dropRule gh M a1) 0 [some (.ref (ad 0)), some (.int a1), none] [] M := by
  unfold f11_dropRule
  refine rv_aload_n (q := 1) E.1.x dX11_dropRule_0 rfl rfl ?_
  refine rC_getX11 (q := 4) E.1 0 3 wfX11_35 rfl (Nat.le_of_ble_eq_true rfl) ⟨rfl, rfl⟩ rfl dX11_dropRule_1 rfl ?_
  refine rv_iload_n (q := 5) E.1.x dX11_dropRule_4 rfl rfl ?_
  refine rv_b2 (fun r2 M3 e1 => ?_)
  refine rC_calliX8 (q := 8) E.1 ⟨rfl, rfl⟩ (c8_tryDrop E.1.2.2.1 e1) gX11_442 hX8_tryDrop ⟨rfl, rfl⟩ ⟨Nat.le_of_ble_eq_true rfl, Nat.le_of_ble_eq_true rfl⟩ ⟨Nat.le_of_ble_eq_true rfl, Nat.le_of_ble_eq_true rfl⟩ rfl rfl rfl (Nat.le_of_ble_eq_true rfl) dX11_dropRule_5 rfl ?_
  refine rv_istore_n (q := 9) (lv' := [_, _, _]) E.1.x dX11_dropRule_8 (Nat.le_of_ble_eq_true rfl) rfl rfl rfl ?_
  refine rv_iload_n (q := 10) E.1.x dX11_dropRule_9 rfl rfl ?_
  refine rv_iconst (q := 11) E.1.x dX11_dropRule_10 rv_kim1 rfl ?_
  refine rv_icmp_ne (q := 14) (tgt := 25) E.1.x dX11_dropRule_11 (by decide) rfl ?_ ?_
  · exact rv_tr (fun _ => trivial)
  · refine rv_iload_n (q := 26) E.1.x dX11_dropRule_25 rfl rfl ?_
    exact rC_xiret E rfl ⟨Nat.le_of_ble_eq_true rfl, Nat.le_of_ble_eq_true rfl⟩ dX11_dropRule_26
theorem c11_dropRule {l : Launch} {D : va_G} {cI cZ cO : ClassId} {ad : Nat → Nat} {gh : rC_gh} {de : Nat} (hfl : l.stackTraces = false) (hI : rC_I ad gh) {sz : Nat} {M : rv_Mem} {a1 : Int32} {r : Int32} {M1 : rv_Mem} (h : f11_dropRule gh M a1 = some (.inl (r, M1))) : vx_Met l yX11_dropRule (rv_ws yX11_dropRule cX11_dropRule 3 (some .int)) rm11_dropRule (rC_Px D cI cZ cO ad gh de sz [.ref (ad 0), .int a1] M) (rC_qi D cI cZ cO ad gh de (rC_A ad gh sz) r M1) (rC_fx (rC_A ad gh sz)) 0 0 (rC_A ad gh sz) := rC_xmet (Qc := fun A => rC_qi D cI cZ cO ad gh de A r M1) (XC := fun A => rC_fx A) hfl hI rfl (by decide) (Nat.le_of_ble_eq_true rfl) (fun p e s m args below meth c E => ⟨(qx11_dropRule D cI cZ cO ad gh de below args s), rfl, b11_dropRule E M a1⟩) h
abbrev rmx11_dropRule : Room := { frames := 6, cells := 1, slots := 6, locals := 100 }
def qy11_dropRule (D : va_G) (cI cZ cO : ClassId) (ad : Nat → Nat) (gh : rC_gh) (de : Nat) (below : List Frame) (args : Array Value) (s : State) : (Int32 × rv_Mem) ⊕ (Nat × rv_Mem) → State → Prop := fun r => match r with
  | .inl _ => fun _ => True
  | .inr r => vx_MQ below (rC_fi (rC_A ad gh s.heap.size)) (rC_xc D cI cZ cO ad gh de (rC_A ad gh s.heap.size) r.1 r.2) args s 1 6 (rC_A ad gh s.heap.size)
set_option maxRecDepth 100000 in
theorem bx11_dropRule {p : Program} {l : Launch} {e : Env} {s : State} {m : MethodId} {args : Array Value} {below : List Frame} {meth : Method} {c : Code} {D : va_G} {cI cZ cO : ClassId} {ad : Nat → Nat} {gh : rC_gh} {de : Nat} (E : rC_X D cI cZ cO ad gh RX11 cX11_dropRule 3 (some .int) p l s m args meth c) (M : rv_Mem) (a1 : Int32) : rv_M (rC_G D cI cZ cO ad gh de) (rC_A ad gh s.heap.size) p l e rmx11_dropRule s m args below meth c 0 0 (qy11_dropRule D cI cZ cO ad gh de below args s) (f11_dropRule gh M a1) 0 [some (.ref (ad 0)), some (.int a1), none] [] M := by
  unfold f11_dropRule
  refine rv_aload_n (q := 1) E.1.x dX11_dropRule_0 rfl rfl ?_
  refine rC_getX11 (q := 4) E.1 0 3 wfX11_35 rfl (Nat.le_of_ble_eq_true rfl) ⟨rfl, rfl⟩ rfl dX11_dropRule_1 rfl ?_
  refine rv_iload_n (q := 5) E.1.x dX11_dropRule_4 rfl rfl ?_
  refine rv_b2 (fun r2 M3 e1 => ?_)
  refine rC_calliX8 (q := 8) E.1 ⟨rfl, rfl⟩ (c8_tryDrop E.1.2.2.1 e1) gX11_442 hX8_tryDrop ⟨rfl, rfl⟩ ⟨Nat.le_of_ble_eq_true rfl, Nat.le_of_ble_eq_true rfl⟩ ⟨Nat.le_of_ble_eq_true rfl, Nat.le_of_ble_eq_true rfl⟩ rfl rfl rfl (Nat.le_of_ble_eq_true rfl) dX11_dropRule_5 rfl ?_
  refine rv_istore_n (q := 9) (lv' := [_, _, _]) E.1.x dX11_dropRule_8 (Nat.le_of_ble_eq_true rfl) rfl rfl rfl ?_
  refine rv_iload_n (q := 10) E.1.x dX11_dropRule_9 rfl rfl ?_
  refine rv_iconst (q := 11) E.1.x dX11_dropRule_10 rv_kim1 rfl ?_
  refine rv_icmp_ne (q := 14) (tgt := 25) E.1.x dX11_dropRule_11 (by decide) rfl ?_ ?_
  · exact rC_throwW (x := 1) E rfl (by decide +kernel) rC_xk1 rC_xi1 rC_xg1 rC_xn1 rC_xo1 E.2.2.2.2.2.2.1 (is := 445) (text := "no such rule") (by decide +kernel) rfl rfl dX11_dropRule_14 dX11_dropRule_17 dX11_dropRule_18 dX11_dropRule_21 dX11_dropRule_24 (Nat.le_of_ble_eq_true rfl) (Nat.le_of_ble_eq_true rfl) ⟨Nat.le_of_ble_eq_true rfl, Nat.le_of_ble_eq_true rfl⟩ ⟨Nat.le_of_ble_eq_true rfl, Nat.le_of_ble_eq_true rfl⟩
  · refine rv_iload_n (q := 26) E.1.x dX11_dropRule_25 rfl rfl ?_
    exact rv_tr (fun _ => trivial)
theorem c11_dropRule_x {l : Launch} {D : va_G} {cI cZ cO : ClassId} {ad : Nat → Nat} {gh : rC_gh} {de : Nat} (hfl : l.stackTraces = false) (hI : rC_I ad gh) {sz : Nat} {M : rv_Mem} {a1 : Int32} {x : Nat} {M1 : rv_Mem} (h : f11_dropRule gh M a1 = some (.inr (x, M1))) : vx_Met l yX11_dropRule (rv_ws yX11_dropRule cX11_dropRule 3 (some .int)) rmx11_dropRule (rC_Px D cI cZ cO ad gh de sz [.ref (ad 0), .int a1] M) (rC_fi (rC_A ad gh sz)) (rC_xc D cI cZ cO ad gh de (rC_A ad gh sz) x M1) 1 6 (rC_A ad gh sz) := rC_xmet (Qc := fun A => rC_fi A) (XC := fun A => rC_xc D cI cZ cO ad gh de A x M1) hfl hI rfl (by decide) (Nat.le_of_ble_eq_true rfl) (fun p e s m args below meth c E => ⟨(qy11_dropRule D cI cZ cO ad gh de below args s), rfl, bx11_dropRule E M a1⟩) h
abbrev rm11_isParentSettled : Room := { frames := 5, cells := 0, slots := 0, locals := 123 }
set_option maxRecDepth 100000 in
theorem b11_isParentSettled_29 {p : Program} {l : Launch} {e : Env} {s : State} {m : MethodId} {args : Array Value} {below : List Frame} {meth : Method} {c : Code} {D : va_G} {cI cZ cO : ClassId} {ad : Nat → Nat} {gh : rC_gh} {de : Nat} (E : rC_E D cI cZ cO ad gh (rC_K ad gh) RX11 cX11_isParentSettled 4 (some .boolean) p s m args meth c) (M : rv_Mem)   : rv_M (rC_G D cI cZ cO ad gh de) (rC_K ad gh) p l e rm11_isParentSettled s m args below meth c 0 0 (rC_qZ D cI cZ cO ad gh de below args s M) (f11_isParentSettled_29 gh M) 29 [none, none, none, none] [] M := by
  unfold f11_isParentSettled_29
  refine rv_iconst (q := 30) E.x dX11_isParentSettled_29 rv_ki1 rfl ?_
  refine rv_goto (q := 34) E.x dX11_isParentSettled_30 (by decide) ?_
  exact rC_zret E true rfl dX11_isParentSettled_34
set_option maxRecDepth 100000 in
theorem b11_isParentSettled {p : Program} {l : Launch} {e : Env} {s : State} {m : MethodId} {args : Array Value} {below : List Frame} {meth : Method} {c : Code} {D : va_G} {cI cZ cO : ClassId} {ad : Nat → Nat} {gh : rC_gh} {de : Nat} (E : rC_E D cI cZ cO ad gh (rC_K ad gh) RX11 cX11_isParentSettled 4 (some .boolean) p s m args meth c) (M : rv_Mem) (a1 : Nat) (a2 : Int32) : rv_M (rC_G D cI cZ cO ad gh de) (rC_K ad gh) p l e rm11_isParentSettled s m args below meth c 0 0 (rC_qZ D cI cZ cO ad gh de below args s M) (f11_isParentSettled gh M a1 a2) 0 [some (.ref (ad 0)), some (.ref (ad a1)), some (.int a2), none] [] M := by
  unfold f11_isParentSettled
  refine rv_aload_n (q := 1) E.x dX11_isParentSettled_0 rfl rfl ?_
  refine rv_aload_n (q := 2) E.x dX11_isParentSettled_1 rfl rfl ?_
  refine rv_b1 (fun r2 e1 => ?_)
  refine rC_calloX11 (q := 5) E ⟨rfl, rfl⟩ (c11_findParent E.2.2.1 e1) gX11_521 hX11_findParent ⟨rfl, rfl⟩ ⟨Nat.le_of_ble_eq_true rfl, Nat.le_of_ble_eq_true rfl⟩ ⟨Nat.le_of_ble_eq_true rfl, Nat.le_of_ble_eq_true rfl⟩ rfl rfl rfl (Nat.le_of_ble_eq_true rfl) dX11_isParentSettled_2 rfl ?_
  refine rv_omr (fun e4 => ?_) (fun k3 e5 => ?_)
  · refine rv_astore_nN (q := 6) (lv' := [_, _, _, _]) E.x dX11_isParentSettled_5 (Nat.le_of_ble_eq_true rfl) rfl rfl rfl ?_
    refine rv_aload_nN (q := 7) E.x dX11_isParentSettled_6 rfl rfl ?_
    refine rv_ifnullN (q := 29) E.x dX11_isParentSettled_7 (by decide) ?_
    refine rv_wk [false, false, false, false] ?_
    exact b11_isParentSettled_29 E M
  · refine rv_astore_n (q := 6) (lv' := [_, _, _, _]) E.x dX11_isParentSettled_5 (Nat.le_of_ble_eq_true rfl) rfl rfl rfl ?_
    refine rv_aload_n (q := 7) E.x dX11_isParentSettled_6 rfl rfl ?_
    refine rv_ifnull (q := 10) E.x dX11_isParentSettled_7 rfl ?_
    refine rv_aload_n (q := 11) E.x dX11_isParentSettled_10 rfl rfl ?_
    refine rv_g (fun g6 => ?_)
    refine rC_getX0 (q := 14) E k3 5 wfX11_227 rfl (Nat.le_of_ble_eq_true rfl) (rC_at_of g6) rfl dX11_isParentSettled_11 rfl ?_
    refine rv_iconst (q := 15) E.x dX11_isParentSettled_14 rv_ki1 rfl ?_
    refine rv_icmp_eq (q := 18) (tgt := 29) E.x dX11_isParentSettled_15 (by decide) rfl ?_ ?_
    · refine rv_iload_n (q := 19) E.x dX11_isParentSettled_18 rfl rfl ?_
      refine rv_aload_n (q := 20) E.x dX11_isParentSettled_19 rfl rfl ?_
      refine rC_getX0 (q := 23) E k3 0 wfX11_180 rfl (Nat.le_of_ble_eq_true rfl) (rC_at_of g6) rfl dX11_isParentSettled_20 rfl ?_
      refine rv_b1 (fun r8 e7 => ?_)
      refine rC_calls (q := 26) E (c11_isIn e7) gX11_463 hX11_isIn ⟨rfl, rfl⟩ ⟨Nat.le_of_ble_eq_true rfl, Nat.le_of_ble_eq_true rfl⟩ ⟨Nat.le_of_ble_eq_true rfl, Nat.le_of_ble_eq_true rfl⟩ rfl rfl rfl (Nat.le_of_ble_eq_true rfl) dX11_isParentSettled_23 rfl ?_
      refine rv_ifz_eq (q := 29) (tgt := 33) E.x dX11_isParentSettled_26 (by decide) rfl ?_ ?_
      · refine rv_wk [false, false, false, false] ?_
        exact b11_isParentSettled_29 E M
      · refine rv_iconst (q := 34) E.x dX11_isParentSettled_33 rv_ki0 rfl ?_
        exact rC_zret E false rfl dX11_isParentSettled_34
    · refine rv_wk [false, false, false, false] ?_
      exact b11_isParentSettled_29 E M
theorem c11_isParentSettled {l : Launch} {D : va_G} {cI cZ cO : ClassId} {ad : Nat → Nat} {gh : rC_gh} {de : Nat} (hI : rC_I ad gh) {M : rv_Mem} {a1 : Nat} {a2 : Int32} {r : Bool} (h : f11_isParentSettled gh M a1 a2 = some r) : Met l yX11_isParentSettled (rv_ws yX11_isParentSettled cX11_isParentSettled 4 (some .boolean)) rm11_isParentSettled (rC_Pc D cI cZ cO ad gh de [.ref (ad 0), .ref (ad a1), .int a2] M) (rC_QI D cI cZ cO ad gh de (rv_i r) M) 0 0 (rC_K ad gh) := rC_met hI rfl (by decide) (Nat.le_of_ble_eq_true rfl) (fun p e s m args below meth c E => ⟨(rC_qZ D cI cZ cO ad gh de below args s M), rfl, b11_isParentSettled E M a1 a2⟩) h
abbrev rm11_factsOf : Room := { frames := 6, cells := 0, slots := 0, locals := 148 }
set_option maxRecDepth 100000 in
theorem b11_factsOf_220 {p : Program} {l : Launch} {e : Env} {s : State} {m : MethodId} {args : Array Value} {below : List Frame} {meth : Method} {c : Code} {D : va_G} {cI cZ cO : ClassId} {ad : Nat → Nat} {gh : rC_gh} {de : Nat} (E : rC_E D cI cZ cO ad gh (rC_K ad gh) RX11 cX11_factsOf 6 (some .int) p s m args meth c) (M : rv_Mem)   : ∀ (s0 : Int32) (s1 : Int32), rv_M (rC_G D cI cZ cO ad gh de) (rC_K ad gh) p l e rm11_factsOf s m args below meth c 0 0 (rC_qI D cI cZ cO ad gh de below args s M) (f11_factsOf_220 gh M s0 s1) 220 [none, none, none, none, none, none] [.int s1, .int s0] M := by
  intro s0 s1
  unfold f11_factsOf_220
  refine rv_ior (q := 221) E.x dX11_factsOf_220 rfl ?_
  refine rv_istore (q := 223) (lv' := [_, _, _, _, _, _]) E.x dX11_factsOf_221 (Nat.le_of_ble_eq_true rfl) rfl rfl rfl ?_
  refine rv_iload (q := 225) E.x dX11_factsOf_223 rfl rfl ?_
  exact rC_iret E rfl dX11_factsOf_225
set_option maxRecDepth 100000 in
theorem b11_factsOf_197 {p : Program} {l : Launch} {e : Env} {s : State} {m : MethodId} {args : Array Value} {below : List Frame} {meth : Method} {c : Code} {D : va_G} {cI cZ cO : ClassId} {ad : Nat → Nat} {gh : rC_gh} {de : Nat} (E : rC_E D cI cZ cO ad gh (rC_K ad gh) RX11 cX11_factsOf 6 (some .int) p s m args meth c) (M : rv_Mem)   : ∀ (x3 : Int32) (x4 : Int32) (s0 : Int32) (s1 : Int32), rv_M (rC_G D cI cZ cO ad gh de) (rC_K ad gh) p l e rm11_factsOf s m args below meth c 0 0 (rC_qI D cI cZ cO ad gh de below args s M) (f11_factsOf_197 gh M x3 x4 s0 s1) 197 [none, none, none, some (.int x3), some (.int x4), none] [.int s1, .int s0] M := by
  intro x3 x4 s0 s1
  unfold f11_factsOf_197
  refine rv_ior (q := 198) E.x dX11_factsOf_197 rfl ?_
  refine rv_istore (q := 200) (lv' := [_, _, _, _, _, _]) E.x dX11_factsOf_198 (Nat.le_of_ble_eq_true rfl) rfl rfl rfl ?_
  refine rv_iload (q := 202) E.x dX11_factsOf_200 rfl rfl ?_
  refine rv_iload_n (q := 203) E.x dX11_factsOf_202 rfl rfl ?_
  refine rv_iconst (q := 204) E.x dX11_factsOf_203 rv_ki1 rfl ?_
  refine rv_iload (q := 206) E.x dX11_factsOf_204 rfl rfl ?_
  refine rv_ishl (q := 207) E.x dX11_factsOf_206 rfl ?_
  refine rv_iconst (q := 208) E.x dX11_factsOf_207 rv_kim1 rfl ?_
  refine rv_ixor (q := 209) E.x dX11_factsOf_208 rfl ?_
  refine rv_iand (q := 210) E.x dX11_factsOf_209 rfl ?_
  refine rv_if_eq (q := 213) (tgt := 219) E.x dX11_factsOf_210 (by decide) rfl ?_ ?_
  · refine rv_sipush (q := 216) E.x dX11_factsOf_213 rv_ks128 rfl ?_
    refine rv_goto (q := 220) E.x dX11_factsOf_216 (by decide) ?_
    refine rv_wk [false, false, false, false, false, false] ?_
    exact b11_factsOf_220 E M (s0 ||| s1) 128
  · refine rv_iconst (q := 220) E.x dX11_factsOf_219 rv_ki0 rfl ?_
    refine rv_wk [false, false, false, false, false, false] ?_
    exact b11_factsOf_220 E M (s0 ||| s1) 0
set_option maxRecDepth 100000 in
theorem b11_factsOf_177 {p : Program} {l : Launch} {e : Env} {s : State} {m : MethodId} {args : Array Value} {below : List Frame} {meth : Method} {c : Code} {D : va_G} {cI cZ cO : ClassId} {ad : Nat → Nat} {gh : rC_gh} {de : Nat} (E : rC_E D cI cZ cO ad gh (rC_K ad gh) RX11 cX11_factsOf 6 (some .int) p s m args meth c) (M : rv_Mem)   : ∀ (x1 : Nat) (x2 : Int32) (x3 : Int32) (x4 : Int32) (s0 : Int32) (s1 : Int32), rv_M (rC_G D cI cZ cO ad gh de) (rC_K ad gh) p l e rm11_factsOf s m args below meth c 0 0 (rC_qI D cI cZ cO ad gh de below args s M) (f11_factsOf_177 gh M x1 x2 x3 x4 s0 s1) 177 [some (.ref (ad 0)), some (.ref (ad x1)), some (.int x2), some (.int x3), some (.int x4), none] [.int s1, .int s0] M := by
  intro x1 x2 x3 x4 s0 s1
  unfold f11_factsOf_177
  refine rv_ior (q := 178) E.x dX11_factsOf_177 rfl ?_
  refine rv_istore (q := 180) (lv' := [_, _, _, _, _, _]) E.x dX11_factsOf_178 (Nat.le_of_ble_eq_true rfl) rfl rfl rfl ?_
  refine rv_iload (q := 182) E.x dX11_factsOf_180 rfl rfl ?_
  refine rv_aload_n (q := 183) E.x dX11_factsOf_182 rfl rfl ?_
  refine rv_aload_n (q := 184) E.x dX11_factsOf_183 rfl rfl ?_
  refine rv_iload_n (q := 185) E.x dX11_factsOf_184 rfl rfl ?_
  refine rv_b1 (fun r2 e1 => ?_)
  refine rC_calliX11 (q := 188) E ⟨rfl, rfl⟩ (c11_isParentSettled E.2.2.1 e1) gX11_574 hX11_isParentSettled ⟨rfl, rfl⟩ ⟨Nat.le_of_ble_eq_true rfl, Nat.le_of_ble_eq_true rfl⟩ ⟨Nat.le_of_ble_eq_true rfl, Nat.le_of_ble_eq_true rfl⟩ rfl rfl rfl (Nat.le_of_ble_eq_true rfl) dX11_factsOf_185 rfl ?_
  refine rv_ifz_eq (q := 191) (tgt := 196) E.x dX11_factsOf_188 (by decide) rfl ?_ ?_
  · refine rv_bipush (q := 193) E.x dX11_factsOf_191 rv_kb64 rfl ?_
    refine rv_goto (q := 197) E.x dX11_factsOf_193 (by decide) ?_
    refine rv_wk [false, false, false, true, true, false] ?_
    exact b11_factsOf_197 E M x3 x4 (s0 ||| s1) 64
  · refine rv_iconst (q := 197) E.x dX11_factsOf_196 rv_ki0 rfl ?_
    refine rv_wk [false, false, false, true, true, false] ?_
    exact b11_factsOf_197 E M x3 x4 (s0 ||| s1) 0
set_option maxRecDepth 100000 in
theorem b11_factsOf_159 {p : Program} {l : Launch} {e : Env} {s : State} {m : MethodId} {args : Array Value} {below : List Frame} {meth : Method} {c : Code} {D : va_G} {cI cZ cO : ClassId} {ad : Nat → Nat} {gh : rC_gh} {de : Nat} (E : rC_E D cI cZ cO ad gh (rC_K ad gh) RX11 cX11_factsOf 6 (some .int) p s m args meth c) (M : rv_Mem)   : ∀ (x1 : Nat) (x2 : Int32) (x3 : Int32) (x4 : Int32) (s0 : Int32) (s1 : Int32), rv_M (rC_G D cI cZ cO ad gh de) (rC_K ad gh) p l e rm11_factsOf s m args below meth c 0 0 (rC_qI D cI cZ cO ad gh de below args s M) (f11_factsOf_159 gh M x1 x2 x3 x4 s0 s1) 159 [some (.ref (ad 0)), some (.ref (ad x1)), some (.int x2), some (.int x3), some (.int x4), none] [.int s1, .int s0] M := by
  intro x1 x2 x3 x4 s0 s1
  unfold f11_factsOf_159
  refine rv_ior (q := 160) E.x dX11_factsOf_159 rfl ?_
  refine rv_istore (q := 162) (lv' := [_, _, _, _, _, _]) E.x dX11_factsOf_160 (Nat.le_of_ble_eq_true rfl) rfl rfl rfl ?_
  refine rv_iload (q := 164) E.x dX11_factsOf_162 rfl rfl ?_
  refine rv_aload_n (q := 165) E.x dX11_factsOf_164 rfl rfl ?_
  refine rv_g (fun g1 => ?_)
  refine rC_getX0 (q := 168) E x1 7 wfX11_247 rfl (Nat.le_of_ble_eq_true rfl) (rC_at_of g1) rfl dX11_factsOf_165 rfl ?_
  refine rv_ifz_eq (q := 171) (tgt := 176) E.x dX11_factsOf_168 (by decide) rfl ?_ ?_
  · refine rv_bipush (q := 173) E.x dX11_factsOf_171 rv_kb32 rfl ?_
    refine rv_goto (q := 177) E.x dX11_factsOf_173 (by decide) ?_
    refine rv_wk [true, true, true, true, true, false] ?_
    exact b11_factsOf_177 E M x1 x2 x3 x4 (s0 ||| s1) 32
  · refine rv_iconst (q := 177) E.x dX11_factsOf_176 rv_ki0 rfl ?_
    refine rv_wk [true, true, true, true, true, false] ?_
    exact b11_factsOf_177 E M x1 x2 x3 x4 (s0 ||| s1) 0
set_option maxRecDepth 100000 in
theorem b11_factsOf_141 {p : Program} {l : Launch} {e : Env} {s : State} {m : MethodId} {args : Array Value} {below : List Frame} {meth : Method} {c : Code} {D : va_G} {cI cZ cO : ClassId} {ad : Nat → Nat} {gh : rC_gh} {de : Nat} (E : rC_E D cI cZ cO ad gh (rC_K ad gh) RX11 cX11_factsOf 6 (some .int) p s m args meth c) (M : rv_Mem)   : ∀ (x1 : Nat) (x2 : Int32) (x3 : Int32) (x4 : Int32) (s0 : Int32) (s1 : Int32), rv_M (rC_G D cI cZ cO ad gh de) (rC_K ad gh) p l e rm11_factsOf s m args below meth c 0 0 (rC_qI D cI cZ cO ad gh de below args s M) (f11_factsOf_141 gh M x1 x2 x3 x4 s0 s1) 141 [some (.ref (ad 0)), some (.ref (ad x1)), some (.int x2), some (.int x3), some (.int x4), none] [.int s1, .int s0] M := by
  intro x1 x2 x3 x4 s0 s1
  unfold f11_factsOf_141
  refine rv_ior (q := 142) E.x dX11_factsOf_141 rfl ?_
  refine rv_istore (q := 144) (lv' := [_, _, _, _, _, _]) E.x dX11_factsOf_142 (Nat.le_of_ble_eq_true rfl) rfl rfl rfl ?_
  refine rv_iload (q := 146) E.x dX11_factsOf_144 rfl rfl ?_
  refine rv_aload_n (q := 147) E.x dX11_factsOf_146 rfl rfl ?_
  refine rv_g (fun g1 => ?_)
  refine rC_getX0 (q := 150) E x1 6 wfX11_243 rfl (Nat.le_of_ble_eq_true rfl) (rC_at_of g1) rfl dX11_factsOf_147 rfl ?_
  refine rv_ifz_eq (q := 153) (tgt := 158) E.x dX11_factsOf_150 (by decide) rfl ?_ ?_
  · refine rv_bipush (q := 155) E.x dX11_factsOf_153 rv_kb16 rfl ?_
    refine rv_goto (q := 159) E.x dX11_factsOf_155 (by decide) ?_
    refine rv_wk [true, true, true, true, true, false] ?_
    exact b11_factsOf_159 E M x1 x2 x3 x4 (s0 ||| s1) 16
  · refine rv_iconst (q := 159) E.x dX11_factsOf_158 rv_ki0 rfl ?_
    refine rv_wk [true, true, true, true, true, false] ?_
    exact b11_factsOf_159 E M x1 x2 x3 x4 (s0 ||| s1) 0
set_option maxRecDepth 100000 in
theorem b11_factsOf_119 {p : Program} {l : Launch} {e : Env} {s : State} {m : MethodId} {args : Array Value} {below : List Frame} {meth : Method} {c : Code} {D : va_G} {cI cZ cO : ClassId} {ad : Nat → Nat} {gh : rC_gh} {de : Nat} (E : rC_E D cI cZ cO ad gh (rC_K ad gh) RX11 cX11_factsOf 6 (some .int) p s m args meth c) (M : rv_Mem)   : ∀ (x1 : Nat) (x2 : Int32) (x3 : Int32) (x4 : Int32) (s0 : Int32) (s1 : Int32), rv_M (rC_G D cI cZ cO ad gh de) (rC_K ad gh) p l e rm11_factsOf s m args below meth c 0 0 (rC_qI D cI cZ cO ad gh de below args s M) (f11_factsOf_119 gh M x1 x2 x3 x4 s0 s1) 119 [some (.ref (ad 0)), some (.ref (ad x1)), some (.int x2), some (.int x3), some (.int x4), none] [.int s1, .int s0] M := by
  intro x1 x2 x3 x4 s0 s1
  unfold f11_factsOf_119
  refine rv_ior (q := 120) E.x dX11_factsOf_119 rfl ?_
  refine rv_istore (q := 122) (lv' := [_, _, _, _, _, _]) E.x dX11_factsOf_120 (Nat.le_of_ble_eq_true rfl) rfl rfl rfl ?_
  refine rv_iload (q := 124) E.x dX11_factsOf_122 rfl rfl ?_
  refine rv_aload_n (q := 125) E.x dX11_factsOf_124 rfl rfl ?_
  refine rv_aload_n (q := 126) E.x dX11_factsOf_125 rfl rfl ?_
  refine rv_g (fun g1 => ?_)
  refine rC_getX0 (q := 129) E x1 0 wfX11_180 rfl (Nat.le_of_ble_eq_true rfl) (rC_at_of g1) rfl dX11_factsOf_126 rfl ?_
  refine rv_b1 (fun r3 e2 => ?_)
  refine rC_calliX11 (q := 132) E ⟨rfl, rfl⟩ (c11_countUnresolved E.2.2.1 e2) gX11_356 hX11_countUnresolved ⟨rfl, rfl⟩ ⟨Nat.le_of_ble_eq_true rfl, Nat.le_of_ble_eq_true rfl⟩ ⟨Nat.le_of_ble_eq_true rfl, Nat.le_of_ble_eq_true rfl⟩ rfl rfl rfl (Nat.le_of_ble_eq_true rfl) dX11_factsOf_129 rfl ?_
  refine rv_if_ne (q := 135) (tgt := 140) E.x dX11_factsOf_132 (by decide) rfl ?_ ?_
  · refine rv_bipush (q := 137) E.x dX11_factsOf_135 rv_kb8 rfl ?_
    refine rv_goto (q := 141) E.x dX11_factsOf_137 (by decide) ?_
    refine rv_wk [true, true, true, true, true, false] ?_
    exact b11_factsOf_141 E M x1 x2 x3 x4 (s0 ||| s1) 8
  · refine rv_iconst (q := 141) E.x dX11_factsOf_140 rv_ki0 rfl ?_
    refine rv_wk [true, true, true, true, true, false] ?_
    exact b11_factsOf_141 E M x1 x2 x3 x4 (s0 ||| s1) 0
set_option maxRecDepth 100000 in
theorem b11_factsOf_118 {p : Program} {l : Launch} {e : Env} {s : State} {m : MethodId} {args : Array Value} {below : List Frame} {meth : Method} {c : Code} {D : va_G} {cI cZ cO : ClassId} {ad : Nat → Nat} {gh : rC_gh} {de : Nat} (E : rC_E D cI cZ cO ad gh (rC_K ad gh) RX11 cX11_factsOf 6 (some .int) p s m args meth c) (M : rv_Mem)   : ∀ (x1 : Nat) (x2 : Int32) (x3 : Int32) (x4 : Int32) (s0 : Int32), rv_M (rC_G D cI cZ cO ad gh de) (rC_K ad gh) p l e rm11_factsOf s m args below meth c 0 0 (rC_qI D cI cZ cO ad gh de below args s M) (f11_factsOf_118 gh M x1 x2 x3 x4 s0) 118 [some (.ref (ad 0)), some (.ref (ad x1)), some (.int x2), some (.int x3), some (.int x4), none] [.int s0] M := by
  intro x1 x2 x3 x4 s0
  unfold f11_factsOf_118
  refine rv_iconst (q := 119) E.x dX11_factsOf_118 rv_ki0 rfl ?_
  refine rv_wk [true, true, true, true, true, false] ?_
  exact b11_factsOf_119 E M x1 x2 x3 x4 s0 0
set_option maxRecDepth 100000 in
theorem b11_factsOf_83 {p : Program} {l : Launch} {e : Env} {s : State} {m : MethodId} {args : Array Value} {below : List Frame} {meth : Method} {c : Code} {D : va_G} {cI cZ cO : ClassId} {ad : Nat → Nat} {gh : rC_gh} {de : Nat} (E : rC_E D cI cZ cO ad gh (rC_K ad gh) RX11 cX11_factsOf 6 (some .int) p s m args meth c) (M : rv_Mem)   : ∀ (x1 : Nat) (x2 : Int32) (x3 : Int32) (x4 : Int32) (s0 : Int32) (s1 : Int32), rv_M (rC_G D cI cZ cO ad gh de) (rC_K ad gh) p l e rm11_factsOf s m args below meth c 0 0 (rC_qI D cI cZ cO ad gh de below args s M) (f11_factsOf_83 gh M x1 x2 x3 x4 s0 s1) 83 [some (.ref (ad 0)), some (.ref (ad x1)), some (.int x2), some (.int x3), some (.int x4), none] [.int s1, .int s0] M := by
  intro x1 x2 x3 x4 s0 s1
  unfold f11_factsOf_83
  refine rv_ior (q := 84) E.x dX11_factsOf_83 rfl ?_
  refine rv_istore (q := 86) (lv' := [_, _, _, _, _, _]) E.x dX11_factsOf_84 (Nat.le_of_ble_eq_true rfl) rfl rfl rfl ?_
  refine rv_iload (q := 88) E.x dX11_factsOf_86 rfl rfl ?_
  refine rv_aload_n (q := 89) E.x dX11_factsOf_88 rfl rfl ?_
  refine rC_getX11 (q := 92) E 0 2 wfX11_28 rfl (Nat.le_of_ble_eq_true rfl) ⟨rfl, rfl⟩ rfl dX11_factsOf_89 rfl ?_
  refine rv_aload_n (q := 93) E.x dX11_factsOf_92 rfl rfl ?_
  refine rv_iconst (q := 94) E.x dX11_factsOf_93 rv_ki1 rfl ?_
  refine rv_iconst (q := 95) E.x dX11_factsOf_94 rv_ki1 rfl ?_
  refine rv_b1 (fun r2 e1 => ?_)
  refine rC_calliX10 (q := 98) E ⟨rfl, rfl⟩ (c10_peopleWith E.2.2.1 e1) gX11_528 hX10_peopleWith ⟨rfl, rfl⟩ ⟨Nat.le_of_ble_eq_true rfl, Nat.le_of_ble_eq_true rfl⟩ ⟨Nat.le_of_ble_eq_true rfl, Nat.le_of_ble_eq_true rfl⟩ rfl rfl rfl (Nat.le_of_ble_eq_true rfl) dX11_factsOf_95 rfl ?_
  refine rv_if_eq (q := 101) (tgt := 118) E.x dX11_factsOf_98 (by decide) rfl ?_ ?_
  · refine rv_aload_n (q := 102) E.x dX11_factsOf_101 rfl rfl ?_
    refine rC_getX11 (q := 105) E 0 2 wfX11_28 rfl (Nat.le_of_ble_eq_true rfl) ⟨rfl, rfl⟩ rfl dX11_factsOf_102 rfl ?_
    refine rv_aload_n (q := 106) E.x dX11_factsOf_105 rfl rfl ?_
    refine rv_iconst (q := 107) E.x dX11_factsOf_106 rv_ki1 rfl ?_
    refine rv_iconst (q := 108) E.x dX11_factsOf_107 rv_kim1 rfl ?_
    refine rv_b1 (fun r4 e3 => ?_)
    refine rC_calliX10 (q := 111) E ⟨rfl, rfl⟩ (c10_peopleWith E.2.2.1 e3) gX11_528 hX10_peopleWith ⟨rfl, rfl⟩ ⟨Nat.le_of_ble_eq_true rfl, Nat.le_of_ble_eq_true rfl⟩ ⟨Nat.le_of_ble_eq_true rfl, Nat.le_of_ble_eq_true rfl⟩ rfl rfl rfl (Nat.le_of_ble_eq_true rfl) dX11_factsOf_108 rfl ?_
    refine rv_if_ne (q := 114) (tgt := 118) E.x dX11_factsOf_111 (by decide) rfl ?_ ?_
    · refine rv_iconst (q := 115) E.x dX11_factsOf_114 rv_ki4 rfl ?_
      refine rv_goto (q := 119) E.x dX11_factsOf_115 (by decide) ?_
      refine rv_wk [true, true, true, true, true, false] ?_
      exact b11_factsOf_119 E M x1 x2 x3 x4 (s0 ||| s1) 4
    · refine rv_wk [true, true, true, true, true, false] ?_
      exact b11_factsOf_118 E M x1 x2 x3 x4 (s0 ||| s1)
  · refine rv_wk [true, true, true, true, true, false] ?_
    exact b11_factsOf_118 E M x1 x2 x3 x4 (s0 ||| s1)
set_option maxRecDepth 100000 in
theorem b11_factsOf_59 {p : Program} {l : Launch} {e : Env} {s : State} {m : MethodId} {args : Array Value} {below : List Frame} {meth : Method} {c : Code} {D : va_G} {cI cZ cO : ClassId} {ad : Nat → Nat} {gh : rC_gh} {de : Nat} (E : rC_E D cI cZ cO ad gh (rC_K ad gh) RX11 cX11_factsOf 6 (some .int) p s m args meth c) (M : rv_Mem)   : ∀ (x1 : Nat) (x2 : Int32) (x3 : Int32) (x4 : Int32) (s1 : Bool), rv_M (rC_G D cI cZ cO ad gh de) (rC_K ad gh) p l e rm11_factsOf s m args below meth c 0 0 (rC_qI D cI cZ cO ad gh de below args s M) (f11_factsOf_59 gh M x1 x2 x3 x4 s1) 59 [some (.ref (ad 0)), some (.ref (ad x1)), some (.int x2), some (.int x3), some (.int x4), none] [.int (rv_i s1), .int 0] M := by
  intro x1 x2 x3 x4 s1
  unfold f11_factsOf_59
  refine rv_ior (q := 60) E.x dX11_factsOf_59 rfl ?_
  refine rv_istore (q := 62) (lv' := [_, _, _, _, _, _]) E.x dX11_factsOf_60 (Nat.le_of_ble_eq_true rfl) rfl rfl rfl ?_
  refine rv_iload (q := 64) E.x dX11_factsOf_62 rfl rfl ?_
  refine rv_aload_n (q := 65) E.x dX11_factsOf_64 rfl rfl ?_
  refine rC_getX11 (q := 68) E 0 2 wfX11_28 rfl (Nat.le_of_ble_eq_true rfl) ⟨rfl, rfl⟩ rfl dX11_factsOf_65 rfl ?_
  refine rv_aload_n (q := 69) E.x dX11_factsOf_68 rfl rfl ?_
  refine rv_iconst (q := 70) E.x dX11_factsOf_69 rv_ki0 rfl ?_
  refine rv_bipush (q := 72) E.x dX11_factsOf_70 rv_kbm2 rfl ?_
  refine rv_b1 (fun r2 e1 => ?_)
  refine rC_calliX10 (q := 75) E ⟨rfl, rfl⟩ (c10_peopleWith E.2.2.1 e1) gX11_528 hX10_peopleWith ⟨rfl, rfl⟩ ⟨Nat.le_of_ble_eq_true rfl, Nat.le_of_ble_eq_true rfl⟩ ⟨Nat.le_of_ble_eq_true rfl, Nat.le_of_ble_eq_true rfl⟩ rfl rfl rfl (Nat.le_of_ble_eq_true rfl) dX11_factsOf_72 rfl ?_
  refine rv_if_ne (q := 78) (tgt := 82) E.x dX11_factsOf_75 (by decide) rfl ?_ ?_
  · refine rv_iconst (q := 79) E.x dX11_factsOf_78 rv_ki2 rfl ?_
    refine rv_goto (q := 83) E.x dX11_factsOf_79 (by decide) ?_
    refine rv_wk [true, true, true, true, true, false] ?_
    exact b11_factsOf_83 E M x1 x2 x3 x4 (0 ||| (rv_i s1)) 2
  · refine rv_iconst (q := 83) E.x dX11_factsOf_82 rv_ki0 rfl ?_
    refine rv_wk [true, true, true, true, true, false] ?_
    exact b11_factsOf_83 E M x1 x2 x3 x4 (0 ||| (rv_i s1)) 0
set_option maxRecDepth 100000 in
theorem b11_factsOf {p : Program} {l : Launch} {e : Env} {s : State} {m : MethodId} {args : Array Value} {below : List Frame} {meth : Method} {c : Code} {D : va_G} {cI cZ cO : ClassId} {ad : Nat → Nat} {gh : rC_gh} {de : Nat} (E : rC_E D cI cZ cO ad gh (rC_K ad gh) RX11 cX11_factsOf 6 (some .int) p s m args meth c) (M : rv_Mem) (a1 : Nat) (a2 : Int32) : rv_M (rC_G D cI cZ cO ad gh de) (rC_K ad gh) p l e rm11_factsOf s m args below meth c 0 0 (rC_qI D cI cZ cO ad gh de below args s M) (f11_factsOf gh M a1 a2) 0 [some (.ref (ad 0)), some (.ref (ad a1)), some (.int a2), none, none, none] [] M := by
  unfold f11_factsOf
  refine rv_aload_n (q := 1) E.x dX11_factsOf_0 rfl rfl ?_
  refine rC_getX11 (q := 4) E 0 2 wfX11_28 rfl (Nat.le_of_ble_eq_true rfl) ⟨rfl, rfl⟩ rfl dX11_factsOf_1 rfl ?_
  refine rv_aload_n (q := 5) E.x dX11_factsOf_4 rfl rfl ?_
  refine rv_iconst (q := 6) E.x dX11_factsOf_5 rv_ki0 rfl ?_
  refine rv_iconst (q := 7) E.x dX11_factsOf_6 rv_ki2 rfl ?_
  refine rv_b1 (fun r2 e1 => ?_)
  refine rC_calliX10 (q := 10) E ⟨rfl, rfl⟩ (c10_peopleWith E.2.2.1 e1) gX11_528 hX10_peopleWith ⟨rfl, rfl⟩ ⟨Nat.le_of_ble_eq_true rfl, Nat.le_of_ble_eq_true rfl⟩ ⟨Nat.le_of_ble_eq_true rfl, Nat.le_of_ble_eq_true rfl⟩ rfl rfl rfl (Nat.le_of_ble_eq_true rfl) dX11_factsOf_7 rfl ?_
  refine rv_istore_n (q := 11) (lv' := [_, _, _, _, _, _]) E.x dX11_factsOf_10 (Nat.le_of_ble_eq_true rfl) rfl rfl rfl ?_
  refine rv_aload_n (q := 12) E.x dX11_factsOf_11 rfl rfl ?_
  refine rC_getX11 (q := 15) E 0 0 wfX11_10 rfl (Nat.le_of_ble_eq_true rfl) ⟨rfl, rfl⟩ rfl dX11_factsOf_12 rfl ?_
  refine rv_aload_n (q := 16) E.x dX11_factsOf_15 rfl rfl ?_
  refine rC_getX11 (q := 19) E 0 0 wfX11_10 rfl (Nat.le_of_ble_eq_true rfl) ⟨rfl, rfl⟩ rfl dX11_factsOf_16 rfl ?_
  refine rv_aload_n (q := 20) E.x dX11_factsOf_19 rfl rfl ?_
  refine rv_g (fun g3 => ?_)
  refine rC_getX0 (q := 23) E a1 0 wfX11_180 rfl (Nat.le_of_ble_eq_true rfl) (rC_at_of g3) rfl dX11_factsOf_20 rfl ?_
  refine rv_b1 (fun r5 e4 => ?_)
  refine rC_calliX9 (q := 26) E ⟨rfl, rfl⟩ (c9_currentOf E.2.2.1 e4) gX11_204 hX9_currentOf ⟨rfl, rfl⟩ ⟨Nat.le_of_ble_eq_true rfl, Nat.le_of_ble_eq_true rfl⟩ ⟨Nat.le_of_ble_eq_true rfl, Nat.le_of_ble_eq_true rfl⟩ rfl rfl rfl (Nat.le_of_ble_eq_true rfl) dX11_factsOf_23 rfl ?_
  refine rv_b1 (fun r7 e6 => ?_)
  refine rC_calliX9 (q := 29) E ⟨rfl, rfl⟩ (c9_uploaderOf E.2.2.1 e6) gX11_571 hX9_uploaderOf ⟨rfl, rfl⟩ ⟨Nat.le_of_ble_eq_true rfl, Nat.le_of_ble_eq_true rfl⟩ ⟨Nat.le_of_ble_eq_true rfl, Nat.le_of_ble_eq_true rfl⟩ rfl rfl rfl (Nat.le_of_ble_eq_true rfl) dX11_factsOf_26 rfl ?_
  refine rv_istore (q := 31) (lv' := [_, _, _, _, _, _]) E.x dX11_factsOf_29 (Nat.le_of_ble_eq_true rfl) rfl rfl rfl ?_
  refine rv_iconst (q := 32) E.x dX11_factsOf_31 rv_ki0 rfl ?_
  refine rv_istore (q := 34) (lv' := [_, _, _, _, _, _]) E.x dX11_factsOf_32 (Nat.le_of_ble_eq_true rfl) rfl rfl rfl ?_
  refine rv_iload (q := 36) E.x dX11_factsOf_34 rfl rfl ?_
  refine rv_aload_n (q := 37) E.x dX11_factsOf_36 rfl rfl ?_
  refine rv_aload_n (q := 38) E.x dX11_factsOf_37 rfl rfl ?_
  refine rv_iload_n (q := 39) E.x dX11_factsOf_38 rfl rfl ?_
  refine rv_iconst (q := 40) E.x dX11_factsOf_39 rv_ki1 rfl ?_
  refine rv_aload_n (q := 41) E.x dX11_factsOf_40 rfl rfl ?_
  refine rC_getX0 (q := 44) E a1 1 wfX11_473 rfl (Nat.le_of_ble_eq_true rfl) (rC_at_of g3) rfl dX11_factsOf_41 rfl ?_
  refine rv_ishl (q := 45) E.x dX11_factsOf_44 rfl ?_
  refine rv_iconst (q := 46) E.x dX11_factsOf_45 rv_kim1 rfl ?_
  refine rv_ixor (q := 47) E.x dX11_factsOf_46 rfl ?_
  refine rv_iand (q := 48) E.x dX11_factsOf_47 rfl ?_
  refine rv_b1 (fun r9 e8 => ?_)
  refine rC_calliX11 (q := 51) E ⟨rfl, rfl⟩ (c11_isOwnedBy E.2.2.1 e8) gX11_409 hX11_isOwnedBy ⟨rfl, rfl⟩ ⟨Nat.le_of_ble_eq_true rfl, Nat.le_of_ble_eq_true rfl⟩ ⟨Nat.le_of_ble_eq_true rfl, Nat.le_of_ble_eq_true rfl⟩ rfl rfl rfl (Nat.le_of_ble_eq_true rfl) dX11_factsOf_48 rfl ?_
  refine rv_ifz_eq (q := 54) (tgt := 58) E.x dX11_factsOf_51 (by decide) rfl ?_ ?_
  · refine rv_iconst (q := 55) E.x dX11_factsOf_54 rv_ki1 rfl ?_
    refine rv_goto (q := 59) E.x dX11_factsOf_55 (by decide) ?_
    refine rv_wk [true, true, true, true, true, false] ?_
    exact b11_factsOf_59 E M a1 a2 r2 r7 true
  · refine rv_iconst (q := 59) E.x dX11_factsOf_58 rv_ki0 rfl ?_
    refine rv_wk [true, true, true, true, true, false] ?_
    exact b11_factsOf_59 E M a1 a2 r2 r7 false
theorem c11_factsOf {l : Launch} {D : va_G} {cI cZ cO : ClassId} {ad : Nat → Nat} {gh : rC_gh} {de : Nat} (hI : rC_I ad gh) {M : rv_Mem} {a1 : Nat} {a2 : Int32} {r : Int32} (h : f11_factsOf gh M a1 a2 = some r) : Met l yX11_factsOf (rv_ws yX11_factsOf cX11_factsOf 6 (some .int)) rm11_factsOf (rC_Pc D cI cZ cO ad gh de [.ref (ad 0), .ref (ad a1), .int a2] M) (rC_QI D cI cZ cO ad gh de r M) 0 0 (rC_K ad gh) := rC_met hI rfl (by decide) (Nat.le_of_ble_eq_true rfl) (fun p e s m args below meth c E => ⟨(rC_qI D cI cZ cO ad gh de below args s M), rfl, b11_factsOf E M a1 a2⟩) h
abbrev rm11_statements : Room := { frames := 7, cells := 0, slots := 0, locals := 173 }
def qx11_statements (D : va_G) (cI cZ cO : ClassId) (ad : Nat → Nat) (gh : rC_gh) (de : Nat) (below : List Frame) (args : Array Value) (s : State) (M : rv_Mem) : Int32 ⊕ Nat → State → Prop := fun r => match r with
  | .inl r => vx_MQ below (rC_qi D cI cZ cO ad gh de (rC_A ad gh s.heap.size) r M) (rC_fx (rC_A ad gh s.heap.size)) args s 0 0 (rC_A ad gh s.heap.size)
  | .inr _ => fun _ => True
set_option maxRecDepth 100000 in
theorem b11_statements {p : Program} {l : Launch} {e : Env} {s : State} {m : MethodId} {args : Array Value} {below : List Frame} {meth : Method} {c : Code} {D : va_G} {cI cZ cO : ClassId} {ad : Nat → Nat} {gh : rC_gh} {de : Nat} (E : rC_X D cI cZ cO ad gh RX11 cX11_statements 2 (some .int) p l s m args meth c) (M : rv_Mem) (a1 : Int32) : rv_M (rC_G D cI cZ cO ad gh de) (rC_A ad gh s.heap.size) p l e rm11_statements s m args below meth c 0 0 (qx11_statements D cI cZ cO ad gh de below args s M) (f11_statements gh M a1) 0 [some (.ref (ad 0)), some (.int a1)] [] M := by
  unfold f11_statements
  refine rv_aload_n (q := 1) E.1.x dX11_statements_0 rfl rfl ?_
  refine rC_getX11 (q := 4) E.1 0 3 wfX11_35 rfl (Nat.le_of_ble_eq_true rfl) ⟨rfl, rfl⟩ rfl dX11_statements_1 rfl ?_
  refine rv_aload_n (q := 5) E.1.x dX11_statements_4 rfl rfl ?_
  refine rv_aload_n (q := 6) E.1.x dX11_statements_5 rfl rfl ?_
  refine rv_iload_n (q := 7) E.1.x dX11_statements_6 rfl rfl ?_
  refine rv_x1r (fun r2 e1 => ?_) (fun w3 e4 => rv_tr (fun _ => trivial))
  refine rC_xVrX11 (q := 10) E ⟨rfl, rfl⟩ (fun _ => c11_needChange E.2.1 E.1.2.2.1 e1) gX11_91 hX11_needChange ⟨rfl, rfl⟩ ⟨Nat.le_of_ble_eq_true rfl, Nat.le_of_ble_eq_true rfl⟩ ⟨Nat.le_of_ble_eq_true rfl, Nat.le_of_ble_eq_true rfl⟩ rfl rfl rfl (Nat.le_of_ble_eq_true rfl) dX11_statements_7 rfl ?_
  refine rv_iconst (q := 11) E.1.x dX11_statements_10 rv_ki0 rfl ?_
  refine rv_b1 (fun r6 e5 => ?_)
  refine rC_calliX11 (q := 14) E.1 ⟨rfl, rfl⟩ (c11_factsOf E.1.2.2.1 e5) gX11_447 hX11_factsOf ⟨rfl, rfl⟩ ⟨Nat.le_of_ble_eq_true rfl, Nat.le_of_ble_eq_true rfl⟩ ⟨Nat.le_of_ble_eq_true rfl, Nat.le_of_ble_eq_true rfl⟩ rfl rfl rfl (Nat.le_of_ble_eq_true rfl) dX11_statements_11 rfl ?_
  refine rv_b1 (fun r8 e7 => ?_)
  refine rC_calliX8 (q := 17) E.1 ⟨rfl, rfl⟩ (c8_follow E.1.2.2.1 e7) gX11_450 hX8_follow ⟨rfl, rfl⟩ ⟨Nat.le_of_ble_eq_true rfl, Nat.le_of_ble_eq_true rfl⟩ ⟨Nat.le_of_ble_eq_true rfl, Nat.le_of_ble_eq_true rfl⟩ rfl rfl rfl (Nat.le_of_ble_eq_true rfl) dX11_statements_14 rfl ?_
  exact rC_xiret E rfl ⟨Nat.le_of_ble_eq_true rfl, Nat.le_of_ble_eq_true rfl⟩ dX11_statements_17
theorem c11_statements {l : Launch} {D : va_G} {cI cZ cO : ClassId} {ad : Nat → Nat} {gh : rC_gh} {de : Nat} (hfl : l.stackTraces = false) (hI : rC_I ad gh) {sz : Nat} {M : rv_Mem} {a1 : Int32} {r : Int32} (h : f11_statements gh M a1 = some (.inl r)) : vx_Met l yX11_statements (rv_ws yX11_statements cX11_statements 2 (some .int)) rm11_statements (rC_Px D cI cZ cO ad gh de sz [.ref (ad 0), .int a1] M) (rC_qi D cI cZ cO ad gh de (rC_A ad gh sz) r M) (rC_fx (rC_A ad gh sz)) 0 0 (rC_A ad gh sz) := rC_xmet (Qc := fun A => rC_qi D cI cZ cO ad gh de A r M) (XC := fun A => rC_fx A) hfl hI rfl (by decide) (Nat.le_of_ble_eq_true rfl) (fun p e s m args below meth c E => ⟨(qx11_statements D cI cZ cO ad gh de below args s M), rfl, b11_statements E M a1⟩) h
abbrev rmx11_statements : Room := { frames := 7, cells := 1, slots := 6, locals := 173 }
def qy11_statements (D : va_G) (cI cZ cO : ClassId) (ad : Nat → Nat) (gh : rC_gh) (de : Nat) (below : List Frame) (args : Array Value) (s : State) (M : rv_Mem) : Int32 ⊕ Nat → State → Prop := fun r => match r with
  | .inl _ => fun _ => True
  | .inr r => vx_MQ below (rC_fi (rC_A ad gh s.heap.size)) (rC_xc D cI cZ cO ad gh de (rC_A ad gh s.heap.size) r M) args s 1 6 (rC_A ad gh s.heap.size)
set_option maxRecDepth 100000 in
theorem bx11_statements {p : Program} {l : Launch} {e : Env} {s : State} {m : MethodId} {args : Array Value} {below : List Frame} {meth : Method} {c : Code} {D : va_G} {cI cZ cO : ClassId} {ad : Nat → Nat} {gh : rC_gh} {de : Nat} (E : rC_X D cI cZ cO ad gh RX11 cX11_statements 2 (some .int) p l s m args meth c) (M : rv_Mem) (a1 : Int32) : rv_M (rC_G D cI cZ cO ad gh de) (rC_A ad gh s.heap.size) p l e rmx11_statements s m args below meth c 0 0 (qy11_statements D cI cZ cO ad gh de below args s M) (f11_statements gh M a1) 0 [some (.ref (ad 0)), some (.int a1)] [] M := by
  unfold f11_statements
  refine rv_aload_n (q := 1) E.1.x dX11_statements_0 rfl rfl ?_
  refine rC_getX11 (q := 4) E.1 0 3 wfX11_35 rfl (Nat.le_of_ble_eq_true rfl) ⟨rfl, rfl⟩ rfl dX11_statements_1 rfl ?_
  refine rv_aload_n (q := 5) E.1.x dX11_statements_4 rfl rfl ?_
  refine rv_aload_n (q := 6) E.1.x dX11_statements_5 rfl rfl ?_
  refine rv_iload_n (q := 7) E.1.x dX11_statements_6 rfl rfl ?_
  refine rv_x1r (fun r2 e1 => ?_) (fun w3 e4 => rC_yVrX11 E ⟨rfl, rfl⟩ (fun _ => c11_needChange_x E.2.1 E.1.2.2.1 e4) rfl gX11_91 hX11_needChange ⟨rfl, rfl⟩ ⟨Nat.le_of_ble_eq_true rfl, Nat.le_of_ble_eq_true rfl⟩ ⟨Nat.le_of_ble_eq_true rfl, Nat.le_of_ble_eq_true rfl⟩ rfl rfl rfl (Nat.le_of_ble_eq_true rfl) dX11_statements_7 ⟨Nat.le_of_ble_eq_true rfl, Nat.le_of_ble_eq_true rfl⟩)
  refine rC_xVrX11 (q := 10) E ⟨rfl, rfl⟩ (fun _ => c11_needChange E.2.1 E.1.2.2.1 e1) gX11_91 hX11_needChange ⟨rfl, rfl⟩ ⟨Nat.le_of_ble_eq_true rfl, Nat.le_of_ble_eq_true rfl⟩ ⟨Nat.le_of_ble_eq_true rfl, Nat.le_of_ble_eq_true rfl⟩ rfl rfl rfl (Nat.le_of_ble_eq_true rfl) dX11_statements_7 rfl ?_
  refine rv_iconst (q := 11) E.1.x dX11_statements_10 rv_ki0 rfl ?_
  refine rv_b1 (fun r6 e5 => ?_)
  refine rC_calliX11 (q := 14) E.1 ⟨rfl, rfl⟩ (c11_factsOf E.1.2.2.1 e5) gX11_447 hX11_factsOf ⟨rfl, rfl⟩ ⟨Nat.le_of_ble_eq_true rfl, Nat.le_of_ble_eq_true rfl⟩ ⟨Nat.le_of_ble_eq_true rfl, Nat.le_of_ble_eq_true rfl⟩ rfl rfl rfl (Nat.le_of_ble_eq_true rfl) dX11_statements_11 rfl ?_
  refine rv_b1 (fun r8 e7 => ?_)
  refine rC_calliX8 (q := 17) E.1 ⟨rfl, rfl⟩ (c8_follow E.1.2.2.1 e7) gX11_450 hX8_follow ⟨rfl, rfl⟩ ⟨Nat.le_of_ble_eq_true rfl, Nat.le_of_ble_eq_true rfl⟩ ⟨Nat.le_of_ble_eq_true rfl, Nat.le_of_ble_eq_true rfl⟩ rfl rfl rfl (Nat.le_of_ble_eq_true rfl) dX11_statements_14 rfl ?_
  exact rv_tr (fun _ => trivial)
theorem c11_statements_x {l : Launch} {D : va_G} {cI cZ cO : ClassId} {ad : Nat → Nat} {gh : rC_gh} {de : Nat} (hfl : l.stackTraces = false) (hI : rC_I ad gh) {sz : Nat} {M : rv_Mem} {a1 : Int32} {x : Nat} (h : f11_statements gh M a1 = some (.inr x)) : vx_Met l yX11_statements (rv_ws yX11_statements cX11_statements 2 (some .int)) rmx11_statements (rC_Px D cI cZ cO ad gh de sz [.ref (ad 0), .int a1] M) (rC_fi (rC_A ad gh sz)) (rC_xc D cI cZ cO ad gh de (rC_A ad gh sz) x M) 1 6 (rC_A ad gh sz) := rC_xmet (Qc := fun A => rC_fi A) (XC := fun A => rC_xc D cI cZ cO ad gh de A x M) hfl hI rfl (by decide) (Nat.le_of_ble_eq_true rfl) (fun p e s m args below meth c E => ⟨(qy11_statements D cI cZ cO ad gh de below args s M), rfl, bx11_statements E M a1⟩) h
abbrev rm11_lacks : Room := { frames := 7, cells := 0, slots := 0, locals := 173 }
def qx11_lacks (D : va_G) (cI cZ cO : ClassId) (ad : Nat → Nat) (gh : rC_gh) (de : Nat) (below : List Frame) (args : Array Value) (s : State) (M : rv_Mem) : Int32 ⊕ Nat → State → Prop := fun r => match r with
  | .inl r => vx_MQ below (rC_qi D cI cZ cO ad gh de (rC_A ad gh s.heap.size) r M) (rC_fx (rC_A ad gh s.heap.size)) args s 0 0 (rC_A ad gh s.heap.size)
  | .inr _ => fun _ => True
set_option maxRecDepth 100000 in
theorem b11_lacks {p : Program} {l : Launch} {e : Env} {s : State} {m : MethodId} {args : Array Value} {below : List Frame} {meth : Method} {c : Code} {D : va_G} {cI cZ cO : ClassId} {ad : Nat → Nat} {gh : rC_gh} {de : Nat} (E : rC_X D cI cZ cO ad gh RX11 cX11_lacks 2 (some .int) p l s m args meth c) (M : rv_Mem) (a1 : Int32) : rv_M (rC_G D cI cZ cO ad gh de) (rC_A ad gh s.heap.size) p l e rm11_lacks s m args below meth c 0 0 (qx11_lacks D cI cZ cO ad gh de below args s M) (f11_lacks gh M a1) 0 [some (.ref (ad 0)), some (.int a1)] [] M := by
  unfold f11_lacks
  refine rv_aload_n (q := 1) E.1.x dX11_lacks_0 rfl rfl ?_
  refine rC_getX11 (q := 4) E.1 0 3 wfX11_35 rfl (Nat.le_of_ble_eq_true rfl) ⟨rfl, rfl⟩ rfl dX11_lacks_1 rfl ?_
  refine rv_aload_n (q := 5) E.1.x dX11_lacks_4 rfl rfl ?_
  refine rv_aload_n (q := 6) E.1.x dX11_lacks_5 rfl rfl ?_
  refine rv_iload_n (q := 7) E.1.x dX11_lacks_6 rfl rfl ?_
  refine rv_x1r (fun r2 e1 => ?_) (fun w3 e4 => rv_tr (fun _ => trivial))
  refine rC_xVrX11 (q := 10) E ⟨rfl, rfl⟩ (fun _ => c11_needChange E.2.1 E.1.2.2.1 e1) gX11_91 hX11_needChange ⟨rfl, rfl⟩ ⟨Nat.le_of_ble_eq_true rfl, Nat.le_of_ble_eq_true rfl⟩ ⟨Nat.le_of_ble_eq_true rfl, Nat.le_of_ble_eq_true rfl⟩ rfl rfl rfl (Nat.le_of_ble_eq_true rfl) dX11_lacks_7 rfl ?_
  refine rv_iconst (q := 11) E.1.x dX11_lacks_10 rv_ki0 rfl ?_
  refine rv_b1 (fun r6 e5 => ?_)
  refine rC_calliX11 (q := 14) E.1 ⟨rfl, rfl⟩ (c11_factsOf E.1.2.2.1 e5) gX11_447 hX11_factsOf ⟨rfl, rfl⟩ ⟨Nat.le_of_ble_eq_true rfl, Nat.le_of_ble_eq_true rfl⟩ ⟨Nat.le_of_ble_eq_true rfl, Nat.le_of_ble_eq_true rfl⟩ rfl rfl rfl (Nat.le_of_ble_eq_true rfl) dX11_lacks_11 rfl ?_
  refine rv_b1 (fun r8 e7 => ?_)
  refine rC_calliX8 (q := 17) E.1 ⟨rfl, rfl⟩ (c8_lackingFacts E.1.2.2.1 e7) gX11_452 hX8_lackingFacts ⟨rfl, rfl⟩ ⟨Nat.le_of_ble_eq_true rfl, Nat.le_of_ble_eq_true rfl⟩ ⟨Nat.le_of_ble_eq_true rfl, Nat.le_of_ble_eq_true rfl⟩ rfl rfl rfl (Nat.le_of_ble_eq_true rfl) dX11_lacks_14 rfl ?_
  exact rC_xiret E rfl ⟨Nat.le_of_ble_eq_true rfl, Nat.le_of_ble_eq_true rfl⟩ dX11_lacks_17
theorem c11_lacks {l : Launch} {D : va_G} {cI cZ cO : ClassId} {ad : Nat → Nat} {gh : rC_gh} {de : Nat} (hfl : l.stackTraces = false) (hI : rC_I ad gh) {sz : Nat} {M : rv_Mem} {a1 : Int32} {r : Int32} (h : f11_lacks gh M a1 = some (.inl r)) : vx_Met l yX11_lacks (rv_ws yX11_lacks cX11_lacks 2 (some .int)) rm11_lacks (rC_Px D cI cZ cO ad gh de sz [.ref (ad 0), .int a1] M) (rC_qi D cI cZ cO ad gh de (rC_A ad gh sz) r M) (rC_fx (rC_A ad gh sz)) 0 0 (rC_A ad gh sz) := rC_xmet (Qc := fun A => rC_qi D cI cZ cO ad gh de A r M) (XC := fun A => rC_fx A) hfl hI rfl (by decide) (Nat.le_of_ble_eq_true rfl) (fun p e s m args below meth c E => ⟨(qx11_lacks D cI cZ cO ad gh de below args s M), rfl, b11_lacks E M a1⟩) h
abbrev rmx11_lacks : Room := { frames := 7, cells := 1, slots := 6, locals := 173 }
def qy11_lacks (D : va_G) (cI cZ cO : ClassId) (ad : Nat → Nat) (gh : rC_gh) (de : Nat) (below : List Frame) (args : Array Value) (s : State) (M : rv_Mem) : Int32 ⊕ Nat → State → Prop := fun r => match r with
  | .inl _ => fun _ => True
  | .inr r => vx_MQ below (rC_fi (rC_A ad gh s.heap.size)) (rC_xc D cI cZ cO ad gh de (rC_A ad gh s.heap.size) r M) args s 1 6 (rC_A ad gh s.heap.size)
set_option maxRecDepth 100000 in
theorem bx11_lacks {p : Program} {l : Launch} {e : Env} {s : State} {m : MethodId} {args : Array Value} {below : List Frame} {meth : Method} {c : Code} {D : va_G} {cI cZ cO : ClassId} {ad : Nat → Nat} {gh : rC_gh} {de : Nat} (E : rC_X D cI cZ cO ad gh RX11 cX11_lacks 2 (some .int) p l s m args meth c) (M : rv_Mem) (a1 : Int32) : rv_M (rC_G D cI cZ cO ad gh de) (rC_A ad gh s.heap.size) p l e rmx11_lacks s m args below meth c 0 0 (qy11_lacks D cI cZ cO ad gh de below args s M) (f11_lacks gh M a1) 0 [some (.ref (ad 0)), some (.int a1)] [] M := by
  unfold f11_lacks
  refine rv_aload_n (q := 1) E.1.x dX11_lacks_0 rfl rfl ?_
  refine rC_getX11 (q := 4) E.1 0 3 wfX11_35 rfl (Nat.le_of_ble_eq_true rfl) ⟨rfl, rfl⟩ rfl dX11_lacks_1 rfl ?_
  refine rv_aload_n (q := 5) E.1.x dX11_lacks_4 rfl rfl ?_
  refine rv_aload_n (q := 6) E.1.x dX11_lacks_5 rfl rfl ?_
  refine rv_iload_n (q := 7) E.1.x dX11_lacks_6 rfl rfl ?_
  refine rv_x1r (fun r2 e1 => ?_) (fun w3 e4 => rC_yVrX11 E ⟨rfl, rfl⟩ (fun _ => c11_needChange_x E.2.1 E.1.2.2.1 e4) rfl gX11_91 hX11_needChange ⟨rfl, rfl⟩ ⟨Nat.le_of_ble_eq_true rfl, Nat.le_of_ble_eq_true rfl⟩ ⟨Nat.le_of_ble_eq_true rfl, Nat.le_of_ble_eq_true rfl⟩ rfl rfl rfl (Nat.le_of_ble_eq_true rfl) dX11_lacks_7 ⟨Nat.le_of_ble_eq_true rfl, Nat.le_of_ble_eq_true rfl⟩)
  refine rC_xVrX11 (q := 10) E ⟨rfl, rfl⟩ (fun _ => c11_needChange E.2.1 E.1.2.2.1 e1) gX11_91 hX11_needChange ⟨rfl, rfl⟩ ⟨Nat.le_of_ble_eq_true rfl, Nat.le_of_ble_eq_true rfl⟩ ⟨Nat.le_of_ble_eq_true rfl, Nat.le_of_ble_eq_true rfl⟩ rfl rfl rfl (Nat.le_of_ble_eq_true rfl) dX11_lacks_7 rfl ?_
  refine rv_iconst (q := 11) E.1.x dX11_lacks_10 rv_ki0 rfl ?_
  refine rv_b1 (fun r6 e5 => ?_)
  refine rC_calliX11 (q := 14) E.1 ⟨rfl, rfl⟩ (c11_factsOf E.1.2.2.1 e5) gX11_447 hX11_factsOf ⟨rfl, rfl⟩ ⟨Nat.le_of_ble_eq_true rfl, Nat.le_of_ble_eq_true rfl⟩ ⟨Nat.le_of_ble_eq_true rfl, Nat.le_of_ble_eq_true rfl⟩ rfl rfl rfl (Nat.le_of_ble_eq_true rfl) dX11_lacks_11 rfl ?_
  refine rv_b1 (fun r8 e7 => ?_)
  refine rC_calliX8 (q := 17) E.1 ⟨rfl, rfl⟩ (c8_lackingFacts E.1.2.2.1 e7) gX11_452 hX8_lackingFacts ⟨rfl, rfl⟩ ⟨Nat.le_of_ble_eq_true rfl, Nat.le_of_ble_eq_true rfl⟩ ⟨Nat.le_of_ble_eq_true rfl, Nat.le_of_ble_eq_true rfl⟩ rfl rfl rfl (Nat.le_of_ble_eq_true rfl) dX11_lacks_14 rfl ?_
  exact rv_tr (fun _ => trivial)
theorem c11_lacks_x {l : Launch} {D : va_G} {cI cZ cO : ClassId} {ad : Nat → Nat} {gh : rC_gh} {de : Nat} (hfl : l.stackTraces = false) (hI : rC_I ad gh) {sz : Nat} {M : rv_Mem} {a1 : Int32} {x : Nat} (h : f11_lacks gh M a1 = some (.inr x)) : vx_Met l yX11_lacks (rv_ws yX11_lacks cX11_lacks 2 (some .int)) rmx11_lacks (rC_Px D cI cZ cO ad gh de sz [.ref (ad 0), .int a1] M) (rC_fi (rC_A ad gh sz)) (rC_xc D cI cZ cO ad gh de (rC_A ad gh sz) x M) 1 6 (rC_A ad gh sz) := rC_xmet (Qc := fun A => rC_fi A) (XC := fun A => rC_xc D cI cZ cO ad gh de A x M) hfl hI rfl (by decide) (Nat.le_of_ble_eq_true rfl) (fun p e s m args below meth c E => ⟨(qy11_lacks D cI cZ cO ad gh de below args s M), rfl, bx11_lacks E M a1⟩) h
abbrev rm11_setWay : Room := { frames := 7, cells := 0, slots := 0, locals := 120 }
def qx11_setWay (D : va_G) (cI cZ cO : ClassId) (ad : Nat → Nat) (gh : rC_gh) (de : Nat) (below : List Frame) (args : Array Value) (s : State) : (Int32 × rv_Mem) ⊕ (Nat × rv_Mem) → State → Prop := fun r => match r with
  | .inl r => vx_MQ below (rC_qi D cI cZ cO ad gh de (rC_A ad gh s.heap.size) r.1 r.2) (rC_fx (rC_A ad gh s.heap.size)) args s 0 0 (rC_A ad gh s.heap.size)
  | .inr _ => fun _ => True
set_option maxRecDepth 100000 in
theorem b11_setWay {p : Program} {l : Launch} {e : Env} {s : State} {m : MethodId} {args : Array Value} {below : List Frame} {meth : Method} {c : Code} {D : va_G} {cI cZ cO : ClassId} {ad : Nat → Nat} {gh : rC_gh} {de : Nat} (E : rC_X D cI cZ cO ad gh RX11 cX11_setWay 3 (some .int) p l s m args meth c) (M : rv_Mem) (a1 : Int32) (a2 : Int32) : rv_M (rC_G D cI cZ cO ad gh de) (rC_A ad gh s.heap.size) p l e rm11_setWay s m args below meth c 0 0 (qx11_setWay D cI cZ cO ad gh de below args s) (f11_setWay gh M a1 a2) 0 [some (.ref (ad 0)), some (.int a1), some (.int a2)] [] M := by
  unfold f11_setWay
  refine rv_iload_n (q := 1) E.1.x dX11_setWay_0 rfl rfl ?_
  refine rv_x2r (fun r2 e1 => ?_) (fun w3 e4 => rv_tr (fun _ => trivial))
  refine rC_xSv (q := 4) E (fun _ => c11_needRepository E.2.1 E.1.2.2.1 e1) gX11_143 hX11_needRepository ⟨rfl, rfl⟩ ⟨Nat.le_of_ble_eq_true rfl, Nat.le_of_ble_eq_true rfl⟩ ⟨Nat.le_of_ble_eq_true rfl, Nat.le_of_ble_eq_true rfl⟩ rfl rfl rfl (Nat.le_of_ble_eq_true rfl) dX11_setWay_1 rfl ?_
  refine rv_iload_n (q := 5) E.1.x dX11_setWay_4 rfl rfl ?_
  refine rv_if_lt (q := 8) (tgt := 13) E.1.x dX11_setWay_5 (by decide) rfl ?_ ?_
  · refine rv_iload_n (q := 9) E.1.x dX11_setWay_8 rfl rfl ?_
    refine rv_iconst (q := 10) E.1.x dX11_setWay_9 rv_ki2 rfl ?_
    refine rv_icmp_le (q := 13) (tgt := 24) E.1.x dX11_setWay_10 (by decide) rfl ?_ ?_
    · exact rv_tr (fun _ => trivial)
    · refine rv_aload_n (q := 25) E.1.x dX11_setWay_24 rfl rfl ?_
      refine rC_getX11 (q := 28) E.1 0 8 wfX11_64 rfl (Nat.le_of_ble_eq_true rfl) ⟨rfl, rfl⟩ rfl dX11_setWay_25 rfl ?_
      refine rv_iload_n (q := 29) E.1.x dX11_setWay_28 rfl rfl ?_
      refine rv_iload_n (q := 30) E.1.x dX11_setWay_29 rfl rfl ?_
      refine rv_b2 (fun r6 M7 e5 => ?_)
      refine rC_calliX5 (q := 33) E.1 ⟨rfl, rfl⟩ (c5_replaceWay E.1.2.2.1 e5) gX11_457 hX5_replaceWay ⟨rfl, rfl⟩ ⟨Nat.le_of_ble_eq_true rfl, Nat.le_of_ble_eq_true rfl⟩ ⟨Nat.le_of_ble_eq_true rfl, Nat.le_of_ble_eq_true rfl⟩ rfl rfl rfl (Nat.le_of_ble_eq_true rfl) dX11_setWay_30 rfl ?_
      exact rC_xiret E rfl ⟨Nat.le_of_ble_eq_true rfl, Nat.le_of_ble_eq_true rfl⟩ dX11_setWay_33
  · exact rv_tr (fun _ => trivial)
theorem c11_setWay {l : Launch} {D : va_G} {cI cZ cO : ClassId} {ad : Nat → Nat} {gh : rC_gh} {de : Nat} (hfl : l.stackTraces = false) (hI : rC_I ad gh) {sz : Nat} {M : rv_Mem} {a1 : Int32} {a2 : Int32} {r : Int32} {M1 : rv_Mem} (h : f11_setWay gh M a1 a2 = some (.inl (r, M1))) : vx_Met l yX11_setWay (rv_ws yX11_setWay cX11_setWay 3 (some .int)) rm11_setWay (rC_Px D cI cZ cO ad gh de sz [.ref (ad 0), .int a1, .int a2] M) (rC_qi D cI cZ cO ad gh de (rC_A ad gh sz) r M1) (rC_fx (rC_A ad gh sz)) 0 0 (rC_A ad gh sz) := rC_xmet (Qc := fun A => rC_qi D cI cZ cO ad gh de A r M1) (XC := fun A => rC_fx A) hfl hI rfl (by decide) (Nat.le_of_ble_eq_true rfl) (fun p e s m args below meth c E => ⟨(qx11_setWay D cI cZ cO ad gh de below args s), rfl, b11_setWay E M a1 a2⟩) h
abbrev rmx11_setWay : Room := { frames := 7, cells := 1, slots := 6, locals := 120 }
def qy11_setWay (D : va_G) (cI cZ cO : ClassId) (ad : Nat → Nat) (gh : rC_gh) (de : Nat) (below : List Frame) (args : Array Value) (s : State) : (Int32 × rv_Mem) ⊕ (Nat × rv_Mem) → State → Prop := fun r => match r with
  | .inl _ => fun _ => True
  | .inr r => vx_MQ below (rC_fi (rC_A ad gh s.heap.size)) (rC_xc D cI cZ cO ad gh de (rC_A ad gh s.heap.size) r.1 r.2) args s 1 6 (rC_A ad gh s.heap.size)
set_option maxRecDepth 100000 in
theorem bx11_setWay {p : Program} {l : Launch} {e : Env} {s : State} {m : MethodId} {args : Array Value} {below : List Frame} {meth : Method} {c : Code} {D : va_G} {cI cZ cO : ClassId} {ad : Nat → Nat} {gh : rC_gh} {de : Nat} (E : rC_X D cI cZ cO ad gh RX11 cX11_setWay 3 (some .int) p l s m args meth c) (M : rv_Mem) (a1 : Int32) (a2 : Int32) : rv_M (rC_G D cI cZ cO ad gh de) (rC_A ad gh s.heap.size) p l e rmx11_setWay s m args below meth c 0 0 (qy11_setWay D cI cZ cO ad gh de below args s) (f11_setWay gh M a1 a2) 0 [some (.ref (ad 0)), some (.int a1), some (.int a2)] [] M := by
  unfold f11_setWay
  refine rv_iload_n (q := 1) E.1.x dX11_setWay_0 rfl rfl ?_
  refine rv_x2r (fun r2 e1 => ?_) (fun w3 e4 => rC_ySv E (fun _ => c11_needRepository_x E.2.1 E.1.2.2.1 e4) rfl gX11_143 hX11_needRepository ⟨rfl, rfl⟩ ⟨Nat.le_of_ble_eq_true rfl, Nat.le_of_ble_eq_true rfl⟩ ⟨Nat.le_of_ble_eq_true rfl, Nat.le_of_ble_eq_true rfl⟩ rfl rfl rfl (Nat.le_of_ble_eq_true rfl) dX11_setWay_1 ⟨Nat.le_of_ble_eq_true rfl, Nat.le_of_ble_eq_true rfl⟩)
  refine rC_xSv (q := 4) E (fun _ => c11_needRepository E.2.1 E.1.2.2.1 e1) gX11_143 hX11_needRepository ⟨rfl, rfl⟩ ⟨Nat.le_of_ble_eq_true rfl, Nat.le_of_ble_eq_true rfl⟩ ⟨Nat.le_of_ble_eq_true rfl, Nat.le_of_ble_eq_true rfl⟩ rfl rfl rfl (Nat.le_of_ble_eq_true rfl) dX11_setWay_1 rfl ?_
  refine rv_iload_n (q := 5) E.1.x dX11_setWay_4 rfl rfl ?_
  refine rv_if_lt (q := 8) (tgt := 13) E.1.x dX11_setWay_5 (by decide) rfl ?_ ?_
  · refine rv_iload_n (q := 9) E.1.x dX11_setWay_8 rfl rfl ?_
    refine rv_iconst (q := 10) E.1.x dX11_setWay_9 rv_ki2 rfl ?_
    refine rv_icmp_le (q := 13) (tgt := 24) E.1.x dX11_setWay_10 (by decide) rfl ?_ ?_
    · exact rC_throwW (x := 2) E rfl (by decide +kernel) rC_xk2 rC_xi2 rC_xg2 rC_xn2 rC_xo2 E.2.2.2.2.2.2.2.1 (is := 455) (text := "no such way") (by decide +kernel) rfl rfl dX11_setWay_13 dX11_setWay_16 dX11_setWay_17 dX11_setWay_20 dX11_setWay_23 (Nat.le_of_ble_eq_true rfl) (Nat.le_of_ble_eq_true rfl) ⟨Nat.le_of_ble_eq_true rfl, Nat.le_of_ble_eq_true rfl⟩ ⟨Nat.le_of_ble_eq_true rfl, Nat.le_of_ble_eq_true rfl⟩
    · refine rv_aload_n (q := 25) E.1.x dX11_setWay_24 rfl rfl ?_
      refine rC_getX11 (q := 28) E.1 0 8 wfX11_64 rfl (Nat.le_of_ble_eq_true rfl) ⟨rfl, rfl⟩ rfl dX11_setWay_25 rfl ?_
      refine rv_iload_n (q := 29) E.1.x dX11_setWay_28 rfl rfl ?_
      refine rv_iload_n (q := 30) E.1.x dX11_setWay_29 rfl rfl ?_
      refine rv_b2 (fun r6 M7 e5 => ?_)
      refine rC_calliX5 (q := 33) E.1 ⟨rfl, rfl⟩ (c5_replaceWay E.1.2.2.1 e5) gX11_457 hX5_replaceWay ⟨rfl, rfl⟩ ⟨Nat.le_of_ble_eq_true rfl, Nat.le_of_ble_eq_true rfl⟩ ⟨Nat.le_of_ble_eq_true rfl, Nat.le_of_ble_eq_true rfl⟩ rfl rfl rfl (Nat.le_of_ble_eq_true rfl) dX11_setWay_30 rfl ?_
      exact rv_tr (fun _ => trivial)
  · exact rC_throwW (x := 2) E rfl (by decide +kernel) rC_xk2 rC_xi2 rC_xg2 rC_xn2 rC_xo2 E.2.2.2.2.2.2.2.1 (is := 455) (text := "no such way") (by decide +kernel) rfl rfl dX11_setWay_13 dX11_setWay_16 dX11_setWay_17 dX11_setWay_20 dX11_setWay_23 (Nat.le_of_ble_eq_true rfl) (Nat.le_of_ble_eq_true rfl) ⟨Nat.le_of_ble_eq_true rfl, Nat.le_of_ble_eq_true rfl⟩ ⟨Nat.le_of_ble_eq_true rfl, Nat.le_of_ble_eq_true rfl⟩
theorem c11_setWay_x {l : Launch} {D : va_G} {cI cZ cO : ClassId} {ad : Nat → Nat} {gh : rC_gh} {de : Nat} (hfl : l.stackTraces = false) (hI : rC_I ad gh) {sz : Nat} {M : rv_Mem} {a1 : Int32} {a2 : Int32} {x : Nat} {M1 : rv_Mem} (h : f11_setWay gh M a1 a2 = some (.inr (x, M1))) : vx_Met l yX11_setWay (rv_ws yX11_setWay cX11_setWay 3 (some .int)) rmx11_setWay (rC_Px D cI cZ cO ad gh de sz [.ref (ad 0), .int a1, .int a2] M) (rC_fi (rC_A ad gh sz)) (rC_xc D cI cZ cO ad gh de (rC_A ad gh sz) x M1) 1 6 (rC_A ad gh sz) := rC_xmet (Qc := fun A => rC_fi A) (XC := fun A => rC_xc D cI cZ cO ad gh de A x M1) hfl hI rfl (by decide) (Nat.le_of_ble_eq_true rfl) (fun p e s m args below meth c E => ⟨(qy11_setWay D cI cZ cO ad gh de below args s), rfl, bx11_setWay E M a1 a2⟩) h
abbrev rm11_group : Room := { frames := 7, cells := 0, slots := 0, locals := 153 }
def qx11_group (D : va_G) (cI cZ cO : ClassId) (ad : Nat → Nat) (gh : rC_gh) (de : Nat) (below : List Frame) (args : Array Value) (s : State) (M : rv_Mem) : Int32 ⊕ Nat → State → Prop := fun r => match r with
  | .inl r => vx_MQ below (rC_qi D cI cZ cO ad gh de (rC_A ad gh s.heap.size) r M) (rC_fx (rC_A ad gh s.heap.size)) args s 0 0 (rC_A ad gh s.heap.size)
  | .inr _ => fun _ => True
set_option maxRecDepth 100000 in
theorem b11_group {p : Program} {l : Launch} {e : Env} {s : State} {m : MethodId} {args : Array Value} {below : List Frame} {meth : Method} {c : Code} {D : va_G} {cI cZ cO : ClassId} {ad : Nat → Nat} {gh : rC_gh} {de : Nat} (E : rC_X D cI cZ cO ad gh RX11 cX11_group 2 (some .int) p l s m args meth c) (M : rv_Mem) (a1 : Int32) : rv_M (rC_G D cI cZ cO ad gh de) (rC_A ad gh s.heap.size) p l e rm11_group s m args below meth c 0 0 (qx11_group D cI cZ cO ad gh de below args s M) (f11_group gh M a1) 0 [some (.ref (ad 0)), some (.int a1)] [] M := by
  unfold f11_group
  refine rv_aload_n (q := 1) E.1.x dX11_group_0 rfl rfl ?_
  refine rv_iload_n (q := 2) E.1.x dX11_group_1 rfl rfl ?_
  refine rv_x1r (fun r2 e1 => ?_) (fun w3 e4 => rv_tr (fun _ => trivial))
  refine rC_xVrX11 (q := 5) E ⟨rfl, rfl⟩ (fun _ => c11_needChange E.2.1 E.1.2.2.1 e1) gX11_91 hX11_needChange ⟨rfl, rfl⟩ ⟨Nat.le_of_ble_eq_true rfl, Nat.le_of_ble_eq_true rfl⟩ ⟨Nat.le_of_ble_eq_true rfl, Nat.le_of_ble_eq_true rfl⟩ rfl rfl rfl (Nat.le_of_ble_eq_true rfl) dX11_group_2 rfl ?_
  refine rv_g (fun g5 => ?_)
  refine rC_getX0 (q := 8) E.1 r2 5 wfX11_227 rfl (Nat.le_of_ble_eq_true rfl) (rC_at_of g5) rfl dX11_group_5 rfl ?_
  refine rv_if_eq (q := 11) (tgt := 21) E.1.x dX11_group_8 (by decide) rfl ?_ ?_
  · exact rv_tr (fun _ => trivial)
  · refine rv_aload_n (q := 22) E.1.x dX11_group_21 rfl rfl ?_
    refine rC_getX11 (q := 25) E.1 0 8 wfX11_64 rfl (Nat.le_of_ble_eq_true rfl) ⟨rfl, rfl⟩ rfl dX11_group_22 rfl ?_
    refine rv_iload_n (q := 26) E.1.x dX11_group_25 rfl rfl ?_
    refine rv_b1 (fun r7 e6 => ?_)
    refine rC_calliX5 (q := 29) E.1 ⟨rfl, rfl⟩ (c5_groupOf E.1.2.2.1 e6) gX11_460 hX5_groupOf ⟨rfl, rfl⟩ ⟨Nat.le_of_ble_eq_true rfl, Nat.le_of_ble_eq_true rfl⟩ ⟨Nat.le_of_ble_eq_true rfl, Nat.le_of_ble_eq_true rfl⟩ rfl rfl rfl (Nat.le_of_ble_eq_true rfl) dX11_group_26 rfl ?_
    exact rC_xiret E rfl ⟨Nat.le_of_ble_eq_true rfl, Nat.le_of_ble_eq_true rfl⟩ dX11_group_29
theorem c11_group {l : Launch} {D : va_G} {cI cZ cO : ClassId} {ad : Nat → Nat} {gh : rC_gh} {de : Nat} (hfl : l.stackTraces = false) (hI : rC_I ad gh) {sz : Nat} {M : rv_Mem} {a1 : Int32} {r : Int32} (h : f11_group gh M a1 = some (.inl r)) : vx_Met l yX11_group (rv_ws yX11_group cX11_group 2 (some .int)) rm11_group (rC_Px D cI cZ cO ad gh de sz [.ref (ad 0), .int a1] M) (rC_qi D cI cZ cO ad gh de (rC_A ad gh sz) r M) (rC_fx (rC_A ad gh sz)) 0 0 (rC_A ad gh sz) := rC_xmet (Qc := fun A => rC_qi D cI cZ cO ad gh de A r M) (XC := fun A => rC_fx A) hfl hI rfl (by decide) (Nat.le_of_ble_eq_true rfl) (fun p e s m args below meth c E => ⟨(qx11_group D cI cZ cO ad gh de below args s M), rfl, b11_group E M a1⟩) h
abbrev rmx11_group : Room := { frames := 7, cells := 1, slots := 6, locals := 153 }
def qy11_group (D : va_G) (cI cZ cO : ClassId) (ad : Nat → Nat) (gh : rC_gh) (de : Nat) (below : List Frame) (args : Array Value) (s : State) (M : rv_Mem) : Int32 ⊕ Nat → State → Prop := fun r => match r with
  | .inl _ => fun _ => True
  | .inr r => vx_MQ below (rC_fi (rC_A ad gh s.heap.size)) (rC_xc D cI cZ cO ad gh de (rC_A ad gh s.heap.size) r M) args s 1 6 (rC_A ad gh s.heap.size)
set_option maxRecDepth 100000 in
theorem bx11_group {p : Program} {l : Launch} {e : Env} {s : State} {m : MethodId} {args : Array Value} {below : List Frame} {meth : Method} {c : Code} {D : va_G} {cI cZ cO : ClassId} {ad : Nat → Nat} {gh : rC_gh} {de : Nat} (E : rC_X D cI cZ cO ad gh RX11 cX11_group 2 (some .int) p l s m args meth c) (M : rv_Mem) (a1 : Int32) : rv_M (rC_G D cI cZ cO ad gh de) (rC_A ad gh s.heap.size) p l e rmx11_group s m args below meth c 0 0 (qy11_group D cI cZ cO ad gh de below args s M) (f11_group gh M a1) 0 [some (.ref (ad 0)), some (.int a1)] [] M := by
  unfold f11_group
  refine rv_aload_n (q := 1) E.1.x dX11_group_0 rfl rfl ?_
  refine rv_iload_n (q := 2) E.1.x dX11_group_1 rfl rfl ?_
  refine rv_x1r (fun r2 e1 => ?_) (fun w3 e4 => rC_yVrX11 E ⟨rfl, rfl⟩ (fun _ => c11_needChange_x E.2.1 E.1.2.2.1 e4) rfl gX11_91 hX11_needChange ⟨rfl, rfl⟩ ⟨Nat.le_of_ble_eq_true rfl, Nat.le_of_ble_eq_true rfl⟩ ⟨Nat.le_of_ble_eq_true rfl, Nat.le_of_ble_eq_true rfl⟩ rfl rfl rfl (Nat.le_of_ble_eq_true rfl) dX11_group_2 ⟨Nat.le_of_ble_eq_true rfl, Nat.le_of_ble_eq_true rfl⟩)
  refine rC_xVrX11 (q := 5) E ⟨rfl, rfl⟩ (fun _ => c11_needChange E.2.1 E.1.2.2.1 e1) gX11_91 hX11_needChange ⟨rfl, rfl⟩ ⟨Nat.le_of_ble_eq_true rfl, Nat.le_of_ble_eq_true rfl⟩ ⟨Nat.le_of_ble_eq_true rfl, Nat.le_of_ble_eq_true rfl⟩ rfl rfl rfl (Nat.le_of_ble_eq_true rfl) dX11_group_2 rfl ?_
  refine rv_g (fun g5 => ?_)
  refine rC_getX0 (q := 8) E.1 r2 5 wfX11_227 rfl (Nat.le_of_ble_eq_true rfl) (rC_at_of g5) rfl dX11_group_5 rfl ?_
  refine rv_if_eq (q := 11) (tgt := 21) E.1.x dX11_group_8 (by decide) rfl ?_ ?_
  · exact rC_throw (x := 3) E rfl (by decide +kernel) rC_xk3 rC_xi3 rC_xg3 rC_xn3 rC_xo3 E.2.2.2.2.2.2.2.2.1 (is := 241) (text := "the change is not open") (by decide +kernel) rfl rfl dX11_group_11 dX11_group_14 dX11_group_15 dX11_group_17 dX11_group_20 (Nat.le_of_ble_eq_true rfl) (Nat.le_of_ble_eq_true rfl) ⟨Nat.le_of_ble_eq_true rfl, Nat.le_of_ble_eq_true rfl⟩ ⟨Nat.le_of_ble_eq_true rfl, Nat.le_of_ble_eq_true rfl⟩
  · refine rv_aload_n (q := 22) E.1.x dX11_group_21 rfl rfl ?_
    refine rC_getX11 (q := 25) E.1 0 8 wfX11_64 rfl (Nat.le_of_ble_eq_true rfl) ⟨rfl, rfl⟩ rfl dX11_group_22 rfl ?_
    refine rv_iload_n (q := 26) E.1.x dX11_group_25 rfl rfl ?_
    refine rv_b1 (fun r7 e6 => ?_)
    refine rC_calliX5 (q := 29) E.1 ⟨rfl, rfl⟩ (c5_groupOf E.1.2.2.1 e6) gX11_460 hX5_groupOf ⟨rfl, rfl⟩ ⟨Nat.le_of_ble_eq_true rfl, Nat.le_of_ble_eq_true rfl⟩ ⟨Nat.le_of_ble_eq_true rfl, Nat.le_of_ble_eq_true rfl⟩ rfl rfl rfl (Nat.le_of_ble_eq_true rfl) dX11_group_26 rfl ?_
    exact rv_tr (fun _ => trivial)
theorem c11_group_x {l : Launch} {D : va_G} {cI cZ cO : ClassId} {ad : Nat → Nat} {gh : rC_gh} {de : Nat} (hfl : l.stackTraces = false) (hI : rC_I ad gh) {sz : Nat} {M : rv_Mem} {a1 : Int32} {x : Nat} (h : f11_group gh M a1 = some (.inr x)) : vx_Met l yX11_group (rv_ws yX11_group cX11_group 2 (some .int)) rmx11_group (rC_Px D cI cZ cO ad gh de sz [.ref (ad 0), .int a1] M) (rC_fi (rC_A ad gh sz)) (rC_xc D cI cZ cO ad gh de (rC_A ad gh sz) x M) 1 6 (rC_A ad gh sz) := rC_xmet (Qc := fun A => rC_fi A) (XC := fun A => rC_xc D cI cZ cO ad gh de A x M) hfl hI rfl (by decide) (Nat.le_of_ble_eq_true rfl) (fun p e s m args below meth c E => ⟨(qy11_group D cI cZ cO ad gh de below args s M), rfl, bx11_group E M a1⟩) h
abbrev rm11_canLandIn : Room := { frames := 7, cells := 0, slots := 0, locals := 173 }
set_option maxRecDepth 100000 in
theorem b11_canLandIn {p : Program} {l : Launch} {e : Env} {s : State} {m : MethodId} {args : Array Value} {below : List Frame} {meth : Method} {c : Code} {D : va_G} {cI cZ cO : ClassId} {ad : Nat → Nat} {gh : rC_gh} {de : Nat} (E : rC_E D cI cZ cO ad gh (rC_K ad gh) RX11 cX11_canLandIn 3 (some .boolean) p s m args meth c) (M : rv_Mem) (a1 : Int32) (a2 : Nat) : rv_M (rC_G D cI cZ cO ad gh de) (rC_K ad gh) p l e rm11_canLandIn s m args below meth c 0 0 (rC_qZ D cI cZ cO ad gh de below args s M) (f11_canLandIn gh M a1 a2) 0 [some (.ref (ad 0)), some (.int a1), some (.ref (ad a2))] [] M := by
  unfold f11_canLandIn
  refine rv_aload_n (q := 1) E.x dX11_canLandIn_0 rfl rfl ?_
  refine rC_getX11 (q := 4) E 0 3 wfX11_35 rfl (Nat.le_of_ble_eq_true rfl) ⟨rfl, rfl⟩ rfl dX11_canLandIn_1 rfl ?_
  refine rv_aload_n (q := 5) E.x dX11_canLandIn_4 rfl rfl ?_
  refine rv_aload_n (q := 6) E.x dX11_canLandIn_5 rfl rfl ?_
  refine rv_iload_n (q := 7) E.x dX11_canLandIn_6 rfl rfl ?_
  refine rv_b1 (fun r2 e1 => ?_)
  refine rC_calliX11 (q := 10) E ⟨rfl, rfl⟩ (c11_factsOf E.2.2.1 e1) gX11_447 hX11_factsOf ⟨rfl, rfl⟩ ⟨Nat.le_of_ble_eq_true rfl, Nat.le_of_ble_eq_true rfl⟩ ⟨Nat.le_of_ble_eq_true rfl, Nat.le_of_ble_eq_true rfl⟩ rfl rfl rfl (Nat.le_of_ble_eq_true rfl) dX11_canLandIn_7 rfl ?_
  refine rv_b1 (fun r4 e3 => ?_)
  refine rC_calliX8 (q := 13) E ⟨rfl, rfl⟩ (c8_follow E.2.2.1 e3) gX11_450 hX8_follow ⟨rfl, rfl⟩ ⟨Nat.le_of_ble_eq_true rfl, Nat.le_of_ble_eq_true rfl⟩ ⟨Nat.le_of_ble_eq_true rfl, Nat.le_of_ble_eq_true rfl⟩ rfl rfl rfl (Nat.le_of_ble_eq_true rfl) dX11_canLandIn_10 rfl ?_
  refine rv_bipush (q := 15) E.x dX11_canLandIn_13 rv_kb15 rfl ?_
  refine rv_b1 (fun r6 e5 => ?_)
  refine rC_calls (q := 18) E (c11_isIn e5) gX11_463 hX11_isIn ⟨rfl, rfl⟩ ⟨Nat.le_of_ble_eq_true rfl, Nat.le_of_ble_eq_true rfl⟩ ⟨Nat.le_of_ble_eq_true rfl, Nat.le_of_ble_eq_true rfl⟩ rfl rfl rfl (Nat.le_of_ble_eq_true rfl) dX11_canLandIn_15 rfl ?_
  refine rv_ifz_eq (q := 21) (tgt := 39) E.x dX11_canLandIn_18 (by decide) rfl ?_ ?_
  · refine rv_aload_n (q := 22) E.x dX11_canLandIn_21 rfl rfl ?_
    refine rC_getX11 (q := 25) E 0 0 wfX11_10 rfl (Nat.le_of_ble_eq_true rfl) ⟨rfl, rfl⟩ rfl dX11_canLandIn_22 rfl ?_
    refine rv_aload_n (q := 26) E.x dX11_canLandIn_25 rfl rfl ?_
    refine rv_g (fun g7 => ?_)
    refine rC_getX0 (q := 29) E a2 0 wfX11_180 rfl (Nat.le_of_ble_eq_true rfl) (rC_at_of g7) rfl dX11_canLandIn_26 rfl ?_
    refine rv_b1 (fun r9 e8 => ?_)
    refine rC_calliX9 (q := 32) E ⟨rfl, rfl⟩ (c9_isOutdated E.2.2.1 e8) gX11_264 hX9_isOutdated ⟨rfl, rfl⟩ ⟨Nat.le_of_ble_eq_true rfl, Nat.le_of_ble_eq_true rfl⟩ ⟨Nat.le_of_ble_eq_true rfl, Nat.le_of_ble_eq_true rfl⟩ rfl rfl rfl (Nat.le_of_ble_eq_true rfl) dX11_canLandIn_29 rfl ?_
    refine rv_ifz_ne (q := 35) (tgt := 39) E.x dX11_canLandIn_32 (by decide) rfl ?_ ?_
    · refine rv_iconst (q := 36) E.x dX11_canLandIn_35 rv_ki1 rfl ?_
      refine rv_goto (q := 40) E.x dX11_canLandIn_36 (by decide) ?_
      exact rC_zret E true rfl dX11_canLandIn_40
    · refine rv_iconst (q := 40) E.x dX11_canLandIn_39 rv_ki0 rfl ?_
      exact rC_zret E false rfl dX11_canLandIn_40
  · refine rv_iconst (q := 40) E.x dX11_canLandIn_39 rv_ki0 rfl ?_
    exact rC_zret E false rfl dX11_canLandIn_40
theorem c11_canLandIn {l : Launch} {D : va_G} {cI cZ cO : ClassId} {ad : Nat → Nat} {gh : rC_gh} {de : Nat} (hI : rC_I ad gh) {M : rv_Mem} {a1 : Int32} {a2 : Nat} {r : Bool} (h : f11_canLandIn gh M a1 a2 = some r) : Met l yX11_canLandIn (rv_ws yX11_canLandIn cX11_canLandIn 3 (some .boolean)) rm11_canLandIn (rC_Pc D cI cZ cO ad gh de [.ref (ad 0), .int a1, .ref (ad a2)] M) (rC_QI D cI cZ cO ad gh de (rv_i r) M) 0 0 (rC_K ad gh) := rC_met hI rfl (by decide) (Nat.le_of_ble_eq_true rfl) (fun p e s m args below meth c E => ⟨(rC_qZ D cI cZ cO ad gh de below args s M), rfl, b11_canLandIn E M a1 a2⟩) h
abbrev rm11_land : Room := { frames := 8, cells := 0, slots := 0, locals := 195 }
def qx11_land (D : va_G) (cI cZ cO : ClassId) (ad : Nat → Nat) (gh : rC_gh) (de : Nat) (below : List Frame) (args : Array Value) (s : State) : (Int32 × rv_Mem) ⊕ (Nat × rv_Mem) → State → Prop := fun r => match r with
  | .inl r => vx_MQ below (rC_qi D cI cZ cO ad gh de (rC_A ad gh s.heap.size) r.1 r.2) (rC_fx (rC_A ad gh s.heap.size)) args s 0 0 (rC_A ad gh s.heap.size)
  | .inr _ => fun _ => True
set_option maxRecDepth 100000 in
theorem b11_land_68 {p : Program} {l : Launch} {e : Env} {s : State} {m : MethodId} {args : Array Value} {below : List Frame} {meth : Method} {c : Code} {D : va_G} {cI cZ cO : ClassId} {ad : Nat → Nat} {gh : rC_gh} {de : Nat} (E : rC_X D cI cZ cO ad gh RX11 cX11_land 5 (some .int) p l s m args meth c) (k25 : rv_Mem → Int32 → Int32 → Int32 → Option ((Int32 × rv_Mem) ⊕ (Nat × rv_Mem))) (h25 : ∀ (M : rv_Mem) (x1 : Int32) (x3 : Int32) (x4 : Int32), rv_M (rC_G D cI cZ cO ad gh de) (rC_A ad gh s.heap.size) p l e rm11_land s m args below meth c 0 0 (qx11_land D cI cZ cO ad gh de below args s) (k25 M x1 x3 x4) 25 [some (.ref (ad 0)), some (.int x1), none, some (.int x3), some (.int x4)] [] M) : ∀ (M : rv_Mem) (x1 : Int32) (x3 : Int32) (x4 : Int32), rv_M (rC_G D cI cZ cO ad gh de) (rC_A ad gh s.heap.size) p l e rm11_land s m args below meth c 0 0 (qx11_land D cI cZ cO ad gh de below args s) (f11_land_68 gh k25 M x1 x3 x4) 68 [some (.ref (ad 0)), some (.int x1), none, some (.int x3), some (.int x4)] [] M := by
  intro M x1 x3 x4
  unfold f11_land_68
  refine rv_iinc (q := 71) (lv' := [_, _, _, _, _]) E.1.x dX11_land_68 rv_ki1 rfl rfl rfl rfl ?_
  refine rv_goto (q := 25) E.1.x dX11_land_71 (by decide) ?_
  refine rv_wk [true, true, false, true, true] ?_
  exact h25 M x1 x3 (x4 + 1)
set_option maxRecDepth 100000 in
theorem b11_land_129 {p : Program} {l : Launch} {e : Env} {s : State} {m : MethodId} {args : Array Value} {below : List Frame} {meth : Method} {c : Code} {D : va_G} {cI cZ cO : ClassId} {ad : Nat → Nat} {gh : rC_gh} {de : Nat} (E : rC_X D cI cZ cO ad gh RX11 cX11_land 5 (some .int) p l s m args meth c) (k90 : rv_Mem → Int32 → Int32 → Int32 → Option ((Int32 × rv_Mem) ⊕ (Nat × rv_Mem))) (h90 : ∀ (M : rv_Mem) (x1 : Int32) (x3 : Int32) (x4 : Int32), rv_M (rC_G D cI cZ cO ad gh de) (rC_A ad gh s.heap.size) p l e rm11_land s m args below meth c 0 0 (qx11_land D cI cZ cO ad gh de below args s) (k90 M x1 x3 x4) 90 [some (.ref (ad 0)), some (.int x1), none, some (.int x3), some (.int x4)] [] M) : ∀ (M : rv_Mem) (x1 : Int32) (x3 : Int32) (x4 : Int32), rv_M (rC_G D cI cZ cO ad gh de) (rC_A ad gh s.heap.size) p l e rm11_land s m args below meth c 0 0 (qx11_land D cI cZ cO ad gh de below args s) (f11_land_129 gh k90 M x1 x3 x4) 129 [some (.ref (ad 0)), some (.int x1), none, some (.int x3), some (.int x4)] [] M := by
  intro M x1 x3 x4
  unfold f11_land_129
  refine rv_iinc (q := 132) (lv' := [_, _, _, _, _]) E.1.x dX11_land_129 rv_ki1 rfl rfl rfl rfl ?_
  refine rv_goto (q := 90) E.1.x dX11_land_132 (by decide) ?_
  refine rv_wk [true, true, false, true, true] ?_
  exact h90 M x1 x3 (x4 + 1)
set_option maxRecDepth 100000 in
theorem b11_land_90_s {p : Program} {l : Launch} {e : Env} {s : State} {m : MethodId} {args : Array Value} {below : List Frame} {meth : Method} {c : Code} {D : va_G} {cI cZ cO : ClassId} {ad : Nat → Nat} {gh : rC_gh} {de : Nat} (E : rC_X D cI cZ cO ad gh RX11 cX11_land 5 (some .int) p l s m args meth c)   (k90 : rv_Mem → Int32 → Int32 → Int32 → Option ((Int32 × rv_Mem) ⊕ (Nat × rv_Mem))) (h90 : ∀ (M : rv_Mem) (x1 : Int32) (x3 : Int32) (x4 : Int32), rv_M (rC_G D cI cZ cO ad gh de) (rC_A ad gh s.heap.size) p l e rm11_land s m args below meth c 0 0 (qx11_land D cI cZ cO ad gh de below args s) (k90 M x1 x3 x4) 90 [some (.ref (ad 0)), some (.int x1), none, some (.int x3), some (.int x4)] [] M) : ∀ (M : rv_Mem) (x1 : Int32) (x3 : Int32) (x4 : Int32), rv_M (rC_G D cI cZ cO ad gh de) (rC_A ad gh s.heap.size) p l e rm11_land s m args below meth c 0 0 (qx11_land D cI cZ cO ad gh de below args s) (f11_land_90_s gh k90 M x1 x3 x4) 90 [some (.ref (ad 0)), some (.int x1), none, some (.int x3), some (.int x4)] [] M := by
  intro M x1 x3 x4
  unfold f11_land_90_s
  refine rv_iload (q := 92) E.1.x dX11_land_90 rfl rfl ?_
  refine rv_aload_n (q := 93) E.1.x dX11_land_92 rfl rfl ?_
  refine rC_getX11 (q := 96) E.1 0 5 wfX11_49 rfl (Nat.le_of_ble_eq_true rfl) ⟨rfl, rfl⟩ rfl dX11_land_93 rfl ?_
  refine rC_lsz (q := 99) E.1 0 (by decide) (cJ_size E.1.2.2.1 0) gX11_155 ⟨Nat.le_of_ble_eq_true rfl, Nat.le_of_ble_eq_true rfl⟩ ⟨Nat.le_of_ble_eq_true rfl, Nat.le_of_ble_eq_true rfl⟩ rfl (Nat.le_of_ble_eq_true rfl) dX11_land_96 rfl ?_
  refine rv_icmp_ge (q := 102) (tgt := 135) E.1.x dX11_land_99 (by decide) rfl ?_ ?_
  · refine rv_iload_n (q := 103) E.1.x dX11_land_102 rfl rfl ?_
    refine rv_iload (q := 105) E.1.x dX11_land_103 rfl rfl ?_
    refine rv_b1 (fun r2 e1 => ?_)
    refine rC_calls (q := 108) E.1 (c11_isIn e1) gX11_463 hX11_isIn ⟨rfl, rfl⟩ ⟨Nat.le_of_ble_eq_true rfl, Nat.le_of_ble_eq_true rfl⟩ ⟨Nat.le_of_ble_eq_true rfl, Nat.le_of_ble_eq_true rfl⟩ rfl rfl rfl (Nat.le_of_ble_eq_true rfl) dX11_land_105 rfl ?_
    refine rv_ifz_eq (q := 111) (tgt := 129) E.1.x dX11_land_108 (by decide) rfl ?_ ?_
    · refine rv_aload_n (q := 112) E.1.x dX11_land_111 rfl rfl ?_
      refine rv_aload_n (q := 113) E.1.x dX11_land_112 rfl rfl ?_
      refine rC_getX11 (q := 116) E.1 0 5 wfX11_49 rfl (Nat.le_of_ble_eq_true rfl) ⟨rfl, rfl⟩ rfl dX11_land_113 rfl ?_
      refine rv_iload (q := 118) E.1.x dX11_land_116 rfl rfl ?_
      refine rC_lgt (q := 121) E.1 0 (by decide) (cJ_get E.1.2.2.1 0) ⟨rfl, rfl⟩ gX11_223 ⟨Nat.le_of_ble_eq_true rfl, Nat.le_of_ble_eq_true rfl⟩ ⟨Nat.le_of_ble_eq_true rfl, Nat.le_of_ble_eq_true rfl⟩ rfl (Nat.le_of_ble_eq_true rfl) dX11_land_118 rfl ?_
      refine rv_g (fun g3 => ?_)
      refine rC_cstX0 (q := 124) E.1 (rC_at_of g3) wxX11_165 dX11_land_121 rfl ?_
      refine rv_iconst (q := 125) E.1.x dX11_land_124 rv_ki1 rfl ?_
      refine rv_iload_n (q := 126) E.1.x dX11_land_125 rfl rfl ?_
      refine rv_b1 (fun M5 e4 => ?_)
      refine rC_callvX11 (q := 129) E.1 ⟨rfl, rfl⟩ (c11_endChange E.1.2.2.1 e4) gX11_219 hX11_endChange ⟨rfl, rfl⟩ ⟨Nat.le_of_ble_eq_true rfl, Nat.le_of_ble_eq_true rfl⟩ ⟨Nat.le_of_ble_eq_true rfl, Nat.le_of_ble_eq_true rfl⟩ rfl rfl rfl (Nat.le_of_ble_eq_true rfl) dX11_land_126 rfl ?_
      refine rv_wk [true, true, false, true, true] ?_
      exact b11_land_129 E k90 h90 M5 x1 x3 x4
    · refine rv_wk [true, true, false, true, true] ?_
      exact b11_land_129 E k90 h90 M x1 x3 x4
  · refine rv_iload_n (q := 136) E.1.x dX11_land_135 rfl rfl ?_
    refine rv_b1 (fun r7 e6 => ?_)
    refine rC_calls (q := 139) E.1 (cJ_bits e6) gX11_384 hJ6_bitCount_0f7a4 ⟨rfl, rfl⟩ ⟨Nat.le_of_ble_eq_true rfl, Nat.le_of_ble_eq_true rfl⟩ ⟨Nat.le_of_ble_eq_true rfl, Nat.le_of_ble_eq_true rfl⟩ rfl rfl rfl (Nat.le_of_ble_eq_true rfl) dX11_land_136 rfl ?_
    exact rC_xiret E rfl ⟨Nat.le_of_ble_eq_true rfl, Nat.le_of_ble_eq_true rfl⟩ dX11_land_139
theorem b11_land_90 {p : Program} {l : Launch} {e : Env} {s : State} {m : MethodId} {args : Array Value} {below : List Frame} {meth : Method} {c : Code} {D : va_G} {cI cZ cO : ClassId} {ad : Nat → Nat} {gh : rC_gh} {de : Nat} (E : rC_X D cI cZ cO ad gh RX11 cX11_land 5 (some .int) p l s m args meth c)   : ∀ (n : Nat), ∀ (M : rv_Mem) (x1 : Int32) (x3 : Int32) (x4 : Int32), rv_M (rC_G D cI cZ cO ad gh de) (rC_A ad gh s.heap.size) p l e rm11_land s m args below meth c 0 0 (qx11_land D cI cZ cO ad gh de below args s) (f11_land_90 gh n M x1 x3 x4) 90 [some (.ref (ad 0)), some (.int x1), none, some (.int x3), some (.int x4)] [] M := by
  intro n
  induction n with
  | zero => exact fun _ _ _ _ => rv_stuck
  | succ n ih => exact b11_land_90_s E  (f11_land_90 gh n) ih
set_option maxRecDepth 100000 in
theorem b11_land_25_s {p : Program} {l : Launch} {e : Env} {s : State} {m : MethodId} {args : Array Value} {below : List Frame} {meth : Method} {c : Code} {D : va_G} {cI cZ cO : ClassId} {ad : Nat → Nat} {gh : rC_gh} {de : Nat} (E : rC_X D cI cZ cO ad gh RX11 cX11_land 5 (some .int) p l s m args meth c)   (k25 : rv_Mem → Int32 → Int32 → Int32 → Option ((Int32 × rv_Mem) ⊕ (Nat × rv_Mem))) (h25 : ∀ (M : rv_Mem) (x1 : Int32) (x3 : Int32) (x4 : Int32), rv_M (rC_G D cI cZ cO ad gh de) (rC_A ad gh s.heap.size) p l e rm11_land s m args below meth c 0 0 (qx11_land D cI cZ cO ad gh de below args s) (k25 M x1 x3 x4) 25 [some (.ref (ad 0)), some (.int x1), none, some (.int x3), some (.int x4)] [] M) : ∀ (M : rv_Mem) (x1 : Int32) (x3 : Int32) (x4 : Int32), rv_M (rC_G D cI cZ cO ad gh de) (rC_A ad gh s.heap.size) p l e rm11_land s m args below meth c 0 0 (qx11_land D cI cZ cO ad gh de below args s) (f11_land_25_s gh k25 M x1 x3 x4) 25 [some (.ref (ad 0)), some (.int x1), none, some (.int x3), some (.int x4)] [] M := by
  intro M x1 x3 x4
  unfold f11_land_25_s
  refine rv_iload (q := 27) E.1.x dX11_land_25 rfl rfl ?_
  refine rv_aload_n (q := 28) E.1.x dX11_land_27 rfl rfl ?_
  refine rC_getX11 (q := 31) E.1 0 5 wfX11_49 rfl (Nat.le_of_ble_eq_true rfl) ⟨rfl, rfl⟩ rfl dX11_land_28 rfl ?_
  refine rC_lsz (q := 34) E.1 0 (by decide) (cJ_size E.1.2.2.1 0) gX11_155 ⟨Nat.le_of_ble_eq_true rfl, Nat.le_of_ble_eq_true rfl⟩ ⟨Nat.le_of_ble_eq_true rfl, Nat.le_of_ble_eq_true rfl⟩ rfl (Nat.le_of_ble_eq_true rfl) dX11_land_31 rfl ?_
  refine rv_icmp_ge (q := 37) (tgt := 74) E.1.x dX11_land_34 (by decide) rfl ?_ ?_
  · refine rv_iload_n (q := 38) E.1.x dX11_land_37 rfl rfl ?_
    refine rv_iload (q := 40) E.1.x dX11_land_38 rfl rfl ?_
    refine rv_b1 (fun r2 e1 => ?_)
    refine rC_calls (q := 43) E.1 (c11_isIn e1) gX11_463 hX11_isIn ⟨rfl, rfl⟩ ⟨Nat.le_of_ble_eq_true rfl, Nat.le_of_ble_eq_true rfl⟩ ⟨Nat.le_of_ble_eq_true rfl, Nat.le_of_ble_eq_true rfl⟩ rfl rfl rfl (Nat.le_of_ble_eq_true rfl) dX11_land_40 rfl ?_
    refine rv_ifz_eq (q := 46) (tgt := 68) E.1.x dX11_land_43 (by decide) rfl ?_ ?_
    · refine rv_aload_n (q := 47) E.1.x dX11_land_46 rfl rfl ?_
      refine rv_iload_n (q := 48) E.1.x dX11_land_47 rfl rfl ?_
      refine rv_aload_n (q := 49) E.1.x dX11_land_48 rfl rfl ?_
      refine rC_getX11 (q := 52) E.1 0 5 wfX11_49 rfl (Nat.le_of_ble_eq_true rfl) ⟨rfl, rfl⟩ rfl dX11_land_49 rfl ?_
      refine rv_iload (q := 54) E.1.x dX11_land_52 rfl rfl ?_
      refine rC_lgt (q := 57) E.1 0 (by decide) (cJ_get E.1.2.2.1 0) ⟨rfl, rfl⟩ gX11_223 ⟨Nat.le_of_ble_eq_true rfl, Nat.le_of_ble_eq_true rfl⟩ ⟨Nat.le_of_ble_eq_true rfl, Nat.le_of_ble_eq_true rfl⟩ rfl (Nat.le_of_ble_eq_true rfl) dX11_land_54 rfl ?_
      refine rv_g (fun g3 => ?_)
      refine rC_cstX0 (q := 60) E.1 (rC_at_of g3) wxX11_165 dX11_land_57 rfl ?_
      refine rv_b1 (fun r5 e4 => ?_)
      refine rC_calliX11 (q := 63) E.1 ⟨rfl, rfl⟩ (c11_canLandIn E.1.2.2.1 e4) gX11_466 hX11_canLandIn ⟨rfl, rfl⟩ ⟨Nat.le_of_ble_eq_true rfl, Nat.le_of_ble_eq_true rfl⟩ ⟨Nat.le_of_ble_eq_true rfl, Nat.le_of_ble_eq_true rfl⟩ rfl rfl rfl (Nat.le_of_ble_eq_true rfl) dX11_land_60 rfl ?_
      refine rv_ifz_ne (q := 66) (tgt := 68) E.1.x dX11_land_63 (by decide) rfl ?_ ?_
      · refine rv_iconst (q := 67) E.1.x dX11_land_66 rv_ki0 rfl ?_
        exact rC_xiret E rfl ⟨Nat.le_of_ble_eq_true rfl, Nat.le_of_ble_eq_true rfl⟩ dX11_land_67
      · refine rv_wk [true, true, false, true, true] ?_
        exact b11_land_68 E k25 h25 M x1 x3 x4
    · refine rv_wk [true, true, false, true, true] ?_
      exact b11_land_68 E k25 h25 M x1 x3 x4
  · refine rv_aload_n (q := 75) E.1.x dX11_land_74 rfl rfl ?_
    refine rC_getX11 (q := 78) E.1 0 8 wfX11_64 rfl (Nat.le_of_ble_eq_true rfl) ⟨rfl, rfl⟩ rfl dX11_land_75 rfl ?_
    refine rv_iload_n (q := 79) E.1.x dX11_land_78 rfl rfl ?_
    refine rv_b2 (fun r7 M8 e6 => ?_)
    refine rC_calliX5 (q := 82) E.1 ⟨rfl, rfl⟩ (c5_tryAll E.1.2.2.1 e6) gX11_470 hX5_tryAll ⟨rfl, rfl⟩ ⟨Nat.le_of_ble_eq_true rfl, Nat.le_of_ble_eq_true rfl⟩ ⟨Nat.le_of_ble_eq_true rfl, Nat.le_of_ble_eq_true rfl⟩ rfl rfl rfl (Nat.le_of_ble_eq_true rfl) dX11_land_79 rfl ?_
    refine rv_ifz_ne (q := 85) (tgt := 87) E.1.x dX11_land_82 (by decide) rfl ?_ ?_
    · refine rv_iconst (q := 86) E.1.x dX11_land_85 rv_kim1 rfl ?_
      exact rC_xiret E rfl ⟨Nat.le_of_ble_eq_true rfl, Nat.le_of_ble_eq_true rfl⟩ dX11_land_86
    · refine rv_iconst (q := 88) E.1.x dX11_land_87 rv_ki0 rfl ?_
      refine rv_istore (q := 90) (lv' := [_, _, _, _, _]) E.1.x dX11_land_88 (Nat.le_of_ble_eq_true rfl) rfl rfl rfl ?_
      refine rv_wk [true, true, false, true, true] ?_
      exact b11_land_90 E rv_FU M8 x1 x3 0
theorem b11_land_25 {p : Program} {l : Launch} {e : Env} {s : State} {m : MethodId} {args : Array Value} {below : List Frame} {meth : Method} {c : Code} {D : va_G} {cI cZ cO : ClassId} {ad : Nat → Nat} {gh : rC_gh} {de : Nat} (E : rC_X D cI cZ cO ad gh RX11 cX11_land 5 (some .int) p l s m args meth c)   : ∀ (n : Nat), ∀ (M : rv_Mem) (x1 : Int32) (x3 : Int32) (x4 : Int32), rv_M (rC_G D cI cZ cO ad gh de) (rC_A ad gh s.heap.size) p l e rm11_land s m args below meth c 0 0 (qx11_land D cI cZ cO ad gh de below args s) (f11_land_25 gh n M x1 x3 x4) 25 [some (.ref (ad 0)), some (.int x1), none, some (.int x3), some (.int x4)] [] M := by
  intro n
  induction n with
  | zero => exact fun _ _ _ _ => rv_stuck
  | succ n ih => exact b11_land_25_s E  (f11_land_25 gh n) ih
set_option maxRecDepth 100000 in
theorem b11_land {p : Program} {l : Launch} {e : Env} {s : State} {m : MethodId} {args : Array Value} {below : List Frame} {meth : Method} {c : Code} {D : va_G} {cI cZ cO : ClassId} {ad : Nat → Nat} {gh : rC_gh} {de : Nat} (E : rC_X D cI cZ cO ad gh RX11 cX11_land 5 (some .int) p l s m args meth c) (M : rv_Mem) (a1 : Int32) (a2 : Int32) : rv_M (rC_G D cI cZ cO ad gh de) (rC_A ad gh s.heap.size) p l e rm11_land s m args below meth c 0 0 (qx11_land D cI cZ cO ad gh de below args s) (f11_land gh M a1 a2) 0 [some (.ref (ad 0)), some (.int a1), some (.int a2), none, none] [] M := by
  unfold f11_land
  refine rv_iload_n (q := 1) E.1.x dX11_land_0 rfl rfl ?_
  refine rv_x2r (fun r2 e1 => ?_) (fun w3 e4 => rv_tr (fun _ => trivial))
  refine rC_xSv (q := 4) E (fun _ => c11_needPerson E.2.1 E.1.2.2.1 e1) gX11_152 hX11_needPerson ⟨rfl, rfl⟩ ⟨Nat.le_of_ble_eq_true rfl, Nat.le_of_ble_eq_true rfl⟩ ⟨Nat.le_of_ble_eq_true rfl, Nat.le_of_ble_eq_true rfl⟩ rfl rfl rfl (Nat.le_of_ble_eq_true rfl) dX11_land_1 rfl ?_
  refine rv_iload_n (q := 5) E.1.x dX11_land_4 rfl rfl ?_
  refine rv_aload_n (q := 6) E.1.x dX11_land_5 rfl rfl ?_
  refine rv_iload_n (q := 7) E.1.x dX11_land_6 rfl rfl ?_
  refine rv_x2r (fun r6 e5 => ?_) (fun w7 e8 => rv_tr (fun _ => trivial))
  refine rC_xVrX11 (q := 10) E ⟨rfl, rfl⟩ (fun _ => c11_needChange E.2.1 E.1.2.2.1 e5) gX11_91 hX11_needChange ⟨rfl, rfl⟩ ⟨Nat.le_of_ble_eq_true rfl, Nat.le_of_ble_eq_true rfl⟩ ⟨Nat.le_of_ble_eq_true rfl, Nat.le_of_ble_eq_true rfl⟩ rfl rfl rfl (Nat.le_of_ble_eq_true rfl) dX11_land_7 rfl ?_
  refine rv_x2r (fun r10 e9 => ?_) (fun w11 e12 => rv_tr (fun _ => trivial))
  refine rC_xSv (q := 13) E (fun _ => c11_needOpenAndSeen E.2.1 E.1.2.2.1 e9) gX11_183 hX11_needOpenAndSeen ⟨rfl, rfl⟩ ⟨Nat.le_of_ble_eq_true rfl, Nat.le_of_ble_eq_true rfl⟩ ⟨Nat.le_of_ble_eq_true rfl, Nat.le_of_ble_eq_true rfl⟩ rfl rfl rfl (Nat.le_of_ble_eq_true rfl) dX11_land_10 rfl ?_
  refine rv_aload_n (q := 14) E.1.x dX11_land_13 rfl rfl ?_
  refine rC_getX11 (q := 17) E.1 0 8 wfX11_64 rfl (Nat.le_of_ble_eq_true rfl) ⟨rfl, rfl⟩ rfl dX11_land_14 rfl ?_
  refine rv_iload_n (q := 18) E.1.x dX11_land_17 rfl rfl ?_
  refine rv_b1 (fun r14 e13 => ?_)
  refine rC_calliX5 (q := 21) E.1 ⟨rfl, rfl⟩ (c5_groupOf E.1.2.2.1 e13) gX11_460 hX5_groupOf ⟨rfl, rfl⟩ ⟨Nat.le_of_ble_eq_true rfl, Nat.le_of_ble_eq_true rfl⟩ ⟨Nat.le_of_ble_eq_true rfl, Nat.le_of_ble_eq_true rfl⟩ rfl rfl rfl (Nat.le_of_ble_eq_true rfl) dX11_land_18 rfl ?_
  refine rv_istore_n (q := 22) (lv' := [_, _, _, _, _]) E.1.x dX11_land_21 (Nat.le_of_ble_eq_true rfl) rfl rfl rfl ?_
  refine rv_iconst (q := 23) E.1.x dX11_land_22 rv_ki0 rfl ?_
  refine rv_istore (q := 25) (lv' := [_, _, _, _, _]) E.1.x dX11_land_23 (Nat.le_of_ble_eq_true rfl) rfl rfl rfl ?_
  refine rv_wk [true, true, false, true, true] ?_
  exact b11_land_25 E rv_FU M a1 r14 0
theorem c11_land {l : Launch} {D : va_G} {cI cZ cO : ClassId} {ad : Nat → Nat} {gh : rC_gh} {de : Nat} (hfl : l.stackTraces = false) (hI : rC_I ad gh) {sz : Nat} {M : rv_Mem} {a1 : Int32} {a2 : Int32} {r : Int32} {M1 : rv_Mem} (h : f11_land gh M a1 a2 = some (.inl (r, M1))) : vx_Met l yX11_land (rv_ws yX11_land cX11_land 5 (some .int)) rm11_land (rC_Px D cI cZ cO ad gh de sz [.ref (ad 0), .int a1, .int a2] M) (rC_qi D cI cZ cO ad gh de (rC_A ad gh sz) r M1) (rC_fx (rC_A ad gh sz)) 0 0 (rC_A ad gh sz) := rC_xmet (Qc := fun A => rC_qi D cI cZ cO ad gh de A r M1) (XC := fun A => rC_fx A) hfl hI rfl (by decide) (Nat.le_of_ble_eq_true rfl) (fun p e s m args below meth c E => ⟨(qx11_land D cI cZ cO ad gh de below args s), rfl, b11_land E M a1 a2⟩) h
abbrev rmx11_land : Room := { frames := 8, cells := 1, slots := 6, locals := 195 }
def qy11_land (D : va_G) (cI cZ cO : ClassId) (ad : Nat → Nat) (gh : rC_gh) (de : Nat) (below : List Frame) (args : Array Value) (s : State) : (Int32 × rv_Mem) ⊕ (Nat × rv_Mem) → State → Prop := fun r => match r with
  | .inl _ => fun _ => True
  | .inr r => vx_MQ below (rC_fi (rC_A ad gh s.heap.size)) (rC_xc D cI cZ cO ad gh de (rC_A ad gh s.heap.size) r.1 r.2) args s 1 6 (rC_A ad gh s.heap.size)
set_option maxRecDepth 100000 in
theorem bx11_land_68 {p : Program} {l : Launch} {e : Env} {s : State} {m : MethodId} {args : Array Value} {below : List Frame} {meth : Method} {c : Code} {D : va_G} {cI cZ cO : ClassId} {ad : Nat → Nat} {gh : rC_gh} {de : Nat} (E : rC_X D cI cZ cO ad gh RX11 cX11_land 5 (some .int) p l s m args meth c) (k25 : rv_Mem → Int32 → Int32 → Int32 → Option ((Int32 × rv_Mem) ⊕ (Nat × rv_Mem))) (h25 : ∀ (M : rv_Mem) (x1 : Int32) (x3 : Int32) (x4 : Int32), rv_M (rC_G D cI cZ cO ad gh de) (rC_A ad gh s.heap.size) p l e rmx11_land s m args below meth c 0 0 (qy11_land D cI cZ cO ad gh de below args s) (k25 M x1 x3 x4) 25 [some (.ref (ad 0)), some (.int x1), none, some (.int x3), some (.int x4)] [] M) : ∀ (M : rv_Mem) (x1 : Int32) (x3 : Int32) (x4 : Int32), rv_M (rC_G D cI cZ cO ad gh de) (rC_A ad gh s.heap.size) p l e rmx11_land s m args below meth c 0 0 (qy11_land D cI cZ cO ad gh de below args s) (f11_land_68 gh k25 M x1 x3 x4) 68 [some (.ref (ad 0)), some (.int x1), none, some (.int x3), some (.int x4)] [] M := by
  intro M x1 x3 x4
  unfold f11_land_68
  refine rv_iinc (q := 71) (lv' := [_, _, _, _, _]) E.1.x dX11_land_68 rv_ki1 rfl rfl rfl rfl ?_
  refine rv_goto (q := 25) E.1.x dX11_land_71 (by decide) ?_
  refine rv_wk [true, true, false, true, true] ?_
  exact h25 M x1 x3 (x4 + 1)
set_option maxRecDepth 100000 in
theorem bx11_land_129 {p : Program} {l : Launch} {e : Env} {s : State} {m : MethodId} {args : Array Value} {below : List Frame} {meth : Method} {c : Code} {D : va_G} {cI cZ cO : ClassId} {ad : Nat → Nat} {gh : rC_gh} {de : Nat} (E : rC_X D cI cZ cO ad gh RX11 cX11_land 5 (some .int) p l s m args meth c) (k90 : rv_Mem → Int32 → Int32 → Int32 → Option ((Int32 × rv_Mem) ⊕ (Nat × rv_Mem))) (h90 : ∀ (M : rv_Mem) (x1 : Int32) (x3 : Int32) (x4 : Int32), rv_M (rC_G D cI cZ cO ad gh de) (rC_A ad gh s.heap.size) p l e rmx11_land s m args below meth c 0 0 (qy11_land D cI cZ cO ad gh de below args s) (k90 M x1 x3 x4) 90 [some (.ref (ad 0)), some (.int x1), none, some (.int x3), some (.int x4)] [] M) : ∀ (M : rv_Mem) (x1 : Int32) (x3 : Int32) (x4 : Int32), rv_M (rC_G D cI cZ cO ad gh de) (rC_A ad gh s.heap.size) p l e rmx11_land s m args below meth c 0 0 (qy11_land D cI cZ cO ad gh de below args s) (f11_land_129 gh k90 M x1 x3 x4) 129 [some (.ref (ad 0)), some (.int x1), none, some (.int x3), some (.int x4)] [] M := by
  intro M x1 x3 x4
  unfold f11_land_129
  refine rv_iinc (q := 132) (lv' := [_, _, _, _, _]) E.1.x dX11_land_129 rv_ki1 rfl rfl rfl rfl ?_
  refine rv_goto (q := 90) E.1.x dX11_land_132 (by decide) ?_
  refine rv_wk [true, true, false, true, true] ?_
  exact h90 M x1 x3 (x4 + 1)
set_option maxRecDepth 100000 in
theorem bx11_land_90_s {p : Program} {l : Launch} {e : Env} {s : State} {m : MethodId} {args : Array Value} {below : List Frame} {meth : Method} {c : Code} {D : va_G} {cI cZ cO : ClassId} {ad : Nat → Nat} {gh : rC_gh} {de : Nat} (E : rC_X D cI cZ cO ad gh RX11 cX11_land 5 (some .int) p l s m args meth c)   (k90 : rv_Mem → Int32 → Int32 → Int32 → Option ((Int32 × rv_Mem) ⊕ (Nat × rv_Mem))) (h90 : ∀ (M : rv_Mem) (x1 : Int32) (x3 : Int32) (x4 : Int32), rv_M (rC_G D cI cZ cO ad gh de) (rC_A ad gh s.heap.size) p l e rmx11_land s m args below meth c 0 0 (qy11_land D cI cZ cO ad gh de below args s) (k90 M x1 x3 x4) 90 [some (.ref (ad 0)), some (.int x1), none, some (.int x3), some (.int x4)] [] M) : ∀ (M : rv_Mem) (x1 : Int32) (x3 : Int32) (x4 : Int32), rv_M (rC_G D cI cZ cO ad gh de) (rC_A ad gh s.heap.size) p l e rmx11_land s m args below meth c 0 0 (qy11_land D cI cZ cO ad gh de below args s) (f11_land_90_s gh k90 M x1 x3 x4) 90 [some (.ref (ad 0)), some (.int x1), none, some (.int x3), some (.int x4)] [] M := by
  intro M x1 x3 x4
  unfold f11_land_90_s
  refine rv_iload (q := 92) E.1.x dX11_land_90 rfl rfl ?_
  refine rv_aload_n (q := 93) E.1.x dX11_land_92 rfl rfl ?_
  refine rC_getX11 (q := 96) E.1 0 5 wfX11_49 rfl (Nat.le_of_ble_eq_true rfl) ⟨rfl, rfl⟩ rfl dX11_land_93 rfl ?_
  refine rC_lsz (q := 99) E.1 0 (by decide) (cJ_size E.1.2.2.1 0) gX11_155 ⟨Nat.le_of_ble_eq_true rfl, Nat.le_of_ble_eq_true rfl⟩ ⟨Nat.le_of_ble_eq_true rfl, Nat.le_of_ble_eq_true rfl⟩ rfl (Nat.le_of_ble_eq_true rfl) dX11_land_96 rfl ?_
  refine rv_icmp_ge (q := 102) (tgt := 135) E.1.x dX11_land_99 (by decide) rfl ?_ ?_
  · refine rv_iload_n (q := 103) E.1.x dX11_land_102 rfl rfl ?_
    refine rv_iload (q := 105) E.1.x dX11_land_103 rfl rfl ?_
    refine rv_b1 (fun r2 e1 => ?_)
    refine rC_calls (q := 108) E.1 (c11_isIn e1) gX11_463 hX11_isIn ⟨rfl, rfl⟩ ⟨Nat.le_of_ble_eq_true rfl, Nat.le_of_ble_eq_true rfl⟩ ⟨Nat.le_of_ble_eq_true rfl, Nat.le_of_ble_eq_true rfl⟩ rfl rfl rfl (Nat.le_of_ble_eq_true rfl) dX11_land_105 rfl ?_
    refine rv_ifz_eq (q := 111) (tgt := 129) E.1.x dX11_land_108 (by decide) rfl ?_ ?_
    · refine rv_aload_n (q := 112) E.1.x dX11_land_111 rfl rfl ?_
      refine rv_aload_n (q := 113) E.1.x dX11_land_112 rfl rfl ?_
      refine rC_getX11 (q := 116) E.1 0 5 wfX11_49 rfl (Nat.le_of_ble_eq_true rfl) ⟨rfl, rfl⟩ rfl dX11_land_113 rfl ?_
      refine rv_iload (q := 118) E.1.x dX11_land_116 rfl rfl ?_
      refine rC_lgt (q := 121) E.1 0 (by decide) (cJ_get E.1.2.2.1 0) ⟨rfl, rfl⟩ gX11_223 ⟨Nat.le_of_ble_eq_true rfl, Nat.le_of_ble_eq_true rfl⟩ ⟨Nat.le_of_ble_eq_true rfl, Nat.le_of_ble_eq_true rfl⟩ rfl (Nat.le_of_ble_eq_true rfl) dX11_land_118 rfl ?_
      refine rv_g (fun g3 => ?_)
      refine rC_cstX0 (q := 124) E.1 (rC_at_of g3) wxX11_165 dX11_land_121 rfl ?_
      refine rv_iconst (q := 125) E.1.x dX11_land_124 rv_ki1 rfl ?_
      refine rv_iload_n (q := 126) E.1.x dX11_land_125 rfl rfl ?_
      refine rv_b1 (fun M5 e4 => ?_)
      refine rC_callvX11 (q := 129) E.1 ⟨rfl, rfl⟩ (c11_endChange E.1.2.2.1 e4) gX11_219 hX11_endChange ⟨rfl, rfl⟩ ⟨Nat.le_of_ble_eq_true rfl, Nat.le_of_ble_eq_true rfl⟩ ⟨Nat.le_of_ble_eq_true rfl, Nat.le_of_ble_eq_true rfl⟩ rfl rfl rfl (Nat.le_of_ble_eq_true rfl) dX11_land_126 rfl ?_
      refine rv_wk [true, true, false, true, true] ?_
      exact bx11_land_129 E k90 h90 M5 x1 x3 x4
    · refine rv_wk [true, true, false, true, true] ?_
      exact bx11_land_129 E k90 h90 M x1 x3 x4
  · refine rv_iload_n (q := 136) E.1.x dX11_land_135 rfl rfl ?_
    refine rv_b1 (fun r7 e6 => ?_)
    refine rC_calls (q := 139) E.1 (cJ_bits e6) gX11_384 hJ6_bitCount_0f7a4 ⟨rfl, rfl⟩ ⟨Nat.le_of_ble_eq_true rfl, Nat.le_of_ble_eq_true rfl⟩ ⟨Nat.le_of_ble_eq_true rfl, Nat.le_of_ble_eq_true rfl⟩ rfl rfl rfl (Nat.le_of_ble_eq_true rfl) dX11_land_136 rfl ?_
    exact rv_tr (fun _ => trivial)
theorem bx11_land_90 {p : Program} {l : Launch} {e : Env} {s : State} {m : MethodId} {args : Array Value} {below : List Frame} {meth : Method} {c : Code} {D : va_G} {cI cZ cO : ClassId} {ad : Nat → Nat} {gh : rC_gh} {de : Nat} (E : rC_X D cI cZ cO ad gh RX11 cX11_land 5 (some .int) p l s m args meth c)   : ∀ (n : Nat), ∀ (M : rv_Mem) (x1 : Int32) (x3 : Int32) (x4 : Int32), rv_M (rC_G D cI cZ cO ad gh de) (rC_A ad gh s.heap.size) p l e rmx11_land s m args below meth c 0 0 (qy11_land D cI cZ cO ad gh de below args s) (f11_land_90 gh n M x1 x3 x4) 90 [some (.ref (ad 0)), some (.int x1), none, some (.int x3), some (.int x4)] [] M := by
  intro n
  induction n with
  | zero => exact fun _ _ _ _ => rv_stuck
  | succ n ih => exact bx11_land_90_s E  (f11_land_90 gh n) ih
set_option maxRecDepth 100000 in
theorem bx11_land_25_s {p : Program} {l : Launch} {e : Env} {s : State} {m : MethodId} {args : Array Value} {below : List Frame} {meth : Method} {c : Code} {D : va_G} {cI cZ cO : ClassId} {ad : Nat → Nat} {gh : rC_gh} {de : Nat} (E : rC_X D cI cZ cO ad gh RX11 cX11_land 5 (some .int) p l s m args meth c)   (k25 : rv_Mem → Int32 → Int32 → Int32 → Option ((Int32 × rv_Mem) ⊕ (Nat × rv_Mem))) (h25 : ∀ (M : rv_Mem) (x1 : Int32) (x3 : Int32) (x4 : Int32), rv_M (rC_G D cI cZ cO ad gh de) (rC_A ad gh s.heap.size) p l e rmx11_land s m args below meth c 0 0 (qy11_land D cI cZ cO ad gh de below args s) (k25 M x1 x3 x4) 25 [some (.ref (ad 0)), some (.int x1), none, some (.int x3), some (.int x4)] [] M) : ∀ (M : rv_Mem) (x1 : Int32) (x3 : Int32) (x4 : Int32), rv_M (rC_G D cI cZ cO ad gh de) (rC_A ad gh s.heap.size) p l e rmx11_land s m args below meth c 0 0 (qy11_land D cI cZ cO ad gh de below args s) (f11_land_25_s gh k25 M x1 x3 x4) 25 [some (.ref (ad 0)), some (.int x1), none, some (.int x3), some (.int x4)] [] M := by
  intro M x1 x3 x4
  unfold f11_land_25_s
  refine rv_iload (q := 27) E.1.x dX11_land_25 rfl rfl ?_
  refine rv_aload_n (q := 28) E.1.x dX11_land_27 rfl rfl ?_
  refine rC_getX11 (q := 31) E.1 0 5 wfX11_49 rfl (Nat.le_of_ble_eq_true rfl) ⟨rfl, rfl⟩ rfl dX11_land_28 rfl ?_
  refine rC_lsz (q := 34) E.1 0 (by decide) (cJ_size E.1.2.2.1 0) gX11_155 ⟨Nat.le_of_ble_eq_true rfl, Nat.le_of_ble_eq_true rfl⟩ ⟨Nat.le_of_ble_eq_true rfl, Nat.le_of_ble_eq_true rfl⟩ rfl (Nat.le_of_ble_eq_true rfl) dX11_land_31 rfl ?_
  refine rv_icmp_ge (q := 37) (tgt := 74) E.1.x dX11_land_34 (by decide) rfl ?_ ?_
  · refine rv_iload_n (q := 38) E.1.x dX11_land_37 rfl rfl ?_
    refine rv_iload (q := 40) E.1.x dX11_land_38 rfl rfl ?_
    refine rv_b1 (fun r2 e1 => ?_)
    refine rC_calls (q := 43) E.1 (c11_isIn e1) gX11_463 hX11_isIn ⟨rfl, rfl⟩ ⟨Nat.le_of_ble_eq_true rfl, Nat.le_of_ble_eq_true rfl⟩ ⟨Nat.le_of_ble_eq_true rfl, Nat.le_of_ble_eq_true rfl⟩ rfl rfl rfl (Nat.le_of_ble_eq_true rfl) dX11_land_40 rfl ?_
    refine rv_ifz_eq (q := 46) (tgt := 68) E.1.x dX11_land_43 (by decide) rfl ?_ ?_
    · refine rv_aload_n (q := 47) E.1.x dX11_land_46 rfl rfl ?_
      refine rv_iload_n (q := 48) E.1.x dX11_land_47 rfl rfl ?_
      refine rv_aload_n (q := 49) E.1.x dX11_land_48 rfl rfl ?_
      refine rC_getX11 (q := 52) E.1 0 5 wfX11_49 rfl (Nat.le_of_ble_eq_true rfl) ⟨rfl, rfl⟩ rfl dX11_land_49 rfl ?_
      refine rv_iload (q := 54) E.1.x dX11_land_52 rfl rfl ?_
      refine rC_lgt (q := 57) E.1 0 (by decide) (cJ_get E.1.2.2.1 0) ⟨rfl, rfl⟩ gX11_223 ⟨Nat.le_of_ble_eq_true rfl, Nat.le_of_ble_eq_true rfl⟩ ⟨Nat.le_of_ble_eq_true rfl, Nat.le_of_ble_eq_true rfl⟩ rfl (Nat.le_of_ble_eq_true rfl) dX11_land_54 rfl ?_
      refine rv_g (fun g3 => ?_)
      refine rC_cstX0 (q := 60) E.1 (rC_at_of g3) wxX11_165 dX11_land_57 rfl ?_
      refine rv_b1 (fun r5 e4 => ?_)
      refine rC_calliX11 (q := 63) E.1 ⟨rfl, rfl⟩ (c11_canLandIn E.1.2.2.1 e4) gX11_466 hX11_canLandIn ⟨rfl, rfl⟩ ⟨Nat.le_of_ble_eq_true rfl, Nat.le_of_ble_eq_true rfl⟩ ⟨Nat.le_of_ble_eq_true rfl, Nat.le_of_ble_eq_true rfl⟩ rfl rfl rfl (Nat.le_of_ble_eq_true rfl) dX11_land_60 rfl ?_
      refine rv_ifz_ne (q := 66) (tgt := 68) E.1.x dX11_land_63 (by decide) rfl ?_ ?_
      · refine rv_iconst (q := 67) E.1.x dX11_land_66 rv_ki0 rfl ?_
        exact rv_tr (fun _ => trivial)
      · refine rv_wk [true, true, false, true, true] ?_
        exact bx11_land_68 E k25 h25 M x1 x3 x4
    · refine rv_wk [true, true, false, true, true] ?_
      exact bx11_land_68 E k25 h25 M x1 x3 x4
  · refine rv_aload_n (q := 75) E.1.x dX11_land_74 rfl rfl ?_
    refine rC_getX11 (q := 78) E.1 0 8 wfX11_64 rfl (Nat.le_of_ble_eq_true rfl) ⟨rfl, rfl⟩ rfl dX11_land_75 rfl ?_
    refine rv_iload_n (q := 79) E.1.x dX11_land_78 rfl rfl ?_
    refine rv_b2 (fun r7 M8 e6 => ?_)
    refine rC_calliX5 (q := 82) E.1 ⟨rfl, rfl⟩ (c5_tryAll E.1.2.2.1 e6) gX11_470 hX5_tryAll ⟨rfl, rfl⟩ ⟨Nat.le_of_ble_eq_true rfl, Nat.le_of_ble_eq_true rfl⟩ ⟨Nat.le_of_ble_eq_true rfl, Nat.le_of_ble_eq_true rfl⟩ rfl rfl rfl (Nat.le_of_ble_eq_true rfl) dX11_land_79 rfl ?_
    refine rv_ifz_ne (q := 85) (tgt := 87) E.1.x dX11_land_82 (by decide) rfl ?_ ?_
    · refine rv_iconst (q := 86) E.1.x dX11_land_85 rv_kim1 rfl ?_
      exact rv_tr (fun _ => trivial)
    · refine rv_iconst (q := 88) E.1.x dX11_land_87 rv_ki0 rfl ?_
      refine rv_istore (q := 90) (lv' := [_, _, _, _, _]) E.1.x dX11_land_88 (Nat.le_of_ble_eq_true rfl) rfl rfl rfl ?_
      refine rv_wk [true, true, false, true, true] ?_
      exact bx11_land_90 E rv_FU M8 x1 x3 0
theorem bx11_land_25 {p : Program} {l : Launch} {e : Env} {s : State} {m : MethodId} {args : Array Value} {below : List Frame} {meth : Method} {c : Code} {D : va_G} {cI cZ cO : ClassId} {ad : Nat → Nat} {gh : rC_gh} {de : Nat} (E : rC_X D cI cZ cO ad gh RX11 cX11_land 5 (some .int) p l s m args meth c)   : ∀ (n : Nat), ∀ (M : rv_Mem) (x1 : Int32) (x3 : Int32) (x4 : Int32), rv_M (rC_G D cI cZ cO ad gh de) (rC_A ad gh s.heap.size) p l e rmx11_land s m args below meth c 0 0 (qy11_land D cI cZ cO ad gh de below args s) (f11_land_25 gh n M x1 x3 x4) 25 [some (.ref (ad 0)), some (.int x1), none, some (.int x3), some (.int x4)] [] M := by
  intro n
  induction n with
  | zero => exact fun _ _ _ _ => rv_stuck
  | succ n ih => exact bx11_land_25_s E  (f11_land_25 gh n) ih
set_option maxRecDepth 100000 in
theorem bx11_land {p : Program} {l : Launch} {e : Env} {s : State} {m : MethodId} {args : Array Value} {below : List Frame} {meth : Method} {c : Code} {D : va_G} {cI cZ cO : ClassId} {ad : Nat → Nat} {gh : rC_gh} {de : Nat} (E : rC_X D cI cZ cO ad gh RX11 cX11_land 5 (some .int) p l s m args meth c) (M : rv_Mem) (a1 : Int32) (a2 : Int32) : rv_M (rC_G D cI cZ cO ad gh de) (rC_A ad gh s.heap.size) p l e rmx11_land s m args below meth c 0 0 (qy11_land D cI cZ cO ad gh de below args s) (f11_land gh M a1 a2) 0 [some (.ref (ad 0)), some (.int a1), some (.int a2), none, none] [] M := by
  unfold f11_land
  refine rv_iload_n (q := 1) E.1.x dX11_land_0 rfl rfl ?_
  refine rv_x2r (fun r2 e1 => ?_) (fun w3 e4 => rC_ySv E (fun _ => c11_needPerson_x E.2.1 E.1.2.2.1 e4) rfl gX11_152 hX11_needPerson ⟨rfl, rfl⟩ ⟨Nat.le_of_ble_eq_true rfl, Nat.le_of_ble_eq_true rfl⟩ ⟨Nat.le_of_ble_eq_true rfl, Nat.le_of_ble_eq_true rfl⟩ rfl rfl rfl (Nat.le_of_ble_eq_true rfl) dX11_land_1 ⟨Nat.le_of_ble_eq_true rfl, Nat.le_of_ble_eq_true rfl⟩)
  refine rC_xSv (q := 4) E (fun _ => c11_needPerson E.2.1 E.1.2.2.1 e1) gX11_152 hX11_needPerson ⟨rfl, rfl⟩ ⟨Nat.le_of_ble_eq_true rfl, Nat.le_of_ble_eq_true rfl⟩ ⟨Nat.le_of_ble_eq_true rfl, Nat.le_of_ble_eq_true rfl⟩ rfl rfl rfl (Nat.le_of_ble_eq_true rfl) dX11_land_1 rfl ?_
  refine rv_iload_n (q := 5) E.1.x dX11_land_4 rfl rfl ?_
  refine rv_aload_n (q := 6) E.1.x dX11_land_5 rfl rfl ?_
  refine rv_iload_n (q := 7) E.1.x dX11_land_6 rfl rfl ?_
  refine rv_x2r (fun r6 e5 => ?_) (fun w7 e8 => rC_yVrX11 E ⟨rfl, rfl⟩ (fun _ => c11_needChange_x E.2.1 E.1.2.2.1 e8) rfl gX11_91 hX11_needChange ⟨rfl, rfl⟩ ⟨Nat.le_of_ble_eq_true rfl, Nat.le_of_ble_eq_true rfl⟩ ⟨Nat.le_of_ble_eq_true rfl, Nat.le_of_ble_eq_true rfl⟩ rfl rfl rfl (Nat.le_of_ble_eq_true rfl) dX11_land_7 ⟨Nat.le_of_ble_eq_true rfl, Nat.le_of_ble_eq_true rfl⟩)
  refine rC_xVrX11 (q := 10) E ⟨rfl, rfl⟩ (fun _ => c11_needChange E.2.1 E.1.2.2.1 e5) gX11_91 hX11_needChange ⟨rfl, rfl⟩ ⟨Nat.le_of_ble_eq_true rfl, Nat.le_of_ble_eq_true rfl⟩ ⟨Nat.le_of_ble_eq_true rfl, Nat.le_of_ble_eq_true rfl⟩ rfl rfl rfl (Nat.le_of_ble_eq_true rfl) dX11_land_7 rfl ?_
  refine rv_x2r (fun r10 e9 => ?_) (fun w11 e12 => rC_ySv E (fun _ => c11_needOpenAndSeen_x E.2.1 E.1.2.2.1 e12) rfl gX11_183 hX11_needOpenAndSeen ⟨rfl, rfl⟩ ⟨Nat.le_of_ble_eq_true rfl, Nat.le_of_ble_eq_true rfl⟩ ⟨Nat.le_of_ble_eq_true rfl, Nat.le_of_ble_eq_true rfl⟩ rfl rfl rfl (Nat.le_of_ble_eq_true rfl) dX11_land_10 ⟨Nat.le_of_ble_eq_true rfl, Nat.le_of_ble_eq_true rfl⟩)
  refine rC_xSv (q := 13) E (fun _ => c11_needOpenAndSeen E.2.1 E.1.2.2.1 e9) gX11_183 hX11_needOpenAndSeen ⟨rfl, rfl⟩ ⟨Nat.le_of_ble_eq_true rfl, Nat.le_of_ble_eq_true rfl⟩ ⟨Nat.le_of_ble_eq_true rfl, Nat.le_of_ble_eq_true rfl⟩ rfl rfl rfl (Nat.le_of_ble_eq_true rfl) dX11_land_10 rfl ?_
  refine rv_aload_n (q := 14) E.1.x dX11_land_13 rfl rfl ?_
  refine rC_getX11 (q := 17) E.1 0 8 wfX11_64 rfl (Nat.le_of_ble_eq_true rfl) ⟨rfl, rfl⟩ rfl dX11_land_14 rfl ?_
  refine rv_iload_n (q := 18) E.1.x dX11_land_17 rfl rfl ?_
  refine rv_b1 (fun r14 e13 => ?_)
  refine rC_calliX5 (q := 21) E.1 ⟨rfl, rfl⟩ (c5_groupOf E.1.2.2.1 e13) gX11_460 hX5_groupOf ⟨rfl, rfl⟩ ⟨Nat.le_of_ble_eq_true rfl, Nat.le_of_ble_eq_true rfl⟩ ⟨Nat.le_of_ble_eq_true rfl, Nat.le_of_ble_eq_true rfl⟩ rfl rfl rfl (Nat.le_of_ble_eq_true rfl) dX11_land_18 rfl ?_
  refine rv_istore_n (q := 22) (lv' := [_, _, _, _, _]) E.1.x dX11_land_21 (Nat.le_of_ble_eq_true rfl) rfl rfl rfl ?_
  refine rv_iconst (q := 23) E.1.x dX11_land_22 rv_ki0 rfl ?_
  refine rv_istore (q := 25) (lv' := [_, _, _, _, _]) E.1.x dX11_land_23 (Nat.le_of_ble_eq_true rfl) rfl rfl rfl ?_
  refine rv_wk [true, true, false, true, true] ?_
  exact bx11_land_25 E rv_FU M a1 r14 0
theorem c11_land_x {l : Launch} {D : va_G} {cI cZ cO : ClassId} {ad : Nat → Nat} {gh : rC_gh} {de : Nat} (hfl : l.stackTraces = false) (hI : rC_I ad gh) {sz : Nat} {M : rv_Mem} {a1 : Int32} {a2 : Int32} {x : Nat} {M1 : rv_Mem} (h : f11_land gh M a1 a2 = some (.inr (x, M1))) : vx_Met l yX11_land (rv_ws yX11_land cX11_land 5 (some .int)) rmx11_land (rC_Px D cI cZ cO ad gh de sz [.ref (ad 0), .int a1, .int a2] M) (rC_fi (rC_A ad gh sz)) (rC_xc D cI cZ cO ad gh de (rC_A ad gh sz) x M1) 1 6 (rC_A ad gh sz) := rC_xmet (Qc := fun A => rC_fi A) (XC := fun A => rC_xc D cI cZ cO ad gh de A x M1) hfl hI rfl (by decide) (Nat.le_of_ble_eq_true rfl) (fun p e s m args below meth c E => ⟨(qy11_land D cI cZ cO ad gh de below args s), rfl, bx11_land E M a1 a2⟩) h
abbrev rm11_addReviewer : Room := { frames := 7, cells := 0, slots := 0, locals := 122 }
def qx11_addReviewer (D : va_G) (cI cZ cO : ClassId) (ad : Nat → Nat) (gh : rC_gh) (de : Nat) (below : List Frame) (args : Array Value) (s : State) : (Bool × rv_Mem) ⊕ (Nat × rv_Mem) → State → Prop := fun r => match r with
  | .inl r => vx_MQ below (rC_qi D cI cZ cO ad gh de (rC_A ad gh s.heap.size) (rv_i r.1) r.2) (rC_fx (rC_A ad gh s.heap.size)) args s 0 0 (rC_A ad gh s.heap.size)
  | .inr _ => fun _ => True
set_option maxRecDepth 100000 in
theorem b11_addReviewer_52 {p : Program} {l : Launch} {e : Env} {s : State} {m : MethodId} {args : Array Value} {below : List Frame} {meth : Method} {c : Code} {D : va_G} {cI cZ cO : ClassId} {ad : Nat → Nat} {gh : rC_gh} {de : Nat} (E : rC_X D cI cZ cO ad gh RX11 cX11_addReviewer 5 (some .boolean) p l s m args meth c)   : ∀ (M : rv_Mem) (x1 : Int32) (x3 : Nat) (s0 : Bool), rv_M (rC_G D cI cZ cO ad gh de) (rC_A ad gh s.heap.size) p l e rm11_addReviewer s m args below meth c 0 0 (qx11_addReviewer D cI cZ cO ad gh de below args s) (f11_addReviewer_52 gh M x1 x3 s0) 52 [none, some (.int x1), none, some (.ref (ad x3)), none] [.int (rv_i s0)] M := by
  intro M x1 x3 s0
  unfold f11_addReviewer_52
  refine rv_istore (q := 54) (lv' := [_, _, _, _, _]) E.1.x dX11_addReviewer_52 (Nat.le_of_ble_eq_true rfl) rfl rfl rfl ?_
  refine rv_aload_n (q := 55) E.1.x dX11_addReviewer_54 rfl rfl ?_
  refine rv_dup (q := 56) E.1.x dX11_addReviewer_55 rfl rfl ?_
  refine rv_g (fun g1 => ?_)
  refine rC_getX0 (q := 59) E.1 x3 9 wfX11_253 rfl (Nat.le_of_ble_eq_true rfl) (rC_at_of g1) rfl dX11_addReviewer_56 rfl ?_
  refine rv_iconst (q := 60) E.1.x dX11_addReviewer_59 rv_ki1 rfl ?_
  refine rv_iload_n (q := 61) E.1.x dX11_addReviewer_60 rfl rfl ?_
  refine rv_ishl (q := 62) E.1.x dX11_addReviewer_61 rfl ?_
  refine rv_ior (q := 63) E.1.x dX11_addReviewer_62 rfl ?_
  refine rC_putX0 (q := 66) E.1 x3 9 wfX11_253 rfl (Nat.le_of_ble_eq_true rfl) (rC_at_of g1) rfl ⟨rfl, rfl⟩ dX11_addReviewer_63 rfl ?_
  refine rv_ltm (fun M2 => ?_)
  refine rv_aload_n (q := 67) E.1.x dX11_addReviewer_66 rfl rfl ?_
  refine rv_iconst (q := 68) E.1.x dX11_addReviewer_67 rv_ki1 rfl ?_
  refine rv_iload_n (q := 69) E.1.x dX11_addReviewer_68 rfl rfl ?_
  refine rv_ishl (q := 70) E.1.x dX11_addReviewer_69 rfl ?_
  refine rv_b1 (fun M4 e3 => ?_)
  refine rC_callvX0 (q := 73) E.1 (rC_at_of g1) (c0_giveTurns E.1.2.2.1 e3) gX11_478 hX0_giveTurns ⟨rfl, rfl⟩ ⟨Nat.le_of_ble_eq_true rfl, Nat.le_of_ble_eq_true rfl⟩ ⟨Nat.le_of_ble_eq_true rfl, Nat.le_of_ble_eq_true rfl⟩ rfl rfl rfl (Nat.le_of_ble_eq_true rfl) dX11_addReviewer_70 rfl ?_
  refine rv_iload (q := 75) E.1.x dX11_addReviewer_73 rfl rfl ?_
  exact rC_xzret E s0 rfl ⟨Nat.le_of_ble_eq_true rfl, Nat.le_of_ble_eq_true rfl⟩ dX11_addReviewer_75
set_option maxRecDepth 100000 in
theorem b11_addReviewer {p : Program} {l : Launch} {e : Env} {s : State} {m : MethodId} {args : Array Value} {below : List Frame} {meth : Method} {c : Code} {D : va_G} {cI cZ cO : ClassId} {ad : Nat → Nat} {gh : rC_gh} {de : Nat} (E : rC_X D cI cZ cO ad gh RX11 cX11_addReviewer 5 (some .boolean) p l s m args meth c) (M : rv_Mem) (a1 : Int32) (a2 : Int32) : rv_M (rC_G D cI cZ cO ad gh de) (rC_A ad gh s.heap.size) p l e rm11_addReviewer s m args below meth c 0 0 (qx11_addReviewer D cI cZ cO ad gh de below args s) (f11_addReviewer gh M a1 a2) 0 [some (.ref (ad 0)), some (.int a1), some (.int a2), none, none] [] M := by
  unfold f11_addReviewer
  refine rv_iload_n (q := 1) E.1.x dX11_addReviewer_0 rfl rfl ?_
  refine rv_x2r (fun r2 e1 => ?_) (fun w3 e4 => rv_tr (fun _ => trivial))
  refine rC_xSv (q := 4) E (fun _ => c11_needPerson E.2.1 E.1.2.2.1 e1) gX11_152 hX11_needPerson ⟨rfl, rfl⟩ ⟨Nat.le_of_ble_eq_true rfl, Nat.le_of_ble_eq_true rfl⟩ ⟨Nat.le_of_ble_eq_true rfl, Nat.le_of_ble_eq_true rfl⟩ rfl rfl rfl (Nat.le_of_ble_eq_true rfl) dX11_addReviewer_1 rfl ?_
  refine rv_aload_n (q := 5) E.1.x dX11_addReviewer_4 rfl rfl ?_
  refine rv_iload_n (q := 6) E.1.x dX11_addReviewer_5 rfl rfl ?_
  refine rv_x2r (fun r6 e5 => ?_) (fun w7 e8 => rv_tr (fun _ => trivial))
  refine rC_xVrX11 (q := 9) E ⟨rfl, rfl⟩ (fun _ => c11_needChange E.2.1 E.1.2.2.1 e5) gX11_91 hX11_needChange ⟨rfl, rfl⟩ ⟨Nat.le_of_ble_eq_true rfl, Nat.le_of_ble_eq_true rfl⟩ ⟨Nat.le_of_ble_eq_true rfl, Nat.le_of_ble_eq_true rfl⟩ rfl rfl rfl (Nat.le_of_ble_eq_true rfl) dX11_addReviewer_6 rfl ?_
  refine rv_astore_n (q := 10) (lv' := [_, _, _, _, _]) E.1.x dX11_addReviewer_9 (Nat.le_of_ble_eq_true rfl) rfl rfl rfl ?_
  refine rv_aload_n (q := 11) E.1.x dX11_addReviewer_10 rfl rfl ?_
  refine rv_g (fun g9 => ?_)
  refine rC_getX0 (q := 14) E.1 r6 5 wfX11_227 rfl (Nat.le_of_ble_eq_true rfl) (rC_at_of g9) rfl dX11_addReviewer_11 rfl ?_
  refine rv_if_ne (q := 17) (tgt := 25) E.1.x dX11_addReviewer_14 (by decide) rfl ?_ ?_
  · refine rv_aload_n (q := 18) E.1.x dX11_addReviewer_17 rfl rfl ?_
    refine rC_getX0 (q := 21) E.1 r6 1 wfX11_473 rfl (Nat.le_of_ble_eq_true rfl) (rC_at_of g9) rfl dX11_addReviewer_18 rfl ?_
    refine rv_iload_n (q := 22) E.1.x dX11_addReviewer_21 rfl rfl ?_
    refine rv_icmp_ne (q := 25) (tgt := 36) E.1.x dX11_addReviewer_22 (by decide) rfl ?_ ?_
    · exact rv_tr (fun _ => trivial)
    · refine rv_aload_n (q := 37) E.1.x dX11_addReviewer_36 rfl rfl ?_
      refine rC_getX0 (q := 40) E.1 r6 9 wfX11_253 rfl (Nat.le_of_ble_eq_true rfl) (rC_at_of g9) rfl dX11_addReviewer_37 rfl ?_
      refine rv_iload_n (q := 41) E.1.x dX11_addReviewer_40 rfl rfl ?_
      refine rv_b1 (fun r11 e10 => ?_)
      refine rC_calls (q := 44) E.1 (c11_isIn e10) gX11_463 hX11_isIn ⟨rfl, rfl⟩ ⟨Nat.le_of_ble_eq_true rfl, Nat.le_of_ble_eq_true rfl⟩ ⟨Nat.le_of_ble_eq_true rfl, Nat.le_of_ble_eq_true rfl⟩ rfl rfl rfl (Nat.le_of_ble_eq_true rfl) dX11_addReviewer_41 rfl ?_
      refine rv_ifz_ne (q := 47) (tgt := 51) E.1.x dX11_addReviewer_44 (by decide) rfl ?_ ?_
      · refine rv_iconst (q := 48) E.1.x dX11_addReviewer_47 rv_ki1 rfl ?_
        refine rv_goto (q := 52) E.1.x dX11_addReviewer_48 (by decide) ?_
        refine rv_wk [false, true, false, true, false] ?_
        exact b11_addReviewer_52 E M a1 r6 true
      · refine rv_iconst (q := 52) E.1.x dX11_addReviewer_51 rv_ki0 rfl ?_
        refine rv_wk [false, true, false, true, false] ?_
        exact b11_addReviewer_52 E M a1 r6 false
  · exact rv_tr (fun _ => trivial)
theorem c11_addReviewer {l : Launch} {D : va_G} {cI cZ cO : ClassId} {ad : Nat → Nat} {gh : rC_gh} {de : Nat} (hfl : l.stackTraces = false) (hI : rC_I ad gh) {sz : Nat} {M : rv_Mem} {a1 : Int32} {a2 : Int32} {r : Bool} {M1 : rv_Mem} (h : f11_addReviewer gh M a1 a2 = some (.inl (r, M1))) : vx_Met l yX11_addReviewer (rv_ws yX11_addReviewer cX11_addReviewer 5 (some .boolean)) rm11_addReviewer (rC_Px D cI cZ cO ad gh de sz [.ref (ad 0), .int a1, .int a2] M) (rC_qi D cI cZ cO ad gh de (rC_A ad gh sz) (rv_i r) M1) (rC_fx (rC_A ad gh sz)) 0 0 (rC_A ad gh sz) := rC_xmet (Qc := fun A => rC_qi D cI cZ cO ad gh de A (rv_i r) M1) (XC := fun A => rC_fx A) hfl hI rfl (by decide) (Nat.le_of_ble_eq_true rfl) (fun p e s m args below meth c E => ⟨(qx11_addReviewer D cI cZ cO ad gh de below args s), rfl, b11_addReviewer E M a1 a2⟩) h
