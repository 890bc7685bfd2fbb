abbrev rm12_publish : Room := { frames := 9, cells := 0, slots := 0, locals := 236 }
set_option maxRecDepth 100000 in
theorem b12_publish_104 {p : Program} {l : Launch} {e : Env} {s : State} {m : MethodId} {args : Array Value} {below : List Frame} {meth : Method} {c : Code} {D : va_G} {cI cZ : ClassId} {ad : Nat → Nat} (E : rR_E D cI cZ ad cX12_publish 5 (some .int) p s m args meth c) (k52 : rv_Mem → Int32 → Int32 → Int32 → Int32 → Option (Int32 × rv_Mem)) (h52 : ∀ (M : rv_Mem) (x1 : Int32) (x2 : Int32) (x3 : Int32) (x4 : Int32), rv_M (rR_G D cI cZ ad) (rR_A ad) p l e rm12_publish s m args below meth c 0 0 (rR_qIW D cI cZ ad below args s) (k52 M x1 x2 x3 x4) 52 [some (.ref (ad 67)), some (.int x1), some (.int x2), some (.int x3), some (.int x4)] [] M) : ∀ (M : rv_Mem) (x1 : Int32) (x2 : Int32) (x3 : Int32) (x4 : Int32) (s1 : Int32) (s2 : Bool), rv_M (rR_G D cI cZ ad) (rR_A ad) p l e rm12_publish s m args below meth c 0 0 (rR_qIW D cI cZ ad below args s) (f12_publish_104 k52 M x1 x2 x3 x4 s1 s2) 104 [some (.ref (ad 67)), some (.int x1), some (.int x2), some (.int x3), some (.int x4)] [.int (rv_i s2), .int s1, .ref (ad 32)] M := by
  intro M x1 x2 x3 x4 s1 s2
  unfold f12_publish_104
  refine rR_zast (q := 105) (n := 60) E s2 (Nat.le_of_ble_eq_true rfl) rfl rfl dX12_publish_104 rfl ?_
  refine rv_ltm (fun M1 => ?_)
  refine rv_iinc (q := 108) (lv' := [_, _, _, _, _]) E.x dX12_publish_105 rv_ki1 rfl rfl rfl rfl ?_
  refine rv_goto (q := 52) E.x dX12_publish_108 (by decide) ?_
  refine rv_wk [true, true, true, true, true] ?_
  exact h52 M1 x1 x2 x3 (x4 + 1)
set_option maxRecDepth 100000 in
theorem b12_publish_99 {p : Program} {l : Launch} {e : Env} {s : State} {m : MethodId} {args : Array Value} {below : List Frame} {meth : Method} {c : Code} {D : va_G} {cI cZ : ClassId} {ad : Nat → Nat} (E : rR_E D cI cZ ad cX12_publish 5 (some .int) p s m args meth c) (k52 : rv_Mem → Int32 → Int32 → Int32 → Int32 → Option (Int32 × rv_Mem)) (h52 : ∀ (M : rv_Mem) (x1 : Int32) (x2 : Int32) (x3 : Int32) (x4 : Int32), rv_M (rR_G D cI cZ ad) (rR_A ad) p l e rm12_publish s m args below meth c 0 0 (rR_qIW D cI cZ ad below args s) (k52 M x1 x2 x3 x4) 52 [some (.ref (ad 67)), some (.int x1), some (.int x2), some (.int x3), some (.int x4)] [] M) : ∀ (M : rv_Mem) (x1 : Int32) (x2 : Int32) (x3 : Int32) (x4 : Int32) (s1 : Int32), rv_M (rR_G D cI cZ ad) (rR_A ad) p l e rm12_publish s m args below meth c 0 0 (rR_qIW D cI cZ ad below args s) (f12_publish_99 k52 M x1 x2 x3 x4 s1) 99 [some (.ref (ad 67)), some (.int x1), some (.int x2), some (.int x3), some (.int x4)] [.int s1, .ref (ad 32)] M := by
  intro M x1 x2 x3 x4 s1
  unfold f12_publish_99
  refine rv_iconst (q := 100) E.x dX12_publish_99 rv_ki1 rfl ?_
  refine rv_goto (q := 104) E.x dX12_publish_100 (by decide) ?_
  refine rv_wk [true, true, true, true, true] ?_
  exact b12_publish_104 E k52 h52 M x1 x2 x3 x4 s1 true
set_option maxRecDepth 100000 in
theorem b12_publish_103 {p : Program} {l : Launch} {e : Env} {s : State} {m : MethodId} {args : Array Value} {below : List Frame} {meth : Method} {c : Code} {D : va_G} {cI cZ : ClassId} {ad : Nat → Nat} (E : rR_E D cI cZ ad cX12_publish 5 (some .int) p s m args meth c) (k52 : rv_Mem → Int32 → Int32 → Int32 → Int32 → Option (Int32 × rv_Mem)) (h52 : ∀ (M : rv_Mem) (x1 : Int32) (x2 : Int32) (x3 : Int32) (x4 : Int32), rv_M (rR_G D cI cZ ad) (rR_A ad) p l e rm12_publish s m args below meth c 0 0 (rR_qIW D cI cZ ad below args s) (k52 M x1 x2 x3 x4) 52 [some (.ref (ad 67)), some (.int x1), some (.int x2), some (.int x3), some (.int x4)] [] M) : ∀ (M : rv_Mem) (x1 : Int32) (x2 : Int32) (x3 : Int32) (x4 : Int32) (s1 : Int32), rv_M (rR_G D cI cZ ad) (rR_A ad) p l e rm12_publish s m args below meth c 0 0 (rR_qIW D cI cZ ad below args s) (f12_publish_103 k52 M x1 x2 x3 x4 s1) 103 [some (.ref (ad 67)), some (.int x1), some (.int x2), some (.int x3), some (.int x4)] [.int s1, .ref (ad 32)] M := by
  intro M x1 x2 x3 x4 s1
  unfold f12_publish_103
  refine rv_iconst (q := 104) E.x dX12_publish_103 rv_ki0 rfl ?_
  refine rv_wk [true, true, true, true, true] ?_
  exact b12_publish_104 E k52 h52 M x1 x2 x3 x4 s1 false
set_option maxRecDepth 100000 in
theorem b12_publish_52_s {p : Program} {l : Launch} {e : Env} {s : State} {m : MethodId} {args : Array Value} {below : List Frame} {meth : Method} {c : Code} {D : va_G} {cI cZ : ClassId} {ad : Nat → Nat} (E : rR_E D cI cZ ad cX12_publish 5 (some .int) p s m args meth c)   (k52 : rv_Mem → Int32 → Int32 → Int32 → Int32 → Option (Int32 × rv_Mem)) (h52 : ∀ (M : rv_Mem) (x1 : Int32) (x2 : Int32) (x3 : Int32) (x4 : Int32), rv_M (rR_G D cI cZ ad) (rR_A ad) p l e rm12_publish s m args below meth c 0 0 (rR_qIW D cI cZ ad below args s) (k52 M x1 x2 x3 x4) 52 [some (.ref (ad 67)), some (.int x1), some (.int x2), some (.int x3), some (.int x4)] [] M) : ∀ (M : rv_Mem) (x1 : Int32) (x2 : Int32) (x3 : Int32) (x4 : Int32), rv_M (rR_G D cI cZ ad) (rR_A ad) p l e rm12_publish s m args below meth c 0 0 (rR_qIW D cI cZ ad below args s) (f12_publish_52_s k52 M x1 x2 x3 x4) 52 [some (.ref (ad 67)), some (.int x1), some (.int x2), some (.int x3), some (.int x4)] [] M := by
  intro M x1 x2 x3 x4
  unfold f12_publish_52_s
  refine rv_iload (q := 54) E.x dX12_publish_52 rfl rfl ?_
  refine rv_aload_n (q := 55) E.x dX12_publish_54 rfl rfl ?_
  refine rR_get (q := 58) E 24 wf12_24 rfl (Nat.le_of_ble_eq_true rfl) rfl dX12_publish_55 rfl ?_
  refine rv_icmp_ge (q := 61) (tgt := 111) E.x dX12_publish_58 (by decide) rfl ?_ ?_
  · refine rv_aload_n (q := 62) E.x dX12_publish_61 rfl rfl ?_
    refine rR_get (q := 65) E 32 wf12_32 rfl (Nat.le_of_ble_eq_true rfl) rfl dX12_publish_62 rfl ?_
    refine rv_iload (q := 67) E.x dX12_publish_65 rfl rfl ?_
    refine rv_aload_n (q := 68) E.x dX12_publish_67 rfl rfl ?_
    refine rR_get (q := 71) E 32 wf12_32 rfl (Nat.le_of_ble_eq_true rfl) rfl dX12_publish_68 rfl ?_
    refine rv_iload (q := 73) E.x dX12_publish_71 rfl rfl ?_
    refine rR_zald (q := 74) (n := 60) E (Nat.le_of_ble_eq_true rfl) rfl rfl dX12_publish_73 rfl ?_
    refine rv_ifz_eq (q := 77) (tgt := 103) E.x dX12_publish_74 (by decide) rfl ?_ ?_
    · refine rv_aload_n (q := 78) E.x dX12_publish_77 rfl rfl ?_
      refine rR_get (q := 81) E 26 wf12_26 rfl (Nat.le_of_ble_eq_true rfl) rfl dX12_publish_78 rfl ?_
      refine rv_iload (q := 83) E.x dX12_publish_81 rfl rfl ?_
      refine rR_iald (q := 84) (n := 60) E (Nat.le_of_ble_eq_true rfl) rfl rfl dX12_publish_83 rfl ?_
      refine rv_iload_n (q := 85) E.x dX12_publish_84 rfl rfl ?_
      refine rv_icmp_ne (q := 88) (tgt := 99) E.x dX12_publish_85 (by decide) rfl ?_ ?_
      · refine rv_aload_n (q := 89) E.x dX12_publish_88 rfl rfl ?_
        refine rR_get (q := 92) E 25 wf12_25 rfl (Nat.le_of_ble_eq_true rfl) rfl dX12_publish_89 rfl ?_
        refine rv_iload (q := 94) E.x dX12_publish_92 rfl rfl ?_
        refine rR_iald (q := 95) (n := 60) E (Nat.le_of_ble_eq_true rfl) rfl rfl dX12_publish_94 rfl ?_
        refine rv_iload_n (q := 96) E.x dX12_publish_95 rfl rfl ?_
        refine rv_icmp_eq (q := 99) (tgt := 103) E.x dX12_publish_96 (by decide) rfl ?_ ?_
        · refine rv_wk [true, true, true, true, true] ?_
          exact b12_publish_99 E k52 h52 M x1 x2 x3 x4 x4
        · refine rv_wk [true, true, true, true, true] ?_
          exact b12_publish_103 E k52 h52 M x1 x2 x3 x4 x4
      · refine rv_wk [true, true, true, true, true] ?_
        exact b12_publish_99 E k52 h52 M x1 x2 x3 x4 x4
    · refine rv_wk [true, true, true, true, true] ?_
      exact b12_publish_103 E k52 h52 M x1 x2 x3 x4 x4
  · refine rv_aload_n (q := 112) E.x dX12_publish_111 rfl rfl ?_
    refine rv_iload_n (q := 113) E.x dX12_publish_112 rfl rfl ?_
    refine rv_iload_n (q := 114) E.x dX12_publish_113 rfl rfl ?_
    refine rv_b1 (fun M2 e1 => ?_)
    refine rR_callv (q := 117) E (c12_tells E.2.2.1 e1) gX12_tells hX12_tells ⟨rfl, rfl⟩ ⟨Nat.le_of_ble_eq_true rfl, Nat.le_of_ble_eq_true rfl⟩ rfl rfl rfl (Nat.le_of_ble_eq_true rfl) dX12_publish_114 rfl ?_
    refine rv_aload_n (q := 118) E.x dX12_publish_117 rfl rfl ?_
    refine rv_iload_n (q := 119) E.x dX12_publish_118 rfl rfl ?_
    refine rv_iload_n (q := 120) E.x dX12_publish_119 rfl rfl ?_
    refine rv_iconst (q := 121) E.x dX12_publish_120 rv_ki0 rfl ?_
    refine rv_b1 (fun M4 e3 => ?_)
    refine rR_callv (q := 124) E (c12_turnsOn E.2.2.1 e3) gX12_turnsOn hX12_turnsOn ⟨rfl, rfl⟩ ⟨Nat.le_of_ble_eq_true rfl, Nat.le_of_ble_eq_true rfl⟩ rfl rfl rfl (Nat.le_of_ble_eq_true rfl) dX12_publish_121 rfl ?_
    refine rv_iload_n (q := 125) E.x dX12_publish_124 rfl rfl ?_
    exact rR_iret E rfl dX12_publish_125
theorem b12_publish_52 {p : Program} {l : Launch} {e : Env} {s : State} {m : MethodId} {args : Array Value} {below : List Frame} {meth : Method} {c : Code} {D : va_G} {cI cZ : ClassId} {ad : Nat → Nat} (E : rR_E D cI cZ ad cX12_publish 5 (some .int) p s m args meth c)   : ∀ (n : Nat), ∀ (M : rv_Mem) (x1 : Int32) (x2 : Int32) (x3 : Int32) (x4 : Int32), rv_M (rR_G D cI cZ ad) (rR_A ad) p l e rm12_publish s m args below meth c 0 0 (rR_qIW D cI cZ ad below args s) (f12_publish_52 n M x1 x2 x3 x4) 52 [some (.ref (ad 67)), some (.int x1), some (.int x2), some (.int x3), some (.int x4)] [] M := by
  intro n
  induction n with
  | zero => exact fun _ _ _ _ _ => rv_stuck
  | succ n ih => exact b12_publish_52_s E  (f12_publish_52 n) ih
set_option maxRecDepth 100000 in
theorem b12_publish_41 {p : Program} {l : Launch} {e : Env} {s : State} {m : MethodId} {args : Array Value} {below : List Frame} {meth : Method} {c : Code} {D : va_G} {cI cZ : ClassId} {ad : Nat → Nat} (E : rR_E D cI cZ ad cX12_publish 5 (some .int) p s m args meth c)   : ∀ (M : rv_Mem) (x1 : Int32) (x2 : Int32) (x3 : Int32) (s1 : Int32), rv_M (rR_G D cI cZ ad) (rR_A ad) p l e rm12_publish s m args below meth c 0 0 (rR_qIW D cI cZ ad below args s) (f12_publish_41 M x1 x2 x3 s1) 41 [some (.ref (ad 67)), some (.int x1), some (.int x2), some (.int x3), none] [.int s1, .ref (ad 67)] M := by
  intro M x1 x2 x3 s1
  unfold f12_publish_41
  refine rv_b2 (fun r2 M3 e1 => ?_)
  refine rR_calli (q := 44) E (c12_goes E.2.2.1 e1) gX12_goes hX12_goes ⟨rfl, rfl⟩ ⟨Nat.le_of_ble_eq_true rfl, Nat.le_of_ble_eq_true rfl⟩ rfl rfl rfl (Nat.le_of_ble_eq_true rfl) dX12_publish_41 rfl ?_
  refine rv_ifz_ne (q := 47) (tgt := 49) E.x dX12_publish_44 (by decide) rfl ?_ ?_
  · refine rv_iconst (q := 48) E.x dX12_publish_47 rv_ki0 rfl ?_
    exact rR_iret E rfl dX12_publish_48
  · refine rv_iconst (q := 50) E.x dX12_publish_49 rv_ki0 rfl ?_
    refine rv_istore (q := 52) (lv' := [_, _, _, _, _]) E.x dX12_publish_50 (Nat.le_of_ble_eq_true rfl) rfl rfl rfl ?_
    refine rv_wk [true, true, true, true, true] ?_
    exact b12_publish_52 E rv_FU M3 x1 x2 x3 0
set_option maxRecDepth 100000 in
theorem b12_publish_36 {p : Program} {l : Launch} {e : Env} {s : State} {m : MethodId} {args : Array Value} {below : List Frame} {meth : Method} {c : Code} {D : va_G} {cI cZ : ClassId} {ad : Nat → Nat} (E : rR_E D cI cZ ad cX12_publish 5 (some .int) p s m args meth c)   : ∀ (M : rv_Mem) (x1 : Int32) (x2 : Int32) (x3 : Int32), rv_M (rR_G D cI cZ ad) (rR_A ad) p l e rm12_publish s m args below meth c 0 0 (rR_qIW D cI cZ ad below args s) (f12_publish_36 M x1 x2 x3) 36 [some (.ref (ad 67)), some (.int x1), some (.int x2), some (.int x3), none] [.ref (ad 67)] M := by
  intro M x1 x2 x3
  unfold f12_publish_36
  refine rv_iconst (q := 37) E.x dX12_publish_36 rv_ki2 rfl ?_
  refine rv_goto (q := 41) E.x dX12_publish_37 (by decide) ?_
  refine rv_wk [true, true, true, true, false] ?_
  exact b12_publish_41 E M x1 x2 x3 2
set_option maxRecDepth 100000 in
theorem b12_publish {p : Program} {l : Launch} {e : Env} {s : State} {m : MethodId} {args : Array Value} {below : List Frame} {meth : Method} {c : Code} {D : va_G} {cI cZ : ClassId} {ad : Nat → Nat} (E : rR_E D cI cZ ad cX12_publish 5 (some .int) p s m args meth c) (M : rv_Mem) (a1 : Int32) (a2 : Int32) : rv_M (rR_G D cI cZ ad) (rR_A ad) p l e rm12_publish s m args below meth c 0 0  (rR_qIW D cI cZ ad below args s) (f12_publish M a1 a2) 0 [some (.ref (ad 67)), some (.int a1), some (.int a2), none, none] [] M := by
  unfold f12_publish
  refine rv_aload_n (q := 1) E.x dX12_publish_0 rfl rfl ?_
  refine rv_aload_n (q := 2) E.x dX12_publish_1 rfl rfl ?_
  refine rv_iload_n (q := 3) E.x dX12_publish_2 rfl rfl ?_
  refine rv_iload_n (q := 4) E.x dX12_publish_3 rfl rfl ?_
  refine rv_b1 (fun r2 e1 => ?_)
  refine rR_calli (q := 7) E (c12_wrong E.2.2.1 e1) gX12_wrong hX12_wrong ⟨rfl, rfl⟩ ⟨Nat.le_of_ble_eq_true rfl, Nat.le_of_ble_eq_true rfl⟩ rfl rfl rfl (Nat.le_of_ble_eq_true rfl) dX12_publish_4 rfl ?_
  refine rv_b2 (fun r4 M5 e3 => ?_)
  refine rR_calli (q := 10) E (c12_goes E.2.2.1 e3) gX12_goes hX12_goes ⟨rfl, rfl⟩ ⟨Nat.le_of_ble_eq_true rfl, Nat.le_of_ble_eq_true rfl⟩ rfl rfl rfl (Nat.le_of_ble_eq_true rfl) dX12_publish_7 rfl ?_
  refine rv_ifz_ne (q := 13) (tgt := 15) E.x dX12_publish_10 (by decide) rfl ?_ ?_
  · refine rv_iconst (q := 14) E.x dX12_publish_13 rv_ki0 rfl ?_
    exact rR_iret E rfl dX12_publish_14
  · refine rv_aload_n (q := 16) E.x dX12_publish_15 rfl rfl ?_
    refine rv_iload_n (q := 17) E.x dX12_publish_16 rfl rfl ?_
    refine rv_iload_n (q := 18) E.x dX12_publish_17 rfl rfl ?_
    refine rv_b1 (fun r7 e6 => ?_)
    refine rR_calli (q := 21) E (c12_draftsOf E.2.2.1 e6) gX12_draftsOf hX12_draftsOf ⟨rfl, rfl⟩ ⟨Nat.le_of_ble_eq_true rfl, Nat.le_of_ble_eq_true rfl⟩ rfl rfl rfl (Nat.le_of_ble_eq_true rfl) dX12_publish_18 rfl ?_
    refine rv_istore_n (q := 22) (lv' := [_, _, _, _, _]) E.x dX12_publish_21 (Nat.le_of_ble_eq_true rfl) rfl rfl rfl ?_
    refine rv_aload_n (q := 23) E.x dX12_publish_22 rfl rfl ?_
    refine rv_aload_n (q := 24) E.x dX12_publish_23 rfl rfl ?_
    refine rv_iload_n (q := 25) E.x dX12_publish_24 rfl rfl ?_
    refine rv_iload_n (q := 26) E.x dX12_publish_25 rfl rfl ?_
    refine rv_b1 (fun r9 e8 => ?_)
    refine rR_calli (q := 29) E (c12_canSee E.2.2.1 e8) gX12_canSee hX12_canSee ⟨rfl, rfl⟩ ⟨Nat.le_of_ble_eq_true rfl, Nat.le_of_ble_eq_true rfl⟩ rfl rfl rfl (Nat.le_of_ble_eq_true rfl) dX12_publish_26 rfl ?_
    refine rv_ifz_eq (q := 32) (tgt := 36) E.x dX12_publish_29 (by decide) rfl ?_ ?_
    · refine rv_iload_n (q := 33) E.x dX12_publish_32 rfl rfl ?_
      refine rv_if_ne (q := 36) (tgt := 40) E.x dX12_publish_33 (by decide) rfl ?_ ?_
      · refine rv_wk [true, true, true, true, false] ?_
        exact b12_publish_36 E M5 a1 a2 r7
      · refine rv_iconst (q := 41) E.x dX12_publish_40 rv_ki0 rfl ?_
        refine rv_wk [true, true, true, true, false] ?_
        exact b12_publish_41 E M5 a1 a2 r7 0
    · refine rv_wk [true, true, true, true, false] ?_
      exact b12_publish_36 E M5 a1 a2 r7
theorem c12_publish {l : Launch} {D : va_G} {cI cZ : ClassId} {ad : Nat → Nat} (hI : rR_I ad) {M : rv_Mem} {a1 : Int32} {a2 : Int32} {r : Int32} {M1 : rv_Mem} (h : f12_publish M a1 a2 = some (r, M1)) : Met l yX12_publish (rv_ws yX12_publish cX12_publish 5 (some .int)) rm12_publish (rR_Pc D cI cZ ad [.ref (ad 67), .int a1, .int a2] M) (rR_QI D cI cZ ad r M1) 0 0 (rR_A ad) := rR_met hI rfl (rv_cat rfl) (Nat.le_of_ble_eq_true rfl) (fun p e s m args below meth c E => ⟨(rR_qIW D cI cZ ad below args s), rfl, b12_publish E M a1 a2⟩) h
abbrev rm12_shown : Room := { frames := 4, cells := 0, slots := 0, locals := 109 }
set_option maxRecDepth 100000 in
theorem b12_shown_28 {p : Program} {l : Launch} {e : Env} {s : State} {m : MethodId} {args : Array Value} {below : List Frame} {meth : Method} {c : Code} {D : va_G} {cI cZ : ClassId} {ad : Nat → Nat} (E : rR_E D cI cZ ad cX12_shown 3 (some .int) p s m args meth c)   : ∀ (M : rv_Mem) (x1 : Int32) (x2 : Int32) (s1 : Bool), rv_M (rR_G D cI cZ ad) (rR_A ad) p l e rm12_shown s m args below meth c 0 0 (rR_qIW D cI cZ ad below args s) (f12_shown_28 M x1 x2 s1) 28 [some (.ref (ad 67)), some (.int x1), some (.int x2)] [.int (rv_i s1), .ref (ad 67)] M := by
  intro M x1 x2 s1
  unfold f12_shown_28
  refine rv_b2 (fun r2 M3 e1 => ?_)
  refine rR_calli (q := 31) E (c12_goes E.2.2.1 e1) gX12_goes hX12_goes ⟨rfl, rfl⟩ ⟨Nat.le_of_ble_eq_true rfl, Nat.le_of_ble_eq_true rfl⟩ rfl rfl rfl (Nat.le_of_ble_eq_true rfl) dX12_shown_28 rfl ?_
  refine rv_ifz_eq (q := 34) (tgt := 43) E.x dX12_shown_31 (by decide) rfl ?_ ?_
  · refine rv_aload_n (q := 35) E.x dX12_shown_34 rfl rfl ?_
    refine rv_iload_n (q := 36) E.x dX12_shown_35 rfl rfl ?_
    refine rv_iload_n (q := 37) E.x dX12_shown_36 rfl rfl ?_
    refine rv_b2 (fun r5 M6 e4 => ?_)
    refine rR_calli (q := 40) E (c12_shownIn E.2.2.1 e4) gX12_shownIn hX12_shownIn ⟨rfl, rfl⟩ ⟨Nat.le_of_ble_eq_true rfl, Nat.le_of_ble_eq_true rfl⟩ rfl rfl rfl (Nat.le_of_ble_eq_true rfl) dX12_shown_37 rfl ?_
    refine rv_goto (q := 44) E.x dX12_shown_40 (by decide) ?_
    exact rR_iret E rfl dX12_shown_44
  · refine rv_iconst (q := 44) E.x dX12_shown_43 rv_ki0 rfl ?_
    exact rR_iret E rfl dX12_shown_44
set_option maxRecDepth 100000 in
theorem b12_shown_27 {p : Program} {l : Launch} {e : Env} {s : State} {m : MethodId} {args : Array Value} {below : List Frame} {meth : Method} {c : Code} {D : va_G} {cI cZ : ClassId} {ad : Nat → Nat} (E : rR_E D cI cZ ad cX12_shown 3 (some .int) p s m args meth c)   : ∀ (M : rv_Mem) (x1 : Int32) (x2 : Int32), rv_M (rR_G D cI cZ ad) (rR_A ad) p l e rm12_shown s m args below meth c 0 0 (rR_qIW D cI cZ ad below args s) (f12_shown_27 M x1 x2) 27 [some (.ref (ad 67)), some (.int x1), some (.int x2)] [.ref (ad 67)] M := by
  intro M x1 x2
  unfold f12_shown_27
  refine rv_iconst (q := 28) E.x dX12_shown_27 rv_ki1 rfl ?_
  refine rv_wk [true, true, true] ?_
  exact b12_shown_28 E M x1 x2 true
set_option maxRecDepth 100000 in
theorem b12_shown {p : Program} {l : Launch} {e : Env} {s : State} {m : MethodId} {args : Array Value} {below : List Frame} {meth : Method} {c : Code} {D : va_G} {cI cZ : ClassId} {ad : Nat → Nat} (E : rR_E D cI cZ ad cX12_shown 3 (some .int) p s m args meth c) (M : rv_Mem) (a1 : Int32) (a2 : Int32) : rv_M (rR_G D cI cZ ad) (rR_A ad) p l e rm12_shown s m args below meth c 0 0  (rR_qIW D cI cZ ad below args s) (f12_shown M a1 a2) 0 [some (.ref (ad 67)), some (.int a1), some (.int a2)] [] M := by
  unfold f12_shown
  refine rv_aload_n (q := 1) E.x dX12_shown_0 rfl rfl ?_
  refine rv_aload_n (q := 2) E.x dX12_shown_1 rfl rfl ?_
  refine rv_iload_n (q := 3) E.x dX12_shown_2 rfl rfl ?_
  refine rv_b1 (fun r2 e1 => ?_)
  refine rR_calli (q := 6) E (c12_isComment E.2.2.1 e1) gX12_isComment hX12_isComment ⟨rfl, rfl⟩ ⟨Nat.le_of_ble_eq_true rfl, Nat.le_of_ble_eq_true rfl⟩ rfl rfl rfl (Nat.le_of_ble_eq_true rfl) dX12_shown_3 rfl ?_
  refine rv_ifz_eq (q := 9) (tgt := 27) E.x dX12_shown_6 (by decide) rfl ?_ ?_
  · refine rv_aload_n (q := 10) E.x dX12_shown_9 rfl rfl ?_
    refine rv_aload_n (q := 11) E.x dX12_shown_10 rfl rfl ?_
    refine rR_get (q := 14) E 26 wf12_26 rfl (Nat.le_of_ble_eq_true rfl) rfl dX12_shown_11 rfl ?_
    refine rv_iload_n (q := 15) E.x dX12_shown_14 rfl rfl ?_
    refine rR_iald (q := 16) (n := 60) E (Nat.le_of_ble_eq_true rfl) rfl rfl dX12_shown_15 rfl ?_
    refine rv_iload_n (q := 17) E.x dX12_shown_16 rfl rfl ?_
    refine rv_b1 (fun r4 e3 => ?_)
    refine rR_calli (q := 20) E (c12_isSet E.2.2.1 e3) gX12_isSet hX12_isSet ⟨rfl, rfl⟩ ⟨Nat.le_of_ble_eq_true rfl, Nat.le_of_ble_eq_true rfl⟩ rfl rfl rfl (Nat.le_of_ble_eq_true rfl) dX12_shown_17 rfl ?_
    refine rv_ifz_eq (q := 23) (tgt := 27) E.x dX12_shown_20 (by decide) rfl ?_ ?_
    · refine rv_iconst (q := 24) E.x dX12_shown_23 rv_ki0 rfl ?_
      refine rv_goto (q := 28) E.x dX12_shown_24 (by decide) ?_
      refine rv_wk [true, true, true] ?_
      exact b12_shown_28 E M a1 a2 false
    · refine rv_wk [true, true, true] ?_
      exact b12_shown_27 E M a1 a2
  · refine rv_wk [true, true, true] ?_
    exact b12_shown_27 E M a1 a2
theorem c12_shown {l : Launch} {D : va_G} {cI cZ : ClassId} {ad : Nat → Nat} (hI : rR_I ad) {M : rv_Mem} {a1 : Int32} {a2 : Int32} {r : Int32} {M1 : rv_Mem} (h : f12_shown M a1 a2 = some (r, M1)) : Met l yX12_shown (rv_ws yX12_shown cX12_shown 3 (some .int)) rm12_shown (rR_Pc D cI cZ ad [.ref (ad 67), .int a1, .int a2] M) (rR_QI D cI cZ ad r M1) 0 0 (rR_A ad) := rR_met hI rfl (rv_cat rfl) (Nat.le_of_ble_eq_true rfl) (fun p e s m args below meth c E => ⟨(rR_qIW D cI cZ ad below args s), rfl, b12_shown E M a1 a2⟩) h
abbrev rm12_unresolved : Room := { frames := 3, cells := 0, slots := 0, locals := 64 }
set_option maxRecDepth 100000 in
theorem b12_unresolved {p : Program} {l : Launch} {e : Env} {s : State} {m : MethodId} {args : Array Value} {below : List Frame} {meth : Method} {c : Code} {D : va_G} {cI cZ : ClassId} {ad : Nat → Nat} (E : rR_E D cI cZ ad cX12_unresolved 2 (some .int) p s m args meth c) (M : rv_Mem) (a1 : Int32) : rv_M (rR_G D cI cZ ad) (rR_A ad) p l e rm12_unresolved s m args below meth c 0 0  (rR_qIW D cI cZ ad below args s) (f12_unresolved M a1) 0 [some (.ref (ad 67)), some (.int a1)] [] M := by
  unfold f12_unresolved
  refine rv_aload_n (q := 1) E.x dX12_unresolved_0 rfl rfl ?_
  refine rv_iload_n (q := 2) E.x dX12_unresolved_1 rfl rfl ?_
  refine rv_b2 (fun r2 M3 e1 => ?_)
  refine rR_calli (q := 5) E (c12_asks E.2.2.1 e1) gX12_asks hX12_asks ⟨rfl, rfl⟩ ⟨Nat.le_of_ble_eq_true rfl, Nat.le_of_ble_eq_true rfl⟩ rfl rfl rfl (Nat.le_of_ble_eq_true rfl) dX12_unresolved_2 rfl ?_
  refine rv_ifz_eq (q := 8) (tgt := 16) E.x dX12_unresolved_5 (by decide) rfl ?_ ?_
  · refine rv_aload_n (q := 9) E.x dX12_unresolved_8 rfl rfl ?_
    refine rv_iload_n (q := 10) E.x dX12_unresolved_9 rfl rfl ?_
    refine rv_b1 (fun r5 e4 => ?_)
    refine rR_calli (q := 13) E (c12_unresolvedOf E.2.2.1 e4) gX12_unresolvedOf hX12_unresolvedOf ⟨rfl, rfl⟩ ⟨Nat.le_of_ble_eq_true rfl, Nat.le_of_ble_eq_true rfl⟩ rfl rfl rfl (Nat.le_of_ble_eq_true rfl) dX12_unresolved_10 rfl ?_
    refine rv_goto (q := 17) E.x dX12_unresolved_13 (by decide) ?_
    exact rR_iret E rfl dX12_unresolved_17
  · refine rv_iconst (q := 17) E.x dX12_unresolved_16 rv_ki0 rfl ?_
    exact rR_iret E rfl dX12_unresolved_17
theorem c12_unresolved {l : Launch} {D : va_G} {cI cZ : ClassId} {ad : Nat → Nat} (hI : rR_I ad) {M : rv_Mem} {a1 : Int32} {r : Int32} {M1 : rv_Mem} (h : f12_unresolved M a1 = some (r, M1)) : Met l yX12_unresolved (rv_ws yX12_unresolved cX12_unresolved 2 (some .int)) rm12_unresolved (rR_Pc D cI cZ ad [.ref (ad 67), .int a1] M) (rR_QI D cI cZ ad r M1) 0 0 (rR_A ad) := rR_met hI rfl (rv_cat rfl) (Nat.le_of_ble_eq_true rfl) (fun p e s m args below meth c E => ⟨(rR_qIW D cI cZ ad below args s), rfl, b12_unresolved E M a1⟩) h
abbrev rm12_find : Room := { frames := 3, cells := 0, slots := 0, locals := 65 }
set_option maxRecDepth 100000 in
theorem b12_find_92 {p : Program} {l : Launch} {e : Env} {s : State} {m : MethodId} {args : Array Value} {below : List Frame} {meth : Method} {c : Code} {D : va_G} {cI cZ : ClassId} {ad : Nat → Nat} (E : rR_E D cI cZ ad cX12_find 8 (some .int) p s m args meth c)   : ∀ (M : rv_Mem) (x1 : Int32) (x2 : Int32) (x3 : Int32) (x4 : Int32) (x5 : Int32) (x6 : Int32) (s1 : Int32), rv_M (rR_G D cI cZ ad) (rR_A ad) p l e rm12_find s m args below meth c 0 0 (rR_qIW D cI cZ ad below args s) (f12_find_92 M x1 x2 x3 x4 x5 x6 s1) 92 [some (.ref (ad 67)), some (.int x1), some (.int x2), some (.int x3), some (.int x4), some (.int x5), some (.int x6), none] [.int s1, .ref (ad 67)] M := by
  intro M x1 x2 x3 x4 x5 x6 s1
  unfold f12_find_92
  refine rv_b2 (fun r2 M3 e1 => ?_)
  refine rR_calli (q := 95) E (c12_goes E.2.2.1 e1) gX12_goes hX12_goes ⟨rfl, rfl⟩ ⟨Nat.le_of_ble_eq_true rfl, Nat.le_of_ble_eq_true rfl⟩ rfl rfl rfl (Nat.le_of_ble_eq_true rfl) dX12_find_92 rfl ?_
  refine rv_ifz_ne (q := 98) (tgt := 100) E.x dX12_find_95 (by decide) rfl ?_ ?_
  · refine rv_iconst (q := 99) E.x dX12_find_98 rv_ki0 rfl ?_
    exact rR_iret E rfl dX12_find_99
  · refine rv_aload_n (q := 101) E.x dX12_find_100 rfl rfl ?_
    refine rR_get (q := 104) E 35 wf12_35 rfl (Nat.le_of_ble_eq_true rfl) rfl dX12_find_101 rfl ?_
    refine rv_aload_n (q := 105) E.x dX12_find_104 rfl rfl ?_
    refine rR_get (q := 108) E 34 wf12_34 rfl (Nat.le_of_ble_eq_true rfl) rfl dX12_find_105 rfl ?_
    refine rv_iload_n (q := 109) E.x dX12_find_108 rfl rfl ?_
    refine rR_iast (q := 110) (n := 40) E (Nat.le_of_ble_eq_true rfl) rfl rfl dX12_find_109 rfl ?_
    refine rv_ltm (fun M4 => ?_)
    refine rv_aload_n (q := 111) E.x dX12_find_110 rfl rfl ?_
    refine rR_get (q := 114) E 36 wf12_36 rfl (Nat.le_of_ble_eq_true rfl) rfl dX12_find_111 rfl ?_
    refine rv_aload_n (q := 115) E.x dX12_find_114 rfl rfl ?_
    refine rR_get (q := 118) E 34 wf12_34 rfl (Nat.le_of_ble_eq_true rfl) rfl dX12_find_115 rfl ?_
    refine rv_iload_n (q := 119) E.x dX12_find_118 rfl rfl ?_
    refine rR_iast (q := 120) (n := 40) E (Nat.le_of_ble_eq_true rfl) rfl rfl dX12_find_119 rfl ?_
    refine rv_ltm (fun M5 => ?_)
    refine rv_aload_n (q := 121) E.x dX12_find_120 rfl rfl ?_
    refine rR_get (q := 124) E 37 wf12_37 rfl (Nat.le_of_ble_eq_true rfl) rfl dX12_find_121 rfl ?_
    refine rv_aload_n (q := 125) E.x dX12_find_124 rfl rfl ?_
    refine rR_get (q := 128) E 34 wf12_34 rfl (Nat.le_of_ble_eq_true rfl) rfl dX12_find_125 rfl ?_
    refine rv_iload_n (q := 129) E.x dX12_find_128 rfl rfl ?_
    refine rR_iast (q := 130) (n := 40) E (Nat.le_of_ble_eq_true rfl) rfl rfl dX12_find_129 rfl ?_
    refine rv_ltm (fun M6 => ?_)
    refine rv_aload_n (q := 131) E.x dX12_find_130 rfl rfl ?_
    refine rR_get (q := 134) E 38 wf12_38 rfl (Nat.le_of_ble_eq_true rfl) rfl dX12_find_131 rfl ?_
    refine rv_aload_n (q := 135) E.x dX12_find_134 rfl rfl ?_
    refine rR_get (q := 138) E 34 wf12_34 rfl (Nat.le_of_ble_eq_true rfl) rfl dX12_find_135 rfl ?_
    refine rv_iload (q := 140) E.x dX12_find_138 rfl rfl ?_
    refine rR_iast (q := 141) (n := 40) E (Nat.le_of_ble_eq_true rfl) rfl rfl dX12_find_140 rfl ?_
    refine rv_ltm (fun M7 => ?_)
    refine rv_aload_n (q := 142) E.x dX12_find_141 rfl rfl ?_
    refine rR_get (q := 145) E 39 wf12_39 rfl (Nat.le_of_ble_eq_true rfl) rfl dX12_find_142 rfl ?_
    refine rv_aload_n (q := 146) E.x dX12_find_145 rfl rfl ?_
    refine rR_get (q := 149) E 34 wf12_34 rfl (Nat.le_of_ble_eq_true rfl) rfl dX12_find_146 rfl ?_
    refine rv_iload (q := 151) E.x dX12_find_149 rfl rfl ?_
    refine rR_iast (q := 152) (n := 40) E (Nat.le_of_ble_eq_true rfl) rfl rfl dX12_find_151 rfl ?_
    refine rv_ltm (fun M8 => ?_)
    refine rv_aload_n (q := 153) E.x dX12_find_152 rfl rfl ?_
    refine rR_get (q := 156) E 40 wf12_40 rfl (Nat.le_of_ble_eq_true rfl) rfl dX12_find_153 rfl ?_
    refine rv_aload_n (q := 157) E.x dX12_find_156 rfl rfl ?_
    refine rR_get (q := 160) E 34 wf12_34 rfl (Nat.le_of_ble_eq_true rfl) rfl dX12_find_157 rfl ?_
    refine rv_iload (q := 162) E.x dX12_find_160 rfl rfl ?_
    refine rR_iast (q := 163) (n := 40) E (Nat.le_of_ble_eq_true rfl) rfl rfl dX12_find_162 rfl ?_
    refine rv_ltm (fun M9 => ?_)
    refine rv_aload_n (q := 164) E.x dX12_find_163 rfl rfl ?_
    refine rv_dup (q := 165) E.x dX12_find_164 rfl rfl ?_
    refine rR_get (q := 168) E 34 wf12_34 rfl (Nat.le_of_ble_eq_true rfl) rfl dX12_find_165 rfl ?_
    refine rv_iconst (q := 169) E.x dX12_find_168 rv_ki1 rfl ?_
    refine rv_iadd (q := 170) E.x dX12_find_169 rfl ?_
    refine rR_put (q := 173) E 34 wf12_34 rfl (Nat.le_of_ble_eq_true rfl) rfl rfl rfl dX12_find_170 rfl ?_
    refine rv_ltm (fun M10 => ?_)
    refine rv_aload_n (q := 174) E.x dX12_find_173 rfl rfl ?_
    refine rR_get (q := 177) E 34 wf12_34 rfl (Nat.le_of_ble_eq_true rfl) rfl dX12_find_174 rfl ?_
    refine rv_iconst (q := 178) E.x dX12_find_177 rv_ki1 rfl ?_
    refine rv_isub (q := 179) E.x dX12_find_178 rfl ?_
    exact rR_iret E rfl dX12_find_179
set_option maxRecDepth 100000 in
theorem b12_find_66 {p : Program} {l : Launch} {e : Env} {s : State} {m : MethodId} {args : Array Value} {below : List Frame} {meth : Method} {c : Code} {D : va_G} {cI cZ : ClassId} {ad : Nat → Nat} (E : rR_E D cI cZ ad cX12_find 8 (some .int) p s m args meth c)   : ∀ (M : rv_Mem) (x1 : Int32) (x2 : Int32) (x3 : Int32) (x4 : Int32) (x5 : Int32) (x6 : Int32) (s0 : Bool), rv_M (rR_G D cI cZ ad) (rR_A ad) p l e rm12_find s m args below meth c 0 0 (rR_qIW D cI cZ ad below args s) (f12_find_66 M x1 x2 x3 x4 x5 x6 s0) 66 [some (.ref (ad 67)), some (.int x1), some (.int x2), some (.int x3), some (.int x4), some (.int x5), some (.int x6), none] [.int (rv_i s0)] M := by
  intro M x1 x2 x3 x4 x5 x6 s0
  unfold f12_find_66
  refine rv_istore (q := 68) (lv' := [_, _, _, _, _, _, _, _]) E.x dX12_find_66 (Nat.le_of_ble_eq_true rfl) rfl rfl rfl ?_
  refine rv_aload_n (q := 69) E.x dX12_find_68 rfl rfl ?_
  refine rv_iload (q := 71) E.x dX12_find_69 rfl rfl ?_
  refine rv_ifz_ne (q := 74) (tgt := 78) E.x dX12_find_71 (by decide) rfl ?_ ?_
  · refine rv_iconst (q := 75) E.x dX12_find_74 rv_ki2 rfl ?_
    refine rv_goto (q := 92) E.x dX12_find_75 (by decide) ?_
    refine rv_wk [true, true, true, true, true, true, true, false] ?_
    exact b12_find_92 E M x1 x2 x3 x4 x5 x6 2
  · refine rv_aload_n (q := 79) E.x dX12_find_78 rfl rfl ?_
    refine rR_get (q := 82) E 34 wf12_34 rfl (Nat.le_of_ble_eq_true rfl) rfl dX12_find_79 rfl ?_
    refine rv_bipush (q := 84) E.x dX12_find_82 rv_kb40 rfl ?_
    refine rv_icmp_ne (q := 87) (tgt := 91) E.x dX12_find_84 (by decide) rfl ?_ ?_
    · refine rv_iconst (q := 88) E.x dX12_find_87 rv_ki3 rfl ?_
      refine rv_goto (q := 92) E.x dX12_find_88 (by decide) ?_
      refine rv_wk [true, true, true, true, true, true, true, false] ?_
      exact b12_find_92 E M x1 x2 x3 x4 x5 x6 3
    · refine rv_iconst (q := 92) E.x dX12_find_91 rv_ki0 rfl ?_
      refine rv_wk [true, true, true, true, true, true, true, false] ?_
      exact b12_find_92 E M x1 x2 x3 x4 x5 x6 0
set_option maxRecDepth 100000 in
theorem b12_find_65 {p : Program} {l : Launch} {e : Env} {s : State} {m : MethodId} {args : Array Value} {below : List Frame} {meth : Method} {c : Code} {D : va_G} {cI cZ : ClassId} {ad : Nat → Nat} (E : rR_E D cI cZ ad cX12_find 8 (some .int) p s m args meth c)   : ∀ (M : rv_Mem) (x1 : Int32) (x2 : Int32) (x3 : Int32) (x4 : Int32) (x5 : Int32) (x6 : Int32), rv_M (rR_G D cI cZ ad) (rR_A ad) p l e rm12_find s m args below meth c 0 0 (rR_qIW D cI cZ ad below args s) (f12_find_65 M x1 x2 x3 x4 x5 x6) 65 [some (.ref (ad 67)), some (.int x1), some (.int x2), some (.int x3), some (.int x4), some (.int x5), some (.int x6), none] [] M := by
  intro M x1 x2 x3 x4 x5 x6
  unfold f12_find_65
  refine rv_iconst (q := 66) E.x dX12_find_65 rv_ki0 rfl ?_
  refine rv_wk [true, true, true, true, true, true, true, false] ?_
  exact b12_find_66 E M x1 x2 x3 x4 x5 x6 false
set_option maxRecDepth 100000 in
theorem b12_find_22 {p : Program} {l : Launch} {e : Env} {s : State} {m : MethodId} {args : Array Value} {below : List Frame} {meth : Method} {c : Code} {D : va_G} {cI cZ : ClassId} {ad : Nat → Nat} (E : rR_E D cI cZ ad cX12_find 8 (some .int) p s m args meth c)   : ∀ (M : rv_Mem) (x1 : Int32) (x2 : Int32) (x3 : Int32) (x4 : Int32) (x5 : Int32) (x6 : Int32) (s1 : Bool), rv_M (rR_G D cI cZ ad) (rR_A ad) p l e rm12_find s m args below meth c 0 0 (rR_qIW D cI cZ ad below args s) (f12_find_22 M x1 x2 x3 x4 x5 x6 s1) 22 [some (.ref (ad 67)), some (.int x1), some (.int x2), some (.int x3), some (.int x4), some (.int x5), some (.int x6), none] [.int (rv_i s1), .ref (ad 67)] M := by
  intro M x1 x2 x3 x4 x5 x6 s1
  unfold f12_find_22
  refine rv_b2 (fun r2 M3 e1 => ?_)
  refine rR_calli (q := 25) E (c12_goes E.2.2.1 e1) gX12_goes hX12_goes ⟨rfl, rfl⟩ ⟨Nat.le_of_ble_eq_true rfl, Nat.le_of_ble_eq_true rfl⟩ rfl rfl rfl (Nat.le_of_ble_eq_true rfl) dX12_find_22 rfl ?_
  refine rv_ifz_ne (q := 28) (tgt := 30) E.x dX12_find_25 (by decide) rfl ?_ ?_
  · refine rv_iconst (q := 29) E.x dX12_find_28 rv_ki0 rfl ?_
    exact rR_iret E rfl dX12_find_29
  · refine rv_aload_n (q := 31) E.x dX12_find_30 rfl rfl ?_
    refine rv_aload_n (q := 32) E.x dX12_find_31 rfl rfl ?_
    refine rv_iload_n (q := 33) E.x dX12_find_32 rfl rfl ?_
    refine rv_iload_n (q := 34) E.x dX12_find_33 rfl rfl ?_
    refine rv_b1 (fun r5 e4 => ?_)
    refine rR_calli (q := 37) E (c12_commitAt E.2.2.1 e4) gX12_commitAt hX12_commitAt ⟨rfl, rfl⟩ ⟨Nat.le_of_ble_eq_true rfl, Nat.le_of_ble_eq_true rfl⟩ rfl rfl rfl (Nat.le_of_ble_eq_true rfl) dX12_find_34 rfl ?_
    refine rv_iload_n (q := 38) E.x dX12_find_37 rfl rfl ?_
    refine rv_iload (q := 40) E.x dX12_find_38 rfl rfl ?_
    refine rv_iconst (q := 41) E.x dX12_find_40 rv_ki0 rfl ?_
    refine rv_iload (q := 43) E.x dX12_find_41 rfl rfl ?_
    refine rv_b1 (fun r7 e6 => ?_)
    refine rR_calli (q := 46) E (c12_areLines E.2.2.1 e6) gX12_areLines hX12_areLines ⟨rfl, rfl⟩ ⟨Nat.le_of_ble_eq_true rfl, Nat.le_of_ble_eq_true rfl⟩ rfl rfl rfl (Nat.le_of_ble_eq_true rfl) dX12_find_43 rfl ?_
    refine rv_ifz_eq (q := 49) (tgt := 65) E.x dX12_find_46 (by decide) rfl ?_ ?_
    · refine rv_iload (q := 51) E.x dX12_find_49 rfl rfl ?_
      refine rv_iconst (q := 52) E.x dX12_find_51 rv_kim1 rfl ?_
      refine rv_sipush (q := 55) E.x dX12_find_52 rv_ks399 rfl ?_
      refine rv_b1 (fun r9 e8 => ?_)
      refine rR_calls (q := 58) E (c12_isIn e8) gX12_isIn hX12_isIn ⟨rfl, rfl⟩ ⟨Nat.le_of_ble_eq_true rfl, Nat.le_of_ble_eq_true rfl⟩ rfl rfl rfl (Nat.le_of_ble_eq_true rfl) dX12_find_55 rfl ?_
      refine rv_ifz_eq (q := 61) (tgt := 65) E.x dX12_find_58 (by decide) rfl ?_ ?_
      · refine rv_iconst (q := 62) E.x dX12_find_61 rv_ki1 rfl ?_
        refine rv_goto (q := 66) E.x dX12_find_62 (by decide) ?_
        refine rv_wk [true, true, true, true, true, true, true, false] ?_
        exact b12_find_66 E M3 x1 x2 x3 x4 x5 x6 true
      · refine rv_wk [true, true, true, true, true, true, true, false] ?_
        exact b12_find_65 E M3 x1 x2 x3 x4 x5 x6
    · refine rv_wk [true, true, true, true, true, true, true, false] ?_
      exact b12_find_65 E M3 x1 x2 x3 x4 x5 x6
set_option maxRecDepth 100000 in
theorem b12_find_21 {p : Program} {l : Launch} {e : Env} {s : State} {m : MethodId} {args : Array Value} {below : List Frame} {meth : Method} {c : Code} {D : va_G} {cI cZ : ClassId} {ad : Nat → Nat} (E : rR_E D cI cZ ad cX12_find 8 (some .int) p s m args meth c)   : ∀ (M : rv_Mem) (x1 : Int32) (x2 : Int32) (x3 : Int32) (x4 : Int32) (x5 : Int32) (x6 : Int32), rv_M (rR_G D cI cZ ad) (rR_A ad) p l e rm12_find s m args below meth c 0 0 (rR_qIW D cI cZ ad below args s) (f12_find_21 M x1 x2 x3 x4 x5 x6) 21 [some (.ref (ad 67)), some (.int x1), some (.int x2), some (.int x3), some (.int x4), some (.int x5), some (.int x6), none] [.ref (ad 67)] M := by
  intro M x1 x2 x3 x4 x5 x6
  unfold f12_find_21
  refine rv_iconst (q := 22) E.x dX12_find_21 rv_ki1 rfl ?_
  refine rv_wk [true, true, true, true, true, true, true, false] ?_
  exact b12_find_22 E M x1 x2 x3 x4 x5 x6 true
set_option maxRecDepth 100000 in
theorem b12_find {p : Program} {l : Launch} {e : Env} {s : State} {m : MethodId} {args : Array Value} {below : List Frame} {meth : Method} {c : Code} {D : va_G} {cI cZ : ClassId} {ad : Nat → Nat} (E : rR_E D cI cZ ad cX12_find 8 (some .int) p s m args meth c) (M : rv_Mem) (a1 : Int32) (a2 : Int32) (a3 : Int32) (a4 : Int32) (a5 : Int32) (a6 : Int32) : rv_M (rR_G D cI cZ ad) (rR_A ad) p l e rm12_find s m args below meth c 0 0  (rR_qIW D cI cZ ad below args s) (f12_find M a1 a2 a3 a4 a5 a6) 0 [some (.ref (ad 67)), some (.int a1), some (.int a2), some (.int a3), some (.int a4), some (.int a5), some (.int a6), none] [] M := by
  unfold f12_find
  refine rv_aload_n (q := 1) E.x dX12_find_0 rfl rfl ?_
  refine rv_aload_n (q := 2) E.x dX12_find_1 rfl rfl ?_
  refine rv_iload_n (q := 3) E.x dX12_find_2 rfl rfl ?_
  refine rv_iload_n (q := 4) E.x dX12_find_3 rfl rfl ?_
  refine rv_b1 (fun r2 e1 => ?_)
  refine rR_calli (q := 7) E (c12_isSet E.2.2.1 e1) gX12_isSet hX12_isSet ⟨rfl, rfl⟩ ⟨Nat.le_of_ble_eq_true rfl, Nat.le_of_ble_eq_true rfl⟩ rfl rfl rfl (Nat.le_of_ble_eq_true rfl) dX12_find_4 rfl ?_
  refine rv_ifz_eq (q := 10) (tgt := 21) E.x dX12_find_7 (by decide) rfl ?_ ?_
  · refine rv_iload_n (q := 11) E.x dX12_find_10 rfl rfl ?_
    refine rv_b1 (fun r4 e3 => ?_)
    refine rR_calls (q := 14) E (c12_isFile e3) gX12_isFile hX12_isFile ⟨rfl, rfl⟩ ⟨Nat.le_of_ble_eq_true rfl, Nat.le_of_ble_eq_true rfl⟩ rfl rfl rfl (Nat.le_of_ble_eq_true rfl) dX12_find_11 rfl ?_
    refine rv_ifz_eq (q := 17) (tgt := 21) E.x dX12_find_14 (by decide) rfl ?_ ?_
    · refine rv_iconst (q := 18) E.x dX12_find_17 rv_ki0 rfl ?_
      refine rv_goto (q := 22) E.x dX12_find_18 (by decide) ?_
      refine rv_wk [true, true, true, true, true, true, true, false] ?_
      exact b12_find_22 E M a1 a2 a3 a4 a5 a6 false
    · refine rv_wk [true, true, true, true, true, true, true, false] ?_
      exact b12_find_21 E M a1 a2 a3 a4 a5 a6
  · refine rv_wk [true, true, true, true, true, true, true, false] ?_
    exact b12_find_21 E M a1 a2 a3 a4 a5 a6
theorem c12_find {l : Launch} {D : va_G} {cI cZ : ClassId} {ad : Nat → Nat} (hI : rR_I ad) {M : rv_Mem} {a1 : Int32} {a2 : Int32} {a3 : Int32} {a4 : Int32} {a5 : Int32} {a6 : Int32} {r : Int32} {M1 : rv_Mem} (h : f12_find M a1 a2 a3 a4 a5 a6 = some (r, M1)) : Met l yX12_find (rv_ws yX12_find cX12_find 8 (some .int)) rm12_find (rR_Pc D cI cZ ad [.ref (ad 67), .int a1, .int a2, .int a3, .int a4, .int a5, .int a6] M) (rR_QI D cI cZ ad r M1) 0 0 (rR_A ad) := rR_met hI rfl (rv_cat rfl) (Nat.le_of_ble_eq_true rfl) (fun p e s m args below meth c E => ⟨(rR_qIW D cI cZ ad below args s), rfl, b12_find E M a1 a2 a3 a4 a5 a6⟩) h
abbrev rm12_areFindings : Room := { frames := 1, cells := 0, slots := 0, locals := 26 }
set_option maxRecDepth 100000 in
theorem b12_areFindings_50 {p : Program} {l : Launch} {e : Env} {s : State} {m : MethodId} {args : Array Value} {below : List Frame} {meth : Method} {c : Code} {D : va_G} {cI cZ : ClassId} {ad : Nat → Nat} (E : rR_E D cI cZ ad cX12_areFindings 5 (some .boolean) p s m args meth c) (M : rv_Mem) (k13 : Int32 → Int32 → Bool → Int32 → Option (Bool)) (h13 : ∀ (x1 : Int32) (x2 : Int32) (x3 : Bool) (x4 : Int32), rv_M (rR_G D cI cZ ad) (rR_A ad) p l e rm12_areFindings s m args below meth c 0 0 (rR_qZ D cI cZ ad below args s M) (k13 x1 x2 x3 x4) 13 [some (.ref (ad 67)), some (.int x1), some (.int x2), some (.int (rv_i x3)), some (.int x4)] [] M) : ∀ (x1 : Int32) (x2 : Int32) (x4 : Int32) (s0 : Bool), rv_M (rR_G D cI cZ ad) (rR_A ad) p l e rm12_areFindings s m args below meth c 0 0 (rR_qZ D cI cZ ad below args s M) (f12_areFindings_50 M k13 x1 x2 x4 s0) 50 [some (.ref (ad 67)), some (.int x1), some (.int x2), none, some (.int x4)] [.int (rv_i s0)] M := by
  intro x1 x2 x4 s0
  unfold f12_areFindings_50
  refine rv_istore_n (q := 51) (lv' := [_, _, _, _, _]) E.x dX12_areFindings_50 (Nat.le_of_ble_eq_true rfl) rfl rfl rfl ?_
  refine rv_iinc (q := 54) (lv' := [_, _, _, _, _]) E.x dX12_areFindings_51 rv_ki1 rfl rfl rfl rfl ?_
  refine rv_goto (q := 13) E.x dX12_areFindings_54 (by decide) ?_
  refine rv_wk [true, true, true, true, true] ?_
  exact h13 x1 x2 s0 (x4 + 1)
set_option maxRecDepth 100000 in
theorem b12_areFindings_45 {p : Program} {l : Launch} {e : Env} {s : State} {m : MethodId} {args : Array Value} {below : List Frame} {meth : Method} {c : Code} {D : va_G} {cI cZ : ClassId} {ad : Nat → Nat} (E : rR_E D cI cZ ad cX12_areFindings 5 (some .boolean) p s m args meth c) (M : rv_Mem) (k13 : Int32 → Int32 → Bool → Int32 → Option (Bool)) (h13 : ∀ (x1 : Int32) (x2 : Int32) (x3 : Bool) (x4 : Int32), rv_M (rR_G D cI cZ ad) (rR_A ad) p l e rm12_areFindings s m args below meth c 0 0 (rR_qZ D cI cZ ad below args s M) (k13 x1 x2 x3 x4) 13 [some (.ref (ad 67)), some (.int x1), some (.int x2), some (.int (rv_i x3)), some (.int x4)] [] M) : ∀ (x1 : Int32) (x2 : Int32) (x4 : Int32), rv_M (rR_G D cI cZ ad) (rR_A ad) p l e rm12_areFindings s m args below meth c 0 0 (rR_qZ D cI cZ ad below args s M) (f12_areFindings_45 M k13 x1 x2 x4) 45 [some (.ref (ad 67)), some (.int x1), some (.int x2), none, some (.int x4)] [] M := by
  intro x1 x2 x4
  unfold f12_areFindings_45
  refine rv_iconst (q := 46) E.x dX12_areFindings_45 rv_ki1 rfl ?_
  refine rv_goto (q := 50) E.x dX12_areFindings_46 (by decide) ?_
  refine rv_wk [true, true, true, false, true] ?_
  exact b12_areFindings_50 E M k13 h13 x1 x2 x4 true
set_option maxRecDepth 100000 in
theorem b12_areFindings_13_s {p : Program} {l : Launch} {e : Env} {s : State} {m : MethodId} {args : Array Value} {below : List Frame} {meth : Method} {c : Code} {D : va_G} {cI cZ : ClassId} {ad : Nat → Nat} (E : rR_E D cI cZ ad cX12_areFindings 5 (some .boolean) p s m args meth c) (M : rv_Mem)   (k13 : Int32 → Int32 → Bool → Int32 → Option (Bool)) (h13 : ∀ (x1 : Int32) (x2 : Int32) (x3 : Bool) (x4 : Int32), rv_M (rR_G D cI cZ ad) (rR_A ad) p l e rm12_areFindings s m args below meth c 0 0 (rR_qZ D cI cZ ad below args s M) (k13 x1 x2 x3 x4) 13 [some (.ref (ad 67)), some (.int x1), some (.int x2), some (.int (rv_i x3)), some (.int x4)] [] M) : ∀ (x1 : Int32) (x2 : Int32) (x3 : Bool) (x4 : Int32), rv_M (rR_G D cI cZ ad) (rR_A ad) p l e rm12_areFindings s m args below meth c 0 0 (rR_qZ D cI cZ ad below args s M) (f12_areFindings_13_s M k13 x1 x2 x3 x4) 13 [some (.ref (ad 67)), some (.int x1), some (.int x2), some (.int (rv_i x3)), some (.int x4)] [] M := by
  intro x1 x2 x3 x4
  unfold f12_areFindings_13_s
  refine rv_iload (q := 15) E.x dX12_areFindings_13 rfl rfl ?_
  refine rv_bipush (q := 17) E.x dX12_areFindings_15 rv_kb31 rfl ?_
  refine rv_icmp_ge (q := 20) (tgt := 57) E.x dX12_areFindings_17 (by decide) rfl ?_ ?_
  · refine rv_iload_n (q := 21) E.x dX12_areFindings_20 rfl rfl ?_
    refine rv_ifz_eq (q := 24) (tgt := 57) E.x dX12_areFindings_21 (by decide) rfl ?_ ?_
    · refine rv_aload_n (q := 25) E.x dX12_areFindings_24 rfl rfl ?_
      refine rv_iload_n (q := 26) E.x dX12_areFindings_25 rfl rfl ?_
      refine rv_iload (q := 28) E.x dX12_areFindings_26 rfl rfl ?_
      refine rv_b1 (fun r2 e1 => ?_)
      refine rR_calli (q := 31) E (c12_isTaken E.2.2.1 e1) gX12_isTaken hX12_isTaken ⟨rfl, rfl⟩ ⟨Nat.le_of_ble_eq_true rfl, Nat.le_of_ble_eq_true rfl⟩ rfl rfl rfl (Nat.le_of_ble_eq_true rfl) dX12_areFindings_28 rfl ?_
      refine rv_ifz_eq (q := 34) (tgt := 45) E.x dX12_areFindings_31 (by decide) rfl ?_ ?_
      · refine rv_aload_n (q := 35) E.x dX12_areFindings_34 rfl rfl ?_
        refine rv_iload_n (q := 36) E.x dX12_areFindings_35 rfl rfl ?_
        refine rv_iload (q := 38) E.x dX12_areFindings_36 rfl rfl ?_
        refine rv_b1 (fun r4 e3 => ?_)
        refine rR_calli (q := 41) E (c12_findingAt E.2.2.1 e3) gX12_findingAt hX12_findingAt ⟨rfl, rfl⟩ ⟨Nat.le_of_ble_eq_true rfl, Nat.le_of_ble_eq_true rfl⟩ rfl rfl rfl (Nat.le_of_ble_eq_true rfl) dX12_areFindings_38 rfl ?_
        refine rv_iconst (q := 42) E.x dX12_areFindings_41 rv_kim1 rfl ?_
        refine rv_icmp_eq (q := 45) (tgt := 49) E.x dX12_areFindings_42 (by decide) rfl ?_ ?_
        · refine rv_wk [true, true, true, false, true] ?_
          exact b12_areFindings_45 E M k13 h13 x1 x2 x4
        · refine rv_iconst (q := 50) E.x dX12_areFindings_49 rv_ki0 rfl ?_
          refine rv_wk [true, true, true, false, true] ?_
          exact b12_areFindings_50 E M k13 h13 x1 x2 x4 false
      · refine rv_wk [true, true, true, false, true] ?_
        exact b12_areFindings_45 E M k13 h13 x1 x2 x4
    · refine rv_iload_n (q := 58) E.x dX12_areFindings_57 rfl rfl ?_
      exact rR_zret E x3 rfl dX12_areFindings_58
  · refine rv_iload_n (q := 58) E.x dX12_areFindings_57 rfl rfl ?_
    exact rR_zret E x3 rfl dX12_areFindings_58
theorem b12_areFindings_13 {p : Program} {l : Launch} {e : Env} {s : State} {m : MethodId} {args : Array Value} {below : List Frame} {meth : Method} {c : Code} {D : va_G} {cI cZ : ClassId} {ad : Nat → Nat} (E : rR_E D cI cZ ad cX12_areFindings 5 (some .boolean) p s m args meth c) (M : rv_Mem)   : ∀ (n : Nat), ∀ (x1 : Int32) (x2 : Int32) (x3 : Bool) (x4 : Int32), rv_M (rR_G D cI cZ ad) (rR_A ad) p l e rm12_areFindings s m args below meth c 0 0 (rR_qZ D cI cZ ad below args s M) (f12_areFindings_13 M n x1 x2 x3 x4) 13 [some (.ref (ad 67)), some (.int x1), some (.int x2), some (.int (rv_i x3)), some (.int x4)] [] M := by
  intro n
  induction n with
  | zero => exact fun _ _ _ _ => rv_stuck
  | succ n ih => exact b12_areFindings_13_s E M (f12_areFindings_13 M n) ih
set_option maxRecDepth 100000 in
theorem b12_areFindings_9 {p : Program} {l : Launch} {e : Env} {s : State} {m : MethodId} {args : Array Value} {below : List Frame} {meth : Method} {c : Code} {D : va_G} {cI cZ : ClassId} {ad : Nat → Nat} (E : rR_E D cI cZ ad cX12_areFindings 5 (some .boolean) p s m args meth c) (M : rv_Mem)   : ∀ (x1 : Int32) (x2 : Int32) (s0 : Bool), rv_M (rR_G D cI cZ ad) (rR_A ad) p l e rm12_areFindings s m args below meth c 0 0 (rR_qZ D cI cZ ad below args s M) (f12_areFindings_9 M x1 x2 s0) 9 [some (.ref (ad 67)), some (.int x1), some (.int x2), none, none] [.int (rv_i s0)] M := by
  intro x1 x2 s0
  unfold f12_areFindings_9
  refine rv_istore_n (q := 10) (lv' := [_, _, _, _, _]) E.x dX12_areFindings_9 (Nat.le_of_ble_eq_true rfl) rfl rfl rfl ?_
  refine rv_iconst (q := 11) E.x dX12_areFindings_10 rv_ki0 rfl ?_
  refine rv_istore (q := 13) (lv' := [_, _, _, _, _]) E.x dX12_areFindings_11 (Nat.le_of_ble_eq_true rfl) rfl rfl rfl ?_
  refine rv_wk [true, true, true, true, true] ?_
  exact b12_areFindings_13 E M rv_FU x1 x2 s0 0
set_option maxRecDepth 100000 in
theorem b12_areFindings {p : Program} {l : Launch} {e : Env} {s : State} {m : MethodId} {args : Array Value} {below : List Frame} {meth : Method} {c : Code} {D : va_G} {cI cZ : ClassId} {ad : Nat → Nat} (E : rR_E D cI cZ ad cX12_areFindings 5 (some .boolean) p s m args meth c) (M : rv_Mem) (a1 : Int32) (a2 : Int32) : rv_M (rR_G D cI cZ ad) (rR_A ad) p l e rm12_areFindings s m args below meth c 0 0  (rR_qZ D cI cZ ad below args s M) (f12_areFindings M a1 a2) 0 [some (.ref (ad 67)), some (.int a1), some (.int a2), none, none] [] M := by
  unfold f12_areFindings
  refine rv_iload_n (q := 1) E.x dX12_areFindings_0 rfl rfl ?_
  refine rv_if_lt (q := 4) (tgt := 8) E.x dX12_areFindings_1 (by decide) rfl ?_ ?_
  · refine rv_iconst (q := 5) E.x dX12_areFindings_4 rv_ki1 rfl ?_
    refine rv_goto (q := 9) E.x dX12_areFindings_5 (by decide) ?_
    refine rv_wk [true, true, true, false, false] ?_
    exact b12_areFindings_9 E M a1 a2 true
  · refine rv_iconst (q := 9) E.x dX12_areFindings_8 rv_ki0 rfl ?_
    refine rv_wk [true, true, true, false, false] ?_
    exact b12_areFindings_9 E M a1 a2 false
theorem c12_areFindings {l : Launch} {D : va_G} {cI cZ : ClassId} {ad : Nat → Nat} (hI : rR_I ad) {M : rv_Mem} {a1 : Int32} {a2 : Int32} {r : Bool} (h : f12_areFindings M a1 a2 = some r) : Met l yX12_areFindings (rv_ws yX12_areFindings cX12_areFindings 5 (some .boolean)) rm12_areFindings (rR_Pc D cI cZ ad [.ref (ad 67), .int a1, .int a2] M) (rR_QI D cI cZ ad (rv_i r) M) 0 0 (rR_A ad) := rR_met hI rfl (rv_cat rfl) (Nat.le_of_ble_eq_true rfl) (fun p e s m args below meth c E => ⟨(rR_qZ D cI cZ ad below args s M), rfl, b12_areFindings E M a1 a2⟩) h
abbrev rm12_areShort : Room := { frames := 3, cells := 0, slots := 0, locals := 80 }
set_option maxRecDepth 100000 in
theorem b12_areShort {p : Program} {l : Launch} {e : Env} {s : State} {m : MethodId} {args : Array Value} {below : List Frame} {meth : Method} {c : Code} {D : va_G} {cI cZ : ClassId} {ad : Nat → Nat} (E : rR_E D cI cZ ad cX12_areShort 3 (some .boolean) p s m args meth c) (M : rv_Mem) (a1 : Int32) (a2 : Int32) : rv_M (rR_G D cI cZ ad) (rR_A ad) p l e rm12_areShort s m args below meth c 0 0  (rR_qZW D cI cZ ad below args s) (f12_areShort M a1 a2) 0 [some (.ref (ad 67)), some (.int a1), some (.int a2)] [] M := by
  unfold f12_areShort
  refine rv_aload_n (q := 1) E.x dX12_areShort_0 rfl rfl ?_
  refine rv_iload_n (q := 2) E.x dX12_areShort_1 rfl rfl ?_
  refine rv_iload_n (q := 3) E.x dX12_areShort_2 rfl rfl ?_
  refine rv_iconst (q := 4) E.x dX12_areShort_3 rv_ki0 rfl ?_
  refine rv_b2 (fun r2 M3 e1 => ?_)
  refine rR_calli (q := 7) E (c12_fixes E.2.2.1 e1) gX12_fixes hX12_fixes ⟨rfl, rfl⟩ ⟨Nat.le_of_ble_eq_true rfl, Nat.le_of_ble_eq_true rfl⟩ rfl rfl rfl (Nat.le_of_ble_eq_true rfl) dX12_areShort_4 rfl ?_
  refine rv_bipush (q := 9) E.x dX12_areShort_7 rv_kb10 rfl ?_
  refine rv_icmp_gt (q := 12) (tgt := 52) E.x dX12_areShort_9 (by decide) rfl ?_ ?_
  · refine rv_aload_n (q := 13) E.x dX12_areShort_12 rfl rfl ?_
    refine rv_iload_n (q := 14) E.x dX12_areShort_13 rfl rfl ?_
    refine rv_iload_n (q := 15) E.x dX12_areShort_14 rfl rfl ?_
    refine rv_iconst (q := 16) E.x dX12_areShort_15 rv_ki1 rfl ?_
    refine rv_b2 (fun r5 M6 e4 => ?_)
    refine rR_calli (q := 19) E (c12_fixes E.2.2.1 e4) gX12_fixes hX12_fixes ⟨rfl, rfl⟩ ⟨Nat.le_of_ble_eq_true rfl, Nat.le_of_ble_eq_true rfl⟩ rfl rfl rfl (Nat.le_of_ble_eq_true rfl) dX12_areShort_16 rfl ?_
    refine rv_bipush (q := 21) E.x dX12_areShort_19 rv_kb10 rfl ?_
    refine rv_icmp_gt (q := 24) (tgt := 52) E.x dX12_areShort_21 (by decide) rfl ?_ ?_
    · refine rv_aload_n (q := 25) E.x dX12_areShort_24 rfl rfl ?_
      refine rv_iload_n (q := 26) E.x dX12_areShort_25 rfl rfl ?_
      refine rv_iload_n (q := 27) E.x dX12_areShort_26 rfl rfl ?_
      refine rv_iconst (q := 28) E.x dX12_areShort_27 rv_ki2 rfl ?_
      refine rv_b2 (fun r8 M9 e7 => ?_)
      refine rR_calli (q := 31) E (c12_fixes E.2.2.1 e7) gX12_fixes hX12_fixes ⟨rfl, rfl⟩ ⟨Nat.le_of_ble_eq_true rfl, Nat.le_of_ble_eq_true rfl⟩ rfl rfl rfl (Nat.le_of_ble_eq_true rfl) dX12_areShort_28 rfl ?_
      refine rv_bipush (q := 33) E.x dX12_areShort_31 rv_kb10 rfl ?_
      refine rv_icmp_gt (q := 36) (tgt := 52) E.x dX12_areShort_33 (by decide) rfl ?_ ?_
      · refine rv_aload_n (q := 37) E.x dX12_areShort_36 rfl rfl ?_
        refine rv_iload_n (q := 38) E.x dX12_areShort_37 rfl rfl ?_
        refine rv_iload_n (q := 39) E.x dX12_areShort_38 rfl rfl ?_
        refine rv_iconst (q := 40) E.x dX12_areShort_39 rv_ki3 rfl ?_
        refine rv_b2 (fun r11 M12 e10 => ?_)
        refine rR_calli (q := 43) E (c12_fixes E.2.2.1 e10) gX12_fixes hX12_fixes ⟨rfl, rfl⟩ ⟨Nat.le_of_ble_eq_true rfl, Nat.le_of_ble_eq_true rfl⟩ rfl rfl rfl (Nat.le_of_ble_eq_true rfl) dX12_areShort_40 rfl ?_
        refine rv_bipush (q := 45) E.x dX12_areShort_43 rv_kb10 rfl ?_
        refine rv_icmp_gt (q := 48) (tgt := 52) E.x dX12_areShort_45 (by decide) rfl ?_ ?_
        · refine rv_iconst (q := 49) E.x dX12_areShort_48 rv_ki1 rfl ?_
          refine rv_goto (q := 53) E.x dX12_areShort_49 (by decide) ?_
          exact rR_zret E true rfl dX12_areShort_53
        · refine rv_iconst (q := 53) E.x dX12_areShort_52 rv_ki0 rfl ?_
          exact rR_zret E false rfl dX12_areShort_53
      · refine rv_iconst (q := 53) E.x dX12_areShort_52 rv_ki0 rfl ?_
        exact rR_zret E false rfl dX12_areShort_53
    · refine rv_iconst (q := 53) E.x dX12_areShort_52 rv_ki0 rfl ?_
      exact rR_zret E false rfl dX12_areShort_53
  · refine rv_iconst (q := 53) E.x dX12_areShort_52 rv_ki0 rfl ?_
    exact rR_zret E false rfl dX12_areShort_53
theorem c12_areShort {l : Launch} {D : va_G} {cI cZ : ClassId} {ad : Nat → Nat} (hI : rR_I ad) {M : rv_Mem} {a1 : Int32} {a2 : Int32} {r : Bool} {M1 : rv_Mem} (h : f12_areShort M a1 a2 = some (r, M1)) : Met l yX12_areShort (rv_ws yX12_areShort cX12_areShort 3 (some .boolean)) rm12_areShort (rR_Pc D cI cZ ad [.ref (ad 67), .int a1, .int a2] M) (rR_QI D cI cZ ad (rv_i r) M1) 0 0 (rR_A ad) := rR_met hI rfl (rv_cat rfl) (Nat.le_of_ble_eq_true rfl) (fun p e s m args below meth c E => ⟨(rR_qZW D cI cZ ad below args s), rfl, b12_areShort E M a1 a2⟩) h
abbrev rm12_takeFixes : Room := { frames := 4, cells := 0, slots := 0, locals := 102 }
set_option maxRecDepth 100000 in
theorem b12_takeFixes_90_s {p : Program} {l : Launch} {e : Env} {s : State} {m : MethodId} {args : Array Value} {below : List Frame} {meth : Method} {c : Code} {D : va_G} {cI cZ : ClassId} {ad : Nat → Nat} (E : rR_E D cI cZ ad cX12_takeFixes 5 (some .int) p s m args meth c) (k65 : rv_Mem → Int32 → Int32 → Int32 → Option (Int32 × rv_Mem)) (h65 : ∀ (M : rv_Mem) (x1 : Int32) (x2 : Int32) (x3 : Int32), rv_M (rR_G D cI cZ ad) (rR_A ad) p l e rm12_takeFixes s m args below meth c 0 0 (rR_qIW D cI cZ ad below args s) (k65 M x1 x2 x3) 65 [some (.ref (ad 67)), some (.int x1), some (.int x2), some (.int x3), none] [] M) (k90 : rv_Mem → Int32 → Int32 → Int32 → Int32 → Option (Int32 × rv_Mem)) (h90 : ∀ (M : rv_Mem) (x1 : Int32) (x2 : Int32) (x3 : Int32) (x4 : Int32), rv_M (rR_G D cI cZ ad) (rR_A ad) p l e rm12_takeFixes s m args below meth c 0 0 (rR_qIW D cI cZ ad below args s) (k90 M x1 x2 x3 x4) 90 [some (.ref (ad 67)), some (.int x1), some (.int x2), some (.int x3), some (.int x4)] [] M) : ∀ (M : rv_Mem) (x1 : Int32) (x2 : Int32) (x3 : Int32) (x4 : Int32), rv_M (rR_G D cI cZ ad) (rR_A ad) p l e rm12_takeFixes s m args below meth c 0 0 (rR_qIW D cI cZ ad below args s) (f12_takeFixes_90_s k65 k90 M x1 x2 x3 x4) 90 [some (.ref (ad 67)), some (.int x1), some (.int x2), some (.int x3), some (.int x4)] [] M := by
  intro M x1 x2 x3 x4
  unfold f12_takeFixes_90_s
  refine rv_iload (q := 92) E.x dX12_takeFixes_90 rfl rfl ?_
  refine rv_aload_n (q := 93) E.x dX12_takeFixes_92 rfl rfl ?_
  refine rR_get (q := 96) E 63 wf12_63 rfl (Nat.le_of_ble_eq_true rfl) rfl dX12_takeFixes_93 rfl ?_
  refine rv_icmp_ge (q := 99) (tgt := 128) E.x dX12_takeFixes_96 (by decide) rfl ?_ ?_
  · refine rv_aload_n (q := 100) E.x dX12_takeFixes_99 rfl rfl ?_
    refine rR_get (q := 103) E 4 wf12_4 rfl (Nat.le_of_ble_eq_true rfl) rfl dX12_takeFixes_100 rfl ?_
    refine rv_bipush (q := 105) E.x dX12_takeFixes_103 rv_kb10 rfl ?_
    refine rv_sipush (q := 108) E.x dX12_takeFixes_105 rv_ks320 rfl ?_
    refine rv_iload_n (q := 109) E.x dX12_takeFixes_108 rfl rfl ?_
    refine rv_iadd (q := 110) E.x dX12_takeFixes_109 rfl ?_
    refine rv_imul (q := 111) E.x dX12_takeFixes_110 rfl ?_
    refine rv_iload (q := 113) E.x dX12_takeFixes_111 rfl rfl ?_
    refine rv_iadd (q := 114) E.x dX12_takeFixes_113 rfl ?_
    refine rv_aload_n (q := 115) E.x dX12_takeFixes_114 rfl rfl ?_
    refine rR_get (q := 118) E 62 wf12_62 rfl (Nat.le_of_ble_eq_true rfl) rfl dX12_takeFixes_115 rfl ?_
    refine rv_iload (q := 120) E.x dX12_takeFixes_118 rfl rfl ?_
    refine rR_iald (q := 121) (n := 24) E (Nat.le_of_ble_eq_true rfl) rfl rfl dX12_takeFixes_120 rfl ?_
    refine rR_iast (q := 122) (n := 3280) E (Nat.le_of_ble_eq_true rfl) rfl rfl dX12_takeFixes_121 rfl ?_
    refine rv_ltm (fun M1 => ?_)
    refine rv_iinc (q := 125) (lv' := [_, _, _, _, _]) E.x dX12_takeFixes_122 rv_ki1 rfl rfl rfl rfl ?_
    refine rv_goto (q := 90) E.x dX12_takeFixes_125 (by decide) ?_
    refine rv_wk [true, true, true, true, true] ?_
    exact h90 M1 x1 x2 x3 (x4 + 1)
  · refine rv_iinc (q := 131) (lv' := [_, _, _, _, _]) E.x dX12_takeFixes_128 rv_ki1 rfl rfl rfl rfl ?_
    refine rv_goto (q := 65) E.x dX12_takeFixes_131 (by decide) ?_
    refine rv_wk [true, true, true, true, false] ?_
    exact h65 M x1 x2 (x3 + 1)
theorem b12_takeFixes_90 {p : Program} {l : Launch} {e : Env} {s : State} {m : MethodId} {args : Array Value} {below : List Frame} {meth : Method} {c : Code} {D : va_G} {cI cZ : ClassId} {ad : Nat → Nat} (E : rR_E D cI cZ ad cX12_takeFixes 5 (some .int) p s m args meth c) (k65 : rv_Mem → Int32 → Int32 → Int32 → Option (Int32 × rv_Mem)) (h65 : ∀ (M : rv_Mem) (x1 : Int32) (x2 : Int32) (x3 : Int32), rv_M (rR_G D cI cZ ad) (rR_A ad) p l e rm12_takeFixes s m args below meth c 0 0 (rR_qIW D cI cZ ad below args s) (k65 M x1 x2 x3) 65 [some (.ref (ad 67)), some (.int x1), some (.int x2), some (.int x3), none] [] M) : ∀ (n : Nat), ∀ (M : rv_Mem) (x1 : Int32) (x2 : Int32) (x3 : Int32) (x4 : Int32), rv_M (rR_G D cI cZ ad) (rR_A ad) p l e rm12_takeFixes s m args below meth c 0 0 (rR_qIW D cI cZ ad below args s) (f12_takeFixes_90 k65 n M x1 x2 x3 x4) 90 [some (.ref (ad 67)), some (.int x1), some (.int x2), some (.int x3), some (.int x4)] [] M := by
  intro n
  induction n with
  | zero => exact fun _ _ _ _ _ => rv_stuck
  | succ n ih => exact b12_takeFixes_90_s E k65 h65 (f12_takeFixes_90 k65 n) ih
set_option maxRecDepth 100000 in
theorem b12_takeFixes_179 {p : Program} {l : Launch} {e : Env} {s : State} {m : MethodId} {args : Array Value} {below : List Frame} {meth : Method} {c : Code} {D : va_G} {cI cZ : ClassId} {ad : Nat → Nat} (E : rR_E D cI cZ ad cX12_takeFixes 5 (some .int) p s m args meth c) (k156 : rv_Mem → Int32 → Int32 → Int32 → Option (Int32 × rv_Mem)) (h156 : ∀ (M : rv_Mem) (x2 : Int32) (x3 : Int32) (x4 : Int32), rv_M (rR_G D cI cZ ad) (rR_A ad) p l e rm12_takeFixes s m args below meth c 0 0 (rR_qIW D cI cZ ad below args s) (k156 M x2 x3 x4) 156 [some (.ref (ad 67)), none, some (.int x2), some (.int x3), some (.int x4)] [] M) : ∀ (M : rv_Mem) (x2 : Int32) (x4 : Int32) (s0 : Int32) (s1 : Bool), rv_M (rR_G D cI cZ ad) (rR_A ad) p l e rm12_takeFixes s m args below meth c 0 0 (rR_qIW D cI cZ ad below args s) (f12_takeFixes_179 k156 M x2 x4 s0 s1) 179 [some (.ref (ad 67)), none, some (.int x2), none, some (.int x4)] [.int (rv_i s1), .int s0] M := by
  intro M x2 x4 s0 s1
  unfold f12_takeFixes_179
  refine rv_iadd (q := 180) E.x dX12_takeFixes_179 rfl ?_
  refine rv_istore_n (q := 181) (lv' := [_, _, _, _, _]) E.x dX12_takeFixes_180 (Nat.le_of_ble_eq_true rfl) rfl rfl rfl ?_
  refine rv_iinc (q := 184) (lv' := [_, _, _, _, _]) E.x dX12_takeFixes_181 rv_ki1 rfl rfl rfl rfl ?_
  refine rv_goto (q := 156) E.x dX12_takeFixes_184 (by decide) ?_
  refine rv_wk [true, false, true, true, true] ?_
  exact h156 M x2 (s0 + (rv_i s1)) (x4 + 1)
set_option maxRecDepth 100000 in
theorem b12_takeFixes_156_s {p : Program} {l : Launch} {e : Env} {s : State} {m : MethodId} {args : Array Value} {below : List Frame} {meth : Method} {c : Code} {D : va_G} {cI cZ : ClassId} {ad : Nat → Nat} (E : rR_E D cI cZ ad cX12_takeFixes 5 (some .int) p s m args meth c)   (k156 : rv_Mem → Int32 → Int32 → Int32 → Option (Int32 × rv_Mem)) (h156 : ∀ (M : rv_Mem) (x2 : Int32) (x3 : Int32) (x4 : Int32), rv_M (rR_G D cI cZ ad) (rR_A ad) p l e rm12_takeFixes s m args below meth c 0 0 (rR_qIW D cI cZ ad below args s) (k156 M x2 x3 x4) 156 [some (.ref (ad 67)), none, some (.int x2), some (.int x3), some (.int x4)] [] M) : ∀ (M : rv_Mem) (x2 : Int32) (x3 : Int32) (x4 : Int32), rv_M (rR_G D cI cZ ad) (rR_A ad) p l e rm12_takeFixes s m args below meth c 0 0 (rR_qIW D cI cZ ad below args s) (f12_takeFixes_156_s k156 M x2 x3 x4) 156 [some (.ref (ad 67)), none, some (.int x2), some (.int x3), some (.int x4)] [] M := by
  intro M x2 x3 x4
  unfold f12_takeFixes_156_s
  refine rv_iload (q := 158) E.x dX12_takeFixes_156 rfl rfl ?_
  refine rv_bipush (q := 160) E.x dX12_takeFixes_158 rv_kb31 rfl ?_
  refine rv_icmp_ge (q := 163) (tgt := 187) E.x dX12_takeFixes_160 (by decide) rfl ?_ ?_
  · refine rv_iload_n (q := 164) E.x dX12_takeFixes_163 rfl rfl ?_
    refine rv_aload_n (q := 165) E.x dX12_takeFixes_164 rfl rfl ?_
    refine rv_iload_n (q := 166) E.x dX12_takeFixes_165 rfl rfl ?_
    refine rv_iload (q := 168) E.x dX12_takeFixes_166 rfl rfl ?_
    refine rv_b1 (fun r2 e1 => ?_)
    refine rR_calli (q := 171) E (c12_isTaken E.2.2.1 e1) gX12_isTaken hX12_isTaken ⟨rfl, rfl⟩ ⟨Nat.le_of_ble_eq_true rfl, Nat.le_of_ble_eq_true rfl⟩ rfl rfl rfl (Nat.le_of_ble_eq_true rfl) dX12_takeFixes_168 rfl ?_
    refine rv_ifz_eq (q := 174) (tgt := 178) E.x dX12_takeFixes_171 (by decide) rfl ?_ ?_
    · refine rv_iconst (q := 175) E.x dX12_takeFixes_174 rv_ki1 rfl ?_
      refine rv_goto (q := 179) E.x dX12_takeFixes_175 (by decide) ?_
      refine rv_wk [true, false, true, false, true] ?_
      exact b12_takeFixes_179 E k156 h156 M x2 x4 x3 true
    · refine rv_iconst (q := 179) E.x dX12_takeFixes_178 rv_ki0 rfl ?_
      refine rv_wk [true, false, true, false, true] ?_
      exact b12_takeFixes_179 E k156 h156 M x2 x4 x3 false
  · refine rv_iload_n (q := 188) E.x dX12_takeFixes_187 rfl rfl ?_
    exact rR_iret E rfl dX12_takeFixes_188
theorem b12_takeFixes_156 {p : Program} {l : Launch} {e : Env} {s : State} {m : MethodId} {args : Array Value} {below : List Frame} {meth : Method} {c : Code} {D : va_G} {cI cZ : ClassId} {ad : Nat → Nat} (E : rR_E D cI cZ ad cX12_takeFixes 5 (some .int) p s m args meth c)   : ∀ (n : Nat), ∀ (M : rv_Mem) (x2 : Int32) (x3 : Int32) (x4 : Int32), rv_M (rR_G D cI cZ ad) (rR_A ad) p l e rm12_takeFixes s m args below meth c 0 0 (rR_qIW D cI cZ ad below args s) (f12_takeFixes_156 n M x2 x3 x4) 156 [some (.ref (ad 67)), none, some (.int x2), some (.int x3), some (.int x4)] [] M := by
  intro n
  induction n with
  | zero => exact fun _ _ _ _ => rv_stuck
  | succ n ih => exact b12_takeFixes_156_s E  (f12_takeFixes_156 n) ih
set_option maxRecDepth 100000 in
theorem b12_takeFixes_65_s {p : Program} {l : Launch} {e : Env} {s : State} {m : MethodId} {args : Array Value} {below : List Frame} {meth : Method} {c : Code} {D : va_G} {cI cZ : ClassId} {ad : Nat → Nat} (E : rR_E D cI cZ ad cX12_takeFixes 5 (some .int) p s m args meth c)   (k65 : rv_Mem → Int32 → Int32 → Int32 → Option (Int32 × rv_Mem)) (h65 : ∀ (M : rv_Mem) (x1 : Int32) (x2 : Int32) (x3 : Int32), rv_M (rR_G D cI cZ ad) (rR_A ad) p l e rm12_takeFixes s m args below meth c 0 0 (rR_qIW D cI cZ ad below args s) (k65 M x1 x2 x3) 65 [some (.ref (ad 67)), some (.int x1), some (.int x2), some (.int x3), none] [] M) : ∀ (M : rv_Mem) (x1 : Int32) (x2 : Int32) (x3 : Int32), rv_M (rR_G D cI cZ ad) (rR_A ad) p l e rm12_takeFixes s m args below meth c 0 0 (rR_qIW D cI cZ ad below args s) (f12_takeFixes_65_s k65 M x1 x2 x3) 65 [some (.ref (ad 67)), some (.int x1), some (.int x2), some (.int x3), none] [] M := by
  intro M x1 x2 x3
  unfold f12_takeFixes_65_s
  refine rv_iload_n (q := 66) E.x dX12_takeFixes_65 rfl rfl ?_
  refine rv_iconst (q := 67) E.x dX12_takeFixes_66 rv_ki4 rfl ?_
  refine rv_icmp_ge (q := 70) (tgt := 134) E.x dX12_takeFixes_67 (by decide) rfl ?_ ?_
  · refine rv_aload_n (q := 71) E.x dX12_takeFixes_70 rfl rfl ?_
    refine rR_get (q := 74) E 3 wf12_3 rfl (Nat.le_of_ble_eq_true rfl) rfl dX12_takeFixes_71 rfl ?_
    refine rv_sipush (q := 77) E.x dX12_takeFixes_74 rv_ks320 rfl ?_
    refine rv_iload_n (q := 78) E.x dX12_takeFixes_77 rfl rfl ?_
    refine rv_iadd (q := 79) E.x dX12_takeFixes_78 rfl ?_
    refine rv_aload_n (q := 80) E.x dX12_takeFixes_79 rfl rfl ?_
    refine rv_iload_n (q := 81) E.x dX12_takeFixes_80 rfl rfl ?_
    refine rv_iload_n (q := 82) E.x dX12_takeFixes_81 rfl rfl ?_
    refine rv_iload_n (q := 83) E.x dX12_takeFixes_82 rfl rfl ?_
    refine rv_b2 (fun r2 M3 e1 => ?_)
    refine rR_calli (q := 86) E (c12_fixes E.2.2.1 e1) gX12_fixes hX12_fixes ⟨rfl, rfl⟩ ⟨Nat.le_of_ble_eq_true rfl, Nat.le_of_ble_eq_true rfl⟩ rfl rfl rfl (Nat.le_of_ble_eq_true rfl) dX12_takeFixes_83 rfl ?_
    refine rR_iast (q := 87) (n := 328) E (Nat.le_of_ble_eq_true rfl) rfl rfl dX12_takeFixes_86 rfl ?_
    refine rv_ltm (fun M4 => ?_)
    refine rv_iconst (q := 88) E.x dX12_takeFixes_87 rv_ki0 rfl ?_
    refine rv_istore (q := 90) (lv' := [_, _, _, _, _]) E.x dX12_takeFixes_88 (Nat.le_of_ble_eq_true rfl) rfl rfl rfl ?_
    refine rv_wk [true, true, true, true, true] ?_
    exact b12_takeFixes_90 E k65 h65 rv_FU M4 x1 x2 x3 0
  · refine rv_aload_n (q := 135) E.x dX12_takeFixes_134 rfl rfl ?_
    refine rR_get (q := 138) E 2 wf12_2 rfl (Nat.le_of_ble_eq_true rfl) rfl dX12_takeFixes_135 rfl ?_
    refine rv_bipush (q := 140) E.x dX12_takeFixes_138 rv_kb80 rfl ?_
    refine rv_aload_n (q := 141) E.x dX12_takeFixes_140 rfl rfl ?_
    refine rR_get (q := 144) E 2 wf12_2 rfl (Nat.le_of_ble_eq_true rfl) rfl dX12_takeFixes_141 rfl ?_
    refine rv_aload_n (q := 145) E.x dX12_takeFixes_144 rfl rfl ?_
    refine rv_iload_n (q := 146) E.x dX12_takeFixes_145 rfl rfl ?_
    refine rv_b1 (fun r6 e5 => ?_)
    refine rR_calli (q := 149) E (c12_current E.2.2.1 e5) gX12_current hX12_current ⟨rfl, rfl⟩ ⟨Nat.le_of_ble_eq_true rfl, Nat.le_of_ble_eq_true rfl⟩ rfl rfl rfl (Nat.le_of_ble_eq_true rfl) dX12_takeFixes_146 rfl ?_
    refine rR_iald (q := 150) (n := 82) E (Nat.le_of_ble_eq_true rfl) rfl rfl dX12_takeFixes_149 rfl ?_
    refine rR_iast (q := 151) (n := 82) E (Nat.le_of_ble_eq_true rfl) rfl rfl dX12_takeFixes_150 rfl ?_
    refine rv_ltm (fun M7 => ?_)
    refine rv_iconst (q := 152) E.x dX12_takeFixes_151 rv_ki0 rfl ?_
    refine rv_istore_n (q := 153) (lv' := [_, _, _, _, _]) E.x dX12_takeFixes_152 (Nat.le_of_ble_eq_true rfl) rfl rfl rfl ?_
    refine rv_iconst (q := 154) E.x dX12_takeFixes_153 rv_ki0 rfl ?_
    refine rv_istore (q := 156) (lv' := [_, _, _, _, _]) E.x dX12_takeFixes_154 (Nat.le_of_ble_eq_true rfl) rfl rfl rfl ?_
    refine rv_wk [true, false, true, true, true] ?_
    exact b12_takeFixes_156 E rv_FU M7 x2 0 0
theorem b12_takeFixes_65 {p : Program} {l : Launch} {e : Env} {s : State} {m : MethodId} {args : Array Value} {below : List Frame} {meth : Method} {c : Code} {D : va_G} {cI cZ : ClassId} {ad : Nat → Nat} (E : rR_E D cI cZ ad cX12_takeFixes 5 (some .int) p s m args meth c)   : ∀ (n : Nat), ∀ (M : rv_Mem) (x1 : Int32) (x2 : Int32) (x3 : Int32), rv_M (rR_G D cI cZ ad) (rR_A ad) p l e rm12_takeFixes s m args below meth c 0 0 (rR_qIW D cI cZ ad below args s) (f12_takeFixes_65 n M x1 x2 x3) 65 [some (.ref (ad 67)), some (.int x1), some (.int x2), some (.int x3), none] [] M := by
  intro n
  induction n with
  | zero => exact fun _ _ _ _ => rv_stuck
  | succ n ih => exact b12_takeFixes_65_s E  (f12_takeFixes_65 n) ih
set_option maxRecDepth 100000 in
theorem b12_takeFixes_55 {p : Program} {l : Launch} {e : Env} {s : State} {m : MethodId} {args : Array Value} {below : List Frame} {meth : Method} {c : Code} {D : va_G} {cI cZ : ClassId} {ad : Nat → Nat} (E : rR_E D cI cZ ad cX12_takeFixes 5 (some .int) p s m args meth c)   : ∀ (M : rv_Mem) (x1 : Int32) (x2 : Int32) (s1 : Int32), rv_M (rR_G D cI cZ ad) (rR_A ad) p l e rm12_takeFixes s m args below meth c 0 0 (rR_qIW D cI cZ ad below args s) (f12_takeFixes_55 M x1 x2 s1) 55 [some (.ref (ad 67)), some (.int x1), some (.int x2), none, none] [.int s1, .ref (ad 67)] M := by
  intro M x1 x2 s1
  unfold f12_takeFixes_55
  refine rv_b2 (fun r2 M3 e1 => ?_)
  refine rR_calli (q := 58) E (c12_goes E.2.2.1 e1) gX12_goes hX12_goes ⟨rfl, rfl⟩ ⟨Nat.le_of_ble_eq_true rfl, Nat.le_of_ble_eq_true rfl⟩ rfl rfl rfl (Nat.le_of_ble_eq_true rfl) dX12_takeFixes_55 rfl ?_
  refine rv_ifz_ne (q := 61) (tgt := 63) E.x dX12_takeFixes_58 (by decide) rfl ?_ ?_
  · refine rv_iconst (q := 62) E.x dX12_takeFixes_61 rv_ki0 rfl ?_
    exact rR_iret E rfl dX12_takeFixes_62
  · refine rv_iconst (q := 64) E.x dX12_takeFixes_63 rv_ki0 rfl ?_
    refine rv_istore_n (q := 65) (lv' := [_, _, _, _, _]) E.x dX12_takeFixes_64 (Nat.le_of_ble_eq_true rfl) rfl rfl rfl ?_
    refine rv_wk [true, true, true, true, false] ?_
    exact b12_takeFixes_65 E rv_FU M3 x1 x2 0
set_option maxRecDepth 100000 in
theorem b12_takeFixes_54 {p : Program} {l : Launch} {e : Env} {s : State} {m : MethodId} {args : Array Value} {below : List Frame} {meth : Method} {c : Code} {D : va_G} {cI cZ : ClassId} {ad : Nat → Nat} (E : rR_E D cI cZ ad cX12_takeFixes 5 (some .int) p s m args meth c)   : ∀ (M : rv_Mem) (x1 : Int32) (x2 : Int32), rv_M (rR_G D cI cZ ad) (rR_A ad) p l e rm12_takeFixes s m args below meth c 0 0 (rR_qIW D cI cZ ad below args s) (f12_takeFixes_54 M x1 x2) 54 [some (.ref (ad 67)), some (.int x1), some (.int x2), none, none] [.ref (ad 67)] M := by
  intro M x1 x2
  unfold f12_takeFixes_54
  refine rv_iconst (q := 55) E.x dX12_takeFixes_54 rv_ki3 rfl ?_
  refine rv_wk [true, true, true, false, false] ?_
  exact b12_takeFixes_55 E M x1 x2 3
set_option maxRecDepth 100000 in
theorem b12_takeFixes_23 {p : Program} {l : Launch} {e : Env} {s : State} {m : MethodId} {args : Array Value} {below : List Frame} {meth : Method} {c : Code} {D : va_G} {cI cZ : ClassId} {ad : Nat → Nat} (E : rR_E D cI cZ ad cX12_takeFixes 5 (some .int) p s m args meth c)   : ∀ (M : rv_Mem) (x1 : Int32) (x2 : Int32) (s1 : Int32), rv_M (rR_G D cI cZ ad) (rR_A ad) p l e rm12_takeFixes s m args below meth c 0 0 (rR_qIW D cI cZ ad below args s) (f12_takeFixes_23 M x1 x2 s1) 23 [some (.ref (ad 67)), some (.int x1), some (.int x2), none, none] [.int s1, .ref (ad 67)] M := by
  intro M x1 x2 s1
  unfold f12_takeFixes_23
  refine rv_b2 (fun r2 M3 e1 => ?_)
  refine rR_calli (q := 26) E (c12_goes E.2.2.1 e1) gX12_goes hX12_goes ⟨rfl, rfl⟩ ⟨Nat.le_of_ble_eq_true rfl, Nat.le_of_ble_eq_true rfl⟩ rfl rfl rfl (Nat.le_of_ble_eq_true rfl) dX12_takeFixes_23 rfl ?_
  refine rv_ifz_ne (q := 29) (tgt := 31) E.x dX12_takeFixes_26 (by decide) rfl ?_ ?_
  · refine rv_iconst (q := 30) E.x dX12_takeFixes_29 rv_ki0 rfl ?_
    exact rR_iret E rfl dX12_takeFixes_30
  · refine rv_aload_n (q := 32) E.x dX12_takeFixes_31 rfl rfl ?_
    refine rv_aload_n (q := 33) E.x dX12_takeFixes_32 rfl rfl ?_
    refine rv_iload_n (q := 34) E.x dX12_takeFixes_33 rfl rfl ?_
    refine rv_iload_n (q := 35) E.x dX12_takeFixes_34 rfl rfl ?_
    refine rv_b1 (fun r5 e4 => ?_)
    refine rR_calli (q := 38) E (c12_areAllApart E.2.2.1 e4) gX12_areAllApart hX12_areAllApart ⟨rfl, rfl⟩ ⟨Nat.le_of_ble_eq_true rfl, Nat.le_of_ble_eq_true rfl⟩ rfl rfl rfl (Nat.le_of_ble_eq_true rfl) dX12_takeFixes_35 rfl ?_
    refine rv_ifz_eq (q := 41) (tgt := 54) E.x dX12_takeFixes_38 (by decide) rfl ?_ ?_
    · refine rv_aload_n (q := 42) E.x dX12_takeFixes_41 rfl rfl ?_
      refine rv_iload_n (q := 43) E.x dX12_takeFixes_42 rfl rfl ?_
      refine rv_iload_n (q := 44) E.x dX12_takeFixes_43 rfl rfl ?_
      refine rv_b2 (fun r7 M8 e6 => ?_)
      refine rR_calli (q := 47) E (c12_areShort E.2.2.1 e6) gX12_areShort hX12_areShort ⟨rfl, rfl⟩ ⟨Nat.le_of_ble_eq_true rfl, Nat.le_of_ble_eq_true rfl⟩ rfl rfl rfl (Nat.le_of_ble_eq_true rfl) dX12_takeFixes_44 rfl ?_
      refine rv_ifz_eq (q := 50) (tgt := 54) E.x dX12_takeFixes_47 (by decide) rfl ?_ ?_
      · refine rv_iconst (q := 51) E.x dX12_takeFixes_50 rv_ki0 rfl ?_
        refine rv_goto (q := 55) E.x dX12_takeFixes_51 (by decide) ?_
        refine rv_wk [true, true, true, false, false] ?_
        exact b12_takeFixes_55 E M8 x1 x2 0
      · refine rv_wk [true, true, true, false, false] ?_
        exact b12_takeFixes_54 E M8 x1 x2
    · refine rv_wk [true, true, true, false, false] ?_
      exact b12_takeFixes_54 E M3 x1 x2
set_option maxRecDepth 100000 in
theorem b12_takeFixes {p : Program} {l : Launch} {e : Env} {s : State} {m : MethodId} {args : Array Value} {below : List Frame} {meth : Method} {c : Code} {D : va_G} {cI cZ : ClassId} {ad : Nat → Nat} (E : rR_E D cI cZ ad cX12_takeFixes 5 (some .int) p s m args meth c) (M : rv_Mem) (a1 : Int32) (a2 : Int32) : rv_M (rR_G D cI cZ ad) (rR_A ad) p l e rm12_takeFixes s m args below meth c 0 0  (rR_qIW D cI cZ ad below args s) (f12_takeFixes M a1 a2) 0 [some (.ref (ad 67)), some (.int a1), some (.int a2), none, none] [] M := by
  unfold f12_takeFixes
  refine rv_aload_n (q := 1) E.x dX12_takeFixes_0 rfl rfl ?_
  refine rv_iload_n (q := 2) E.x dX12_takeFixes_1 rfl rfl ?_
  refine rv_b2 (fun r2 M3 e1 => ?_)
  refine rR_calli (q := 5) E (c12_asks E.2.2.1 e1) gX12_asks hX12_asks ⟨rfl, rfl⟩ ⟨Nat.le_of_ble_eq_true rfl, Nat.le_of_ble_eq_true rfl⟩ rfl rfl rfl (Nat.le_of_ble_eq_true rfl) dX12_takeFixes_2 rfl ?_
  refine rv_ifz_eq (q := 8) (tgt := 29) E.x dX12_takeFixes_5 (by decide) rfl ?_ ?_
  · refine rv_aload_n (q := 9) E.x dX12_takeFixes_8 rfl rfl ?_
    refine rv_aload_n (q := 10) E.x dX12_takeFixes_9 rfl rfl ?_
    refine rv_iload_n (q := 11) E.x dX12_takeFixes_10 rfl rfl ?_
    refine rv_iload_n (q := 12) E.x dX12_takeFixes_11 rfl rfl ?_
    refine rv_b1 (fun r5 e4 => ?_)
    refine rR_calli (q := 15) E (c12_areFindings E.2.2.1 e4) gX12_areFindings hX12_areFindings ⟨rfl, rfl⟩ ⟨Nat.le_of_ble_eq_true rfl, Nat.le_of_ble_eq_true rfl⟩ rfl rfl rfl (Nat.le_of_ble_eq_true rfl) dX12_takeFixes_12 rfl ?_
    refine rv_ifz_eq (q := 18) (tgt := 22) E.x dX12_takeFixes_15 (by decide) rfl ?_ ?_
    · refine rv_iconst (q := 19) E.x dX12_takeFixes_18 rv_ki0 rfl ?_
      refine rv_goto (q := 23) E.x dX12_takeFixes_19 (by decide) ?_
      refine rv_wk [true, true, true, false, false] ?_
      exact b12_takeFixes_23 E M3 a1 a2 0
    · refine rv_iconst (q := 23) E.x dX12_takeFixes_22 rv_ki2 rfl ?_
      refine rv_wk [true, true, true, false, false] ?_
      exact b12_takeFixes_23 E M3 a1 a2 2
  · refine rv_iconst (q := 30) E.x dX12_takeFixes_29 rv_ki0 rfl ?_
    exact rR_iret E rfl dX12_takeFixes_30
theorem c12_takeFixes {l : Launch} {D : va_G} {cI cZ : ClassId} {ad : Nat → Nat} (hI : rR_I ad) {M : rv_Mem} {a1 : Int32} {a2 : Int32} {r : Int32} {M1 : rv_Mem} (h : f12_takeFixes M a1 a2 = some (r, M1)) : Met l yX12_takeFixes (rv_ws yX12_takeFixes cX12_takeFixes 5 (some .int)) rm12_takeFixes (rR_Pc D cI cZ ad [.ref (ad 67), .int a1, .int a2] M) (rR_QI D cI cZ ad r M1) 0 0 (rR_A ad) := rR_met hI rfl (rv_cat rfl) (Nat.le_of_ble_eq_true rfl) (fun p e s m args below meth c E => ⟨(rR_qIW D cI cZ ad below args s), rfl, b12_takeFixes E M a1 a2⟩) h
abbrev rm12_setOwners : Room := { frames := 2, cells := 0, slots := 0, locals := 42 }
set_option maxRecDepth 100000 in
theorem b12_setOwners_37 {p : Program} {l : Launch} {e : Env} {s : State} {m : MethodId} {args : Array Value} {below : List Frame} {meth : Method} {c : Code} {D : va_G} {cI cZ : ClassId} {ad : Nat → Nat} (E : rR_E D cI cZ ad cX12_setOwners 6 (some .int) p s m args meth c)   : ∀ (M : rv_Mem) (x1 : Int32) (x2 : Int32) (x3 : Int32) (x4 : Bool) (s1 : Int32), rv_M (rR_G D cI cZ ad) (rR_A ad) p l e rm12_setOwners s m args below meth c 0 0 (rR_qIW D cI cZ ad below args s) (f12_setOwners_37 M x1 x2 x3 x4 s1) 37 [some (.ref (ad 67)), some (.int x1), some (.int x2), some (.int x3), some (.int (rv_i x4)), none] [.int s1, .ref (ad 67)] M := by
  intro M x1 x2 x3 x4 s1
  unfold f12_setOwners_37
  refine rv_b2 (fun r2 M3 e1 => ?_)
  refine rR_calli (q := 40) E (c12_goes E.2.2.1 e1) gX12_goes hX12_goes ⟨rfl, rfl⟩ ⟨Nat.le_of_ble_eq_true rfl, Nat.le_of_ble_eq_true rfl⟩ rfl rfl rfl (Nat.le_of_ble_eq_true rfl) dX12_setOwners_37 rfl ?_
  refine rv_ifz_ne (q := 43) (tgt := 45) E.x dX12_setOwners_40 (by decide) rfl ?_ ?_
  · refine rv_iconst (q := 44) E.x dX12_setOwners_43 rv_ki0 rfl ?_
    exact rR_iret E rfl dX12_setOwners_44
  · refine rv_aload_n (q := 46) E.x dX12_setOwners_45 rfl rfl ?_
    refine rR_get (q := 49) E 41 wf12_41 rfl (Nat.le_of_ble_eq_true rfl) rfl dX12_setOwners_46 rfl ?_
    refine rv_bipush (q := 51) E.x dX12_setOwners_49 rv_kb7 rfl ?_
    refine rv_iload_n (q := 52) E.x dX12_setOwners_51 rfl rfl ?_
    refine rv_imul (q := 53) E.x dX12_setOwners_52 rfl ?_
    refine rv_iload_n (q := 54) E.x dX12_setOwners_53 rfl rfl ?_
    refine rv_iadd (q := 55) E.x dX12_setOwners_54 rfl ?_
    refine rR_iald (q := 56) (n := 14) E (Nat.le_of_ble_eq_true rfl) rfl rfl dX12_setOwners_55 rfl ?_
    refine rv_istore (q := 58) (lv' := [_, _, _, _, _, _]) E.x dX12_setOwners_56 (Nat.le_of_ble_eq_true rfl) rfl rfl rfl ?_
    refine rv_aload_n (q := 59) E.x dX12_setOwners_58 rfl rfl ?_
    refine rR_get (q := 62) E 41 wf12_41 rfl (Nat.le_of_ble_eq_true rfl) rfl dX12_setOwners_59 rfl ?_
    refine rv_bipush (q := 64) E.x dX12_setOwners_62 rv_kb7 rfl ?_
    refine rv_iload_n (q := 65) E.x dX12_setOwners_64 rfl rfl ?_
    refine rv_imul (q := 66) E.x dX12_setOwners_65 rfl ?_
    refine rv_iload_n (q := 67) E.x dX12_setOwners_66 rfl rfl ?_
    refine rv_iadd (q := 68) E.x dX12_setOwners_67 rfl ?_
    refine rv_iload_n (q := 69) E.x dX12_setOwners_68 rfl rfl ?_
    refine rR_iast (q := 70) (n := 14) E (Nat.le_of_ble_eq_true rfl) rfl rfl dX12_setOwners_69 rfl ?_
    refine rv_ltm (fun M4 => ?_)
    refine rv_aload_n (q := 71) E.x dX12_setOwners_70 rfl rfl ?_
    refine rR_get (q := 74) E 42 wf12_42 rfl (Nat.le_of_ble_eq_true rfl) rfl dX12_setOwners_71 rfl ?_
    refine rv_bipush (q := 76) E.x dX12_setOwners_74 rv_kb7 rfl ?_
    refine rv_iload_n (q := 77) E.x dX12_setOwners_76 rfl rfl ?_
    refine rv_imul (q := 78) E.x dX12_setOwners_77 rfl ?_
    refine rv_iload_n (q := 79) E.x dX12_setOwners_78 rfl rfl ?_
    refine rv_iadd (q := 80) E.x dX12_setOwners_79 rfl ?_
    refine rv_iload (q := 82) E.x dX12_setOwners_80 rfl rfl ?_
    refine rR_zast (q := 83) (n := 14) E x4 (Nat.le_of_ble_eq_true rfl) rfl rfl dX12_setOwners_82 rfl ?_
    refine rv_ltm (fun M5 => ?_)
    refine rv_iload (q := 85) E.x dX12_setOwners_83 rfl rfl ?_
    exact rR_iret E rfl dX12_setOwners_85
set_option maxRecDepth 100000 in
theorem b12_setOwners_18 {p : Program} {l : Launch} {e : Env} {s : State} {m : MethodId} {args : Array Value} {below : List Frame} {meth : Method} {c : Code} {D : va_G} {cI cZ : ClassId} {ad : Nat → Nat} (E : rR_E D cI cZ ad cX12_setOwners 6 (some .int) p s m args meth c)   : ∀ (M : rv_Mem) (x1 : Int32) (x2 : Int32) (x3 : Int32) (x4 : Bool), rv_M (rR_G D cI cZ ad) (rR_A ad) p l e rm12_setOwners s m args below meth c 0 0 (rR_qIW D cI cZ ad below args s) (f12_setOwners_18 M x1 x2 x3 x4) 18 [some (.ref (ad 67)), some (.int x1), some (.int x2), some (.int x3), some (.int (rv_i x4)), none] [.ref (ad 67)] M := by
  intro M x1 x2 x3 x4
  unfold f12_setOwners_18
  refine rv_iconst (q := 19) E.x dX12_setOwners_18 rv_ki1 rfl ?_
  refine rv_goto (q := 37) E.x dX12_setOwners_19 (by decide) ?_
  refine rv_wk [true, true, true, true, true, false] ?_
  exact b12_setOwners_37 E M x1 x2 x3 x4 1
set_option maxRecDepth 100000 in
theorem b12_setOwners {p : Program} {l : Launch} {e : Env} {s : State} {m : MethodId} {args : Array Value} {below : List Frame} {meth : Method} {c : Code} {D : va_G} {cI cZ : ClassId} {ad : Nat → Nat} (E : rR_E D cI cZ ad cX12_setOwners 6 (some .int) p s m args meth c) (M : rv_Mem) (a1 : Int32) (a2 : Int32) (a3 : Int32) (a4 : Bool) : rv_M (rR_G D cI cZ ad) (rR_A ad) p l e rm12_setOwners s m args below meth c 0 0  (rR_qIW D cI cZ ad below args s) (f12_setOwners M a1 a2 a3 a4) 0 [some (.ref (ad 67)), some (.int a1), some (.int a2), some (.int a3), some (.int (rv_i a4)), none] [] M := by
  unfold f12_setOwners
  refine rv_aload_n (q := 1) E.x dX12_setOwners_0 rfl rfl ?_
  refine rv_iload_n (q := 2) E.x dX12_setOwners_1 rfl rfl ?_
  refine rv_b1 (fun r2 e1 => ?_)
  refine rR_calls (q := 5) E (c12_isRepository e1) gX12_isRepository hX12_isRepository ⟨rfl, rfl⟩ ⟨Nat.le_of_ble_eq_true rfl, Nat.le_of_ble_eq_true rfl⟩ rfl rfl rfl (Nat.le_of_ble_eq_true rfl) dX12_setOwners_2 rfl ?_
  refine rv_ifz_eq (q := 8) (tgt := 18) E.x dX12_setOwners_5 (by decide) rfl ?_ ?_
  · refine rv_iload_n (q := 9) E.x dX12_setOwners_8 rfl rfl ?_
    refine rv_iconst (q := 10) E.x dX12_setOwners_9 rv_ki0 rfl ?_
    refine rv_bipush (q := 12) E.x dX12_setOwners_10 rv_kb6 rfl ?_
    refine rv_b1 (fun r4 e3 => ?_)
    refine rR_calls (q := 15) E (c12_isIn e3) gX12_isIn hX12_isIn ⟨rfl, rfl⟩ ⟨Nat.le_of_ble_eq_true rfl, Nat.le_of_ble_eq_true rfl⟩ rfl rfl rfl (Nat.le_of_ble_eq_true rfl) dX12_setOwners_12 rfl ?_
    refine rv_ifz_ne (q := 18) (tgt := 22) E.x dX12_setOwners_15 (by decide) rfl ?_ ?_
    · refine rv_wk [true, true, true, true, true, false] ?_
      exact b12_setOwners_18 E M a1 a2 a3 a4
    · refine rv_iload_n (q := 23) E.x dX12_setOwners_22 rfl rfl ?_
      refine rv_iconst (q := 24) E.x dX12_setOwners_23 rv_ki0 rfl ?_
      refine rv_bipush (q := 26) E.x dX12_setOwners_24 rv_kb63 rfl ?_
      refine rv_b1 (fun r6 e5 => ?_)
      refine rR_calls (q := 29) E (c12_isIn e5) gX12_isIn hX12_isIn ⟨rfl, rfl⟩ ⟨Nat.le_of_ble_eq_true rfl, Nat.le_of_ble_eq_true rfl⟩ rfl rfl rfl (Nat.le_of_ble_eq_true rfl) dX12_setOwners_26 rfl ?_
      refine rv_ifz_eq (q := 32) (tgt := 36) E.x dX12_setOwners_29 (by decide) rfl ?_ ?_
      · refine rv_iconst (q := 33) E.x dX12_setOwners_32 rv_ki0 rfl ?_
        refine rv_goto (q := 37) E.x dX12_setOwners_33 (by decide) ?_
        refine rv_wk [true, true, true, true, true, false] ?_
        exact b12_setOwners_37 E M a1 a2 a3 a4 0
      · refine rv_iconst (q := 37) E.x dX12_setOwners_36 rv_ki2 rfl ?_
        refine rv_wk [true, true, true, true, true, false] ?_
        exact b12_setOwners_37 E M a1 a2 a3 a4 2
  · refine rv_wk [true, true, true, true, true, false] ?_
    exact b12_setOwners_18 E M a1 a2 a3 a4
theorem c12_setOwners {l : Launch} {D : va_G} {cI cZ : ClassId} {ad : Nat → Nat} (hI : rR_I ad) {M : rv_Mem} {a1 : Int32} {a2 : Int32} {a3 : Int32} {a4 : Bool} {r : Int32} {M1 : rv_Mem} (h : f12_setOwners M a1 a2 a3 a4 = some (r, M1)) : Met l yX12_setOwners (rv_ws yX12_setOwners cX12_setOwners 6 (some .int)) rm12_setOwners (rR_Pc D cI cZ ad [.ref (ad 67), .int a1, .int a2, .int a3, .int (rv_i a4)] M) (rR_QI D cI cZ ad r M1) 0 0 (rR_A ad) := rR_met hI rfl (rv_cat rfl) (Nat.le_of_ble_eq_true rfl) (fun p e s m args below meth c E => ⟨(rR_qIW D cI cZ ad below args s), rfl, b12_setOwners E M a1 a2 a3 a4⟩) h
abbrev rm12_setInclude : Room := { frames := 2, cells := 0, slots := 0, locals := 42 }
set_option maxRecDepth 100000 in
theorem b12_setInclude_22 {p : Program} {l : Launch} {e : Env} {s : State} {m : MethodId} {args : Array Value} {below : List Frame} {meth : Method} {c : Code} {D : va_G} {cI cZ : ClassId} {ad : Nat → Nat} (E : rR_E D cI cZ ad cX12_setInclude 5 (some .boolean) p s m args meth c)   : ∀ (M : rv_Mem) (x1 : Int32) (x2 : Int32) (x3 : Bool) (s1 : Bool), rv_M (rR_G D cI cZ ad) (rR_A ad) p l e rm12_setInclude s m args below meth c 0 0 (rR_qZW D cI cZ ad below args s) (f12_setInclude_22 M x1 x2 x3 s1) 22 [some (.ref (ad 67)), some (.int x1), some (.int x2), some (.int (rv_i x3)), none] [.int (rv_i s1), .ref (ad 67)] M := by
  intro M x1 x2 x3 s1
  unfold f12_setInclude_22
  refine rv_b2 (fun r2 M3 e1 => ?_)
  refine rR_calli (q := 25) E (c12_goes E.2.2.1 e1) gX12_goes hX12_goes ⟨rfl, rfl⟩ ⟨Nat.le_of_ble_eq_true rfl, Nat.le_of_ble_eq_true rfl⟩ rfl rfl rfl (Nat.le_of_ble_eq_true rfl) dX12_setInclude_22 rfl ?_
  refine rv_ifz_ne (q := 28) (tgt := 30) E.x dX12_setInclude_25 (by decide) rfl ?_ ?_
  · refine rv_iconst (q := 29) E.x dX12_setInclude_28 rv_ki0 rfl ?_
    exact rR_zret E false rfl dX12_setInclude_29
  · refine rv_aload_n (q := 31) E.x dX12_setInclude_30 rfl rfl ?_
    refine rR_get (q := 34) E 43 wf12_43 rfl (Nat.le_of_ble_eq_true rfl) rfl dX12_setInclude_31 rfl ?_
    refine rv_iconst (q := 35) E.x dX12_setInclude_34 rv_ki2 rfl ?_
    refine rv_iload_n (q := 36) E.x dX12_setInclude_35 rfl rfl ?_
    refine rv_imul (q := 37) E.x dX12_setInclude_36 rfl ?_
    refine rv_iload_n (q := 38) E.x dX12_setInclude_37 rfl rfl ?_
    refine rv_iadd (q := 39) E.x dX12_setInclude_38 rfl ?_
    refine rR_zald (q := 40) (n := 4) E (Nat.le_of_ble_eq_true rfl) rfl rfl dX12_setInclude_39 rfl ?_
    refine rv_istore (q := 42) (lv' := [_, _, _, _, _]) E.x dX12_setInclude_40 (Nat.le_of_ble_eq_true rfl) rfl rfl rfl ?_
    refine rv_aload_n (q := 43) E.x dX12_setInclude_42 rfl rfl ?_
    refine rR_get (q := 46) E 43 wf12_43 rfl (Nat.le_of_ble_eq_true rfl) rfl dX12_setInclude_43 rfl ?_
    refine rv_iconst (q := 47) E.x dX12_setInclude_46 rv_ki2 rfl ?_
    refine rv_iload_n (q := 48) E.x dX12_setInclude_47 rfl rfl ?_
    refine rv_imul (q := 49) E.x dX12_setInclude_48 rfl ?_
    refine rv_iload_n (q := 50) E.x dX12_setInclude_49 rfl rfl ?_
    refine rv_iadd (q := 51) E.x dX12_setInclude_50 rfl ?_
    refine rv_iload_n (q := 52) E.x dX12_setInclude_51 rfl rfl ?_
    refine rR_zast (q := 53) (n := 4) E x3 (Nat.le_of_ble_eq_true rfl) rfl rfl dX12_setInclude_52 rfl ?_
    refine rv_ltm (fun M4 => ?_)
    refine rv_iload (q := 55) E.x dX12_setInclude_53 rfl rfl ?_
    exact rR_zret E (rv_z (M3 43 (((2 * x1) + x2)).toNatClampNeg)) rfl dX12_setInclude_55
set_option maxRecDepth 100000 in
theorem b12_setInclude_21 {p : Program} {l : Launch} {e : Env} {s : State} {m : MethodId} {args : Array Value} {below : List Frame} {meth : Method} {c : Code} {D : va_G} {cI cZ : ClassId} {ad : Nat → Nat} (E : rR_E D cI cZ ad cX12_setInclude 5 (some .boolean) p s m args meth c)   : ∀ (M : rv_Mem) (x1 : Int32) (x2 : Int32) (x3 : Bool), rv_M (rR_G D cI cZ ad) (rR_A ad) p l e rm12_setInclude s m args below meth c 0 0 (rR_qZW D cI cZ ad below args s) (f12_setInclude_21 M x1 x2 x3) 21 [some (.ref (ad 67)), some (.int x1), some (.int x2), some (.int (rv_i x3)), none] [.ref (ad 67)] M := by
  intro M x1 x2 x3
  unfold f12_setInclude_21
  refine rv_iconst (q := 22) E.x dX12_setInclude_21 rv_ki1 rfl ?_
  refine rv_wk [true, true, true, true, false] ?_
  exact b12_setInclude_22 E M x1 x2 x3 true
set_option maxRecDepth 100000 in
theorem b12_setInclude {p : Program} {l : Launch} {e : Env} {s : State} {m : MethodId} {args : Array Value} {below : List Frame} {meth : Method} {c : Code} {D : va_G} {cI cZ : ClassId} {ad : Nat → Nat} (E : rR_E D cI cZ ad cX12_setInclude 5 (some .boolean) p s m args meth c) (M : rv_Mem) (a1 : Int32) (a2 : Int32) (a3 : Bool) : rv_M (rR_G D cI cZ ad) (rR_A ad) p l e rm12_setInclude s m args below meth c 0 0  (rR_qZW D cI cZ ad below args s) (f12_setInclude M a1 a2 a3) 0 [some (.ref (ad 67)), some (.int a1), some (.int a2), some (.int (rv_i a3)), none] [] M := by
  unfold f12_setInclude
  refine rv_aload_n (q := 1) E.x dX12_setInclude_0 rfl rfl ?_
  refine rv_iload_n (q := 2) E.x dX12_setInclude_1 rfl rfl ?_
  refine rv_b1 (fun r2 e1 => ?_)
  refine rR_calls (q := 5) E (c12_isRepository e1) gX12_isRepository hX12_isRepository ⟨rfl, rfl⟩ ⟨Nat.le_of_ble_eq_true rfl, Nat.le_of_ble_eq_true rfl⟩ rfl rfl rfl (Nat.le_of_ble_eq_true rfl) dX12_setInclude_2 rfl ?_
  refine rv_ifz_eq (q := 8) (tgt := 21) E.x dX12_setInclude_5 (by decide) rfl ?_ ?_
  · refine rv_iload_n (q := 9) E.x dX12_setInclude_8 rfl rfl ?_
    refine rv_iconst (q := 10) E.x dX12_setInclude_9 rv_ki0 rfl ?_
    refine rv_iconst (q := 11) E.x dX12_setInclude_10 rv_ki1 rfl ?_
    refine rv_b1 (fun r4 e3 => ?_)
    refine rR_calls (q := 14) E (c12_isIn e3) gX12_isIn hX12_isIn ⟨rfl, rfl⟩ ⟨Nat.le_of_ble_eq_true rfl, Nat.le_of_ble_eq_true rfl⟩ rfl rfl rfl (Nat.le_of_ble_eq_true rfl) dX12_setInclude_11 rfl ?_
    refine rv_ifz_eq (q := 17) (tgt := 21) E.x dX12_setInclude_14 (by decide) rfl ?_ ?_
    · refine rv_iconst (q := 18) E.x dX12_setInclude_17 rv_ki0 rfl ?_
      refine rv_goto (q := 22) E.x dX12_setInclude_18 (by decide) ?_
      refine rv_wk [true, true, true, true, false] ?_
      exact b12_setInclude_22 E M a1 a2 a3 false
    · refine rv_wk [true, true, true, true, false] ?_
      exact b12_setInclude_21 E M a1 a2 a3
  · refine rv_wk [true, true, true, true, false] ?_
    exact b12_setInclude_21 E M a1 a2 a3
theorem c12_setInclude {l : Launch} {D : va_G} {cI cZ : ClassId} {ad : Nat → Nat} (hI : rR_I ad) {M : rv_Mem} {a1 : Int32} {a2 : Int32} {a3 : Bool} {r : Bool} {M1 : rv_Mem} (h : f12_setInclude M a1 a2 a3 = some (r, M1)) : Met l yX12_setInclude (rv_ws yX12_setInclude cX12_setInclude 5 (some .boolean)) rm12_setInclude (rR_Pc D cI cZ ad [.ref (ad 67), .int a1, .int a2, .int (rv_i a3)] M) (rR_QI D cI cZ ad (rv_i r) M1) 0 0 (rR_A ad) := rR_met hI rfl (rv_cat rfl) (Nat.le_of_ble_eq_true rfl) (fun p e s m args below meth c E => ⟨(rR_qZW D cI cZ ad below args s), rfl, b12_setInclude E M a1 a2 a3⟩) h
abbrev rm12_setLastResort : Room := { frames := 2, cells := 0, slots := 0, locals := 42 }
set_option maxRecDepth 100000 in
theorem b12_setLastResort_13 {p : Program} {l : Launch} {e : Env} {s : State} {m : MethodId} {args : Array Value} {below : List Frame} {meth : Method} {c : Code} {D : va_G} {cI cZ : ClassId} {ad : Nat → Nat} (E : rR_E D cI cZ ad cX12_setLastResort 3 (some .int) p s m args meth c)   : ∀ (M : rv_Mem) (x1 : Int32) (s1 : Bool), rv_M (rR_G D cI cZ ad) (rR_A ad) p l e rm12_setLastResort s m args below meth c 0 0 (rR_qIW D cI cZ ad below args s) (f12_setLastResort_13 M x1 s1) 13 [some (.ref (ad 67)), some (.int x1), none] [.int (rv_i s1), .ref (ad 67)] M := by
  intro M x1 s1
  unfold f12_setLastResort_13
  refine rv_b2 (fun r2 M3 e1 => ?_)
  refine rR_calli (q := 16) E (c12_goes E.2.2.1 e1) gX12_goes hX12_goes ⟨rfl, rfl⟩ ⟨Nat.le_of_ble_eq_true rfl, Nat.le_of_ble_eq_true rfl⟩ rfl rfl rfl (Nat.le_of_ble_eq_true rfl) dX12_setLastResort_13 rfl ?_
  refine rv_ifz_ne (q := 19) (tgt := 21) E.x dX12_setLastResort_16 (by decide) rfl ?_ ?_
  · refine rv_iconst (q := 20) E.x dX12_setLastResort_19 rv_ki0 rfl ?_
    exact rR_iret E rfl dX12_setLastResort_20
  · refine rv_aload_n (q := 22) E.x dX12_setLastResort_21 rfl rfl ?_
    refine rR_get (q := 25) E 44 wf12_44 rfl (Nat.le_of_ble_eq_true rfl) rfl dX12_setLastResort_22 rfl ?_
    refine rv_istore_n (q := 26) (lv' := [_, _, _]) E.x dX12_setLastResort_25 (Nat.le_of_ble_eq_true rfl) rfl rfl rfl ?_
    refine rv_aload_n (q := 27) E.x dX12_setLastResort_26 rfl rfl ?_
    refine rv_iload_n (q := 28) E.x dX12_setLastResort_27 rfl rfl ?_
    refine rR_put (q := 31) E 44 wf12_44 rfl (Nat.le_of_ble_eq_true rfl) rfl rfl rfl dX12_setLastResort_28 rfl ?_
    refine rv_ltm (fun M4 => ?_)
    refine rv_iload_n (q := 32) E.x dX12_setLastResort_31 rfl rfl ?_
    exact rR_iret E rfl dX12_setLastResort_32
set_option maxRecDepth 100000 in
theorem b12_setLastResort {p : Program} {l : Launch} {e : Env} {s : State} {m : MethodId} {args : Array Value} {below : List Frame} {meth : Method} {c : Code} {D : va_G} {cI cZ : ClassId} {ad : Nat → Nat} (E : rR_E D cI cZ ad cX12_setLastResort 3 (some .int) p s m args meth c) (M : rv_Mem) (a1 : Int32) : rv_M (rR_G D cI cZ ad) (rR_A ad) p l e rm12_setLastResort s m args below meth c 0 0  (rR_qIW D cI cZ ad below args s) (f12_setLastResort M a1) 0 [some (.ref (ad 67)), some (.int a1), none] [] M := by
  unfold f12_setLastResort
  refine rv_aload_n (q := 1) E.x dX12_setLastResort_0 rfl rfl ?_
  refine rv_iload_n (q := 2) E.x dX12_setLastResort_1 rfl rfl ?_
  refine rv_b1 (fun r2 e1 => ?_)
  refine rR_calls (q := 5) E (c12_isPerson e1) gX12_isPerson hX12_isPerson ⟨rfl, rfl⟩ ⟨Nat.le_of_ble_eq_true rfl, Nat.le_of_ble_eq_true rfl⟩ rfl rfl rfl (Nat.le_of_ble_eq_true rfl) dX12_setLastResort_2 rfl ?_
  refine rv_ifz_eq (q := 8) (tgt := 12) E.x dX12_setLastResort_5 (by decide) rfl ?_ ?_
  · refine rv_iconst (q := 9) E.x dX12_setLastResort_8 rv_ki0 rfl ?_
    refine rv_goto (q := 13) E.x dX12_setLastResort_9 (by decide) ?_
    refine rv_wk [true, true, false] ?_
    exact b12_setLastResort_13 E M a1 false
  · refine rv_iconst (q := 13) E.x dX12_setLastResort_12 rv_ki1 rfl ?_
    refine rv_wk [true, true, false] ?_
    exact b12_setLastResort_13 E M a1 true
theorem c12_setLastResort {l : Launch} {D : va_G} {cI cZ : ClassId} {ad : Nat → Nat} (hI : rR_I ad) {M : rv_Mem} {a1 : Int32} {r : Int32} {M1 : rv_Mem} (h : f12_setLastResort M a1 = some (r, M1)) : Met l yX12_setLastResort (rv_ws yX12_setLastResort cX12_setLastResort 3 (some .int)) rm12_setLastResort (rR_Pc D cI cZ ad [.ref (ad 67), .int a1] M) (rR_QI D cI cZ ad r M1) 0 0 (rR_A ad) := rR_met hI rfl (rv_cat rfl) (Nat.le_of_ble_eq_true rfl) (fun p e s m args below meth c E => ⟨(rR_qIW D cI cZ ad below args s), rfl, b12_setLastResort E M a1⟩) h
abbrev rm12_owners : Room := { frames := 2, cells := 0, slots := 0, locals := 42 }
set_option maxRecDepth 100000 in
theorem b12_owners_20 {p : Program} {l : Launch} {e : Env} {s : State} {m : MethodId} {args : Array Value} {below : List Frame} {meth : Method} {c : Code} {D : va_G} {cI cZ : ClassId} {ad : Nat → Nat} (E : rR_E D cI cZ ad cX12_owners 3 (some .int) p s m args meth c)   : ∀ (M : rv_Mem) (x1 : Int32) (x2 : Int32) (s1 : Bool), rv_M (rR_G D cI cZ ad) (rR_A ad) p l e rm12_owners s m args below meth c 0 0 (rR_qIW D cI cZ ad below args s) (f12_owners_20 M x1 x2 s1) 20 [some (.ref (ad 67)), some (.int x1), some (.int x2)] [.int (rv_i s1), .ref (ad 67)] M := by
  intro M x1 x2 s1
  unfold f12_owners_20
  refine rv_b2 (fun r2 M3 e1 => ?_)
  refine rR_calli (q := 23) E (c12_goes E.2.2.1 e1) gX12_goes hX12_goes ⟨rfl, rfl⟩ ⟨Nat.le_of_ble_eq_true rfl, Nat.le_of_ble_eq_true rfl⟩ rfl rfl rfl (Nat.le_of_ble_eq_true rfl) dX12_owners_20 rfl ?_
  refine rv_ifz_eq (q := 26) (tgt := 35) E.x dX12_owners_23 (by decide) rfl ?_ ?_
  · refine rv_aload_n (q := 27) E.x dX12_owners_26 rfl rfl ?_
    refine rv_iload_n (q := 28) E.x dX12_owners_27 rfl rfl ?_
    refine rv_iload_n (q := 29) E.x dX12_owners_28 rfl rfl ?_
    refine rv_b1 (fun r5 e4 => ?_)
    refine rR_calli (q := 32) E (c12_ownersOf E.2.2.1 e4) gX12_ownersOf hX12_ownersOf ⟨rfl, rfl⟩ ⟨Nat.le_of_ble_eq_true rfl, Nat.le_of_ble_eq_true rfl⟩ rfl rfl rfl (Nat.le_of_ble_eq_true rfl) dX12_owners_29 rfl ?_
    refine rv_goto (q := 36) E.x dX12_owners_32 (by decide) ?_
    exact rR_iret E rfl dX12_owners_36
  · refine rv_iconst (q := 36) E.x dX12_owners_35 rv_ki0 rfl ?_
    exact rR_iret E rfl dX12_owners_36
set_option maxRecDepth 100000 in
theorem b12_owners_19 {p : Program} {l : Launch} {e : Env} {s : State} {m : MethodId} {args : Array Value} {below : List Frame} {meth : Method} {c : Code} {D : va_G} {cI cZ : ClassId} {ad : Nat → Nat} (E : rR_E D cI cZ ad cX12_owners 3 (some .int) p s m args meth c)   : ∀ (M : rv_Mem) (x1 : Int32) (x2 : Int32), rv_M (rR_G D cI cZ ad) (rR_A ad) p l e rm12_owners s m args below meth c 0 0 (rR_qIW D cI cZ ad below args s) (f12_owners_19 M x1 x2) 19 [some (.ref (ad 67)), some (.int x1), some (.int x2)] [.ref (ad 67)] M := by
  intro M x1 x2
  unfold f12_owners_19
  refine rv_iconst (q := 20) E.x dX12_owners_19 rv_ki1 rfl ?_
  refine rv_wk [true, true, true] ?_
  exact b12_owners_20 E M x1 x2 true
set_option maxRecDepth 100000 in
theorem b12_owners {p : Program} {l : Launch} {e : Env} {s : State} {m : MethodId} {args : Array Value} {below : List Frame} {meth : Method} {c : Code} {D : va_G} {cI cZ : ClassId} {ad : Nat → Nat} (E : rR_E D cI cZ ad cX12_owners 3 (some .int) p s m args meth c) (M : rv_Mem) (a1 : Int32) (a2 : Int32) : rv_M (rR_G D cI cZ ad) (rR_A ad) p l e rm12_owners s m args below meth c 0 0  (rR_qIW D cI cZ ad below args s) (f12_owners M a1 a2) 0 [some (.ref (ad 67)), some (.int a1), some (.int a2)] [] M := by
  unfold f12_owners
  refine rv_aload_n (q := 1) E.x dX12_owners_0 rfl rfl ?_
  refine rv_iload_n (q := 2) E.x dX12_owners_1 rfl rfl ?_
  refine rv_b1 (fun r2 e1 => ?_)
  refine rR_calls (q := 5) E (c12_isRepository e1) gX12_isRepository hX12_isRepository ⟨rfl, rfl⟩ ⟨Nat.le_of_ble_eq_true rfl, Nat.le_of_ble_eq_true rfl⟩ rfl rfl rfl (Nat.le_of_ble_eq_true rfl) dX12_owners_2 rfl ?_
  refine rv_ifz_eq (q := 8) (tgt := 19) E.x dX12_owners_5 (by decide) rfl ?_ ?_
  · refine rv_iload_n (q := 9) E.x dX12_owners_8 rfl rfl ?_
    refine rv_b1 (fun r4 e3 => ?_)
    refine rR_calls (q := 12) E (c12_isFile e3) gX12_isFile hX12_isFile ⟨rfl, rfl⟩ ⟨Nat.le_of_ble_eq_true rfl, Nat.le_of_ble_eq_true rfl⟩ rfl rfl rfl (Nat.le_of_ble_eq_true rfl) dX12_owners_9 rfl ?_
    refine rv_ifz_eq (q := 15) (tgt := 19) E.x dX12_owners_12 (by decide) rfl ?_ ?_
    · refine rv_iconst (q := 16) E.x dX12_owners_15 rv_ki0 rfl ?_
      refine rv_goto (q := 20) E.x dX12_owners_16 (by decide) ?_
      refine rv_wk [true, true, true] ?_
      exact b12_owners_20 E M a1 a2 false
    · refine rv_wk [true, true, true] ?_
      exact b12_owners_19 E M a1 a2
  · refine rv_wk [true, true, true] ?_
    exact b12_owners_19 E M a1 a2
theorem c12_owners {l : Launch} {D : va_G} {cI cZ : ClassId} {ad : Nat → Nat} (hI : rR_I ad) {M : rv_Mem} {a1 : Int32} {a2 : Int32} {r : Int32} {M1 : rv_Mem} (h : f12_owners M a1 a2 = some (r, M1)) : Met l yX12_owners (rv_ws yX12_owners cX12_owners 3 (some .int)) rm12_owners (rR_Pc D cI cZ ad [.ref (ad 67), .int a1, .int a2] M) (rR_QI D cI cZ ad r M1) 0 0 (rR_A ad) := rR_met hI rfl (rv_cat rfl) (Nat.le_of_ble_eq_true rfl) (fun p e s m args below meth c E => ⟨(rR_qIW D cI cZ ad below args s), rfl, b12_owners E M a1 a2⟩) h
abbrev rm12_fewest : Room := { frames := 4, cells := 0, slots := 0, locals := 94 }
set_option maxRecDepth 100000 in
theorem b12_fewest {p : Program} {l : Launch} {e : Env} {s : State} {m : MethodId} {args : Array Value} {below : List Frame} {meth : Method} {c : Code} {D : va_G} {cI cZ : ClassId} {ad : Nat → Nat} (E : rR_E D cI cZ ad cX12_fewest 2 (some .int) p s m args meth c) (M : rv_Mem) (a1 : Int32) : rv_M (rR_G D cI cZ ad) (rR_A ad) p l e rm12_fewest s m args below meth c 0 0  (rR_qIW D cI cZ ad below args s) (f12_fewest M a1) 0 [some (.ref (ad 67)), some (.int a1)] [] M := by
  unfold f12_fewest
  refine rv_aload_n (q := 1) E.x dX12_fewest_0 rfl rfl ?_
  refine rv_iload_n (q := 2) E.x dX12_fewest_1 rfl rfl ?_
  refine rv_b2 (fun r2 M3 e1 => ?_)
  refine rR_calli (q := 5) E (c12_asks E.2.2.1 e1) gX12_asks hX12_asks ⟨rfl, rfl⟩ ⟨Nat.le_of_ble_eq_true rfl, Nat.le_of_ble_eq_true rfl⟩ rfl rfl rfl (Nat.le_of_ble_eq_true rfl) dX12_fewest_2 rfl ?_
  refine rv_ifz_eq (q := 8) (tgt := 16) E.x dX12_fewest_5 (by decide) rfl ?_ ?_
  · refine rv_aload_n (q := 9) E.x dX12_fewest_8 rfl rfl ?_
    refine rv_iload_n (q := 10) E.x dX12_fewest_9 rfl rfl ?_
    refine rv_b1 (fun r5 e4 => ?_)
    refine rR_calli (q := 13) E (c12_fewestOf E.2.2.1 e4) gX12_fewestOf hX12_fewestOf ⟨rfl, rfl⟩ ⟨Nat.le_of_ble_eq_true rfl, Nat.le_of_ble_eq_true rfl⟩ rfl rfl rfl (Nat.le_of_ble_eq_true rfl) dX12_fewest_10 rfl ?_
    refine rv_goto (q := 17) E.x dX12_fewest_13 (by decide) ?_
    exact rR_iret E rfl dX12_fewest_17
  · refine rv_iconst (q := 17) E.x dX12_fewest_16 rv_ki0 rfl ?_
    exact rR_iret E rfl dX12_fewest_17
theorem c12_fewest {l : Launch} {D : va_G} {cI cZ : ClassId} {ad : Nat → Nat} (hI : rR_I ad) {M : rv_Mem} {a1 : Int32} {r : Int32} {M1 : rv_Mem} (h : f12_fewest M a1 = some (r, M1)) : Met l yX12_fewest (rv_ws yX12_fewest cX12_fewest 2 (some .int)) rm12_fewest (rR_Pc D cI cZ ad [.ref (ad 67), .int a1] M) (rR_QI D cI cZ ad r M1) 0 0 (rR_A ad) := rR_met hI rfl (rv_cat rfl) (Nat.le_of_ble_eq_true rfl) (fun p e s m args below meth c E => ⟨(rR_qIW D cI cZ ad below args s), rfl, b12_fewest E M a1⟩) h
abbrev rm12_isLabel : Room := { frames := 1, cells := 0, slots := 0, locals := 22 }
set_option maxRecDepth 100000 in
theorem b12_isLabel {p : Program} {l : Launch} {e : Env} {s : State} {m : MethodId} {args : Array Value} {below : List Frame} {meth : Method} {c : Code} (E : rS_E cX12_isLabel 1 (some .boolean) p s m args meth c) (a1 : Int32) : rv_M (fun (_ : Unit) _ => True) (fun _ => False) p l e rm12_isLabel s m args below meth c 0 0  (rS_qZ below args s) (f12_isLabel a1) 0 [some (.int a1)] [] () := by
  unfold f12_isLabel
  refine rv_iload_n (q := 1) E.x dX12_isLabel_0 rfl rfl ?_
  refine rv_iconst (q := 2) E.x dX12_isLabel_1 rv_ki0 rfl ?_
  refine rv_iconst (q := 3) E.x dX12_isLabel_2 rv_ki1 rfl ?_
  refine rv_b1 (fun r2 e1 => ?_)
  refine rS_calls (q := 6) E (c12_isIn e1) gX12_isIn hX12_isIn ⟨rfl, rfl⟩ ⟨Nat.le_of_ble_eq_true rfl, Nat.le_of_ble_eq_true rfl⟩ rfl rfl rfl (Nat.le_of_ble_eq_true rfl) dX12_isLabel_3 rfl ?_
  exact rR_szret E r2 rfl dX12_isLabel_6
theorem c12_isLabel {l : Launch} {a1 : Int32} {r : Bool} (h : f12_isLabel a1 = some r) : Met l yX12_isLabel (rv_ws yX12_isLabel cX12_isLabel 1 (some .boolean)) rm12_isLabel (va_Pc [.int a1] (fun _ => True)) (rR_SQ (rv_i r)) 0 0 (fun _ => False) := rR_mets rfl (rv_cat rfl) (Nat.le_of_ble_eq_true rfl) (fun p e s m args below meth c E hr hl => ⟨rS_qZ below args s, rfl, b12_isLabel ⟨E, hr, hl⟩ a1⟩) h
abbrev rm12_vote : Room := { frames := 9, cells := 0, slots := 0, locals := 236 }
set_option maxRecDepth 100000 in
theorem b12_vote_98 {p : Program} {l : Launch} {e : Env} {s : State} {m : MethodId} {args : Array Value} {below : List Frame} {meth : Method} {c : Code} {D : va_G} {cI cZ : ClassId} {ad : Nat → Nat} (E : rR_E D cI cZ ad cX12_vote 7 (some .int) p s m args meth c)   : ∀ (M : rv_Mem) (x1 : Int32) (x2 : Int32) (x3 : Int32) (x4 : Int32) (x5 : Int32) (s1 : Int32), rv_M (rR_G D cI cZ ad) (rR_A ad) p l e rm12_vote s m args below meth c 0 0 (rR_qIW D cI cZ ad below args s) (f12_vote_98 M x1 x2 x3 x4 x5 s1) 98 [some (.ref (ad 67)), some (.int x1), some (.int x2), some (.int x3), some (.int x4), some (.int x5), none] [.int s1, .ref (ad 67)] M := by
  intro M x1 x2 x3 x4 x5 s1
  unfold f12_vote_98
  refine rv_b2 (fun r2 M3 e1 => ?_)
  refine rR_calli (q := 101) E (c12_goes E.2.2.1 e1) gX12_goes hX12_goes ⟨rfl, rfl⟩ ⟨Nat.le_of_ble_eq_true rfl, Nat.le_of_ble_eq_true rfl⟩ rfl rfl rfl (Nat.le_of_ble_eq_true rfl) dX12_vote_98 rfl ?_
  refine rv_ifz_ne (q := 104) (tgt := 106) E.x dX12_vote_101 (by decide) rfl ?_ ?_
  · refine rv_iconst (q := 105) E.x dX12_vote_104 rv_ki0 rfl ?_
    exact rR_iret E rfl dX12_vote_105
  · refine rv_aload_n (q := 107) E.x dX12_vote_106 rfl rfl ?_
    refine rR_get (q := 110) E 22 wf12_22 rfl (Nat.le_of_ble_eq_true rfl) rfl dX12_vote_107 rfl ?_
    refine rv_bipush (q := 112) E.x dX12_vote_110 rv_kb12 rfl ?_
    refine rv_aload_n (q := 113) E.x dX12_vote_112 rfl rfl ?_
    refine rv_iload_n (q := 114) E.x dX12_vote_113 rfl rfl ?_
    refine rv_iload_n (q := 115) E.x dX12_vote_114 rfl rfl ?_
    refine rv_b1 (fun r5 e4 => ?_)
    refine rR_calli (q := 118) E (c12_commitAt E.2.2.1 e4) gX12_commitAt hX12_commitAt ⟨rfl, rfl⟩ ⟨Nat.le_of_ble_eq_true rfl, Nat.le_of_ble_eq_true rfl⟩ rfl rfl rfl (Nat.le_of_ble_eq_true rfl) dX12_vote_115 rfl ?_
    refine rv_imul (q := 119) E.x dX12_vote_118 rfl ?_
    refine rv_iconst (q := 120) E.x dX12_vote_119 rv_ki2 rfl ?_
    refine rv_iload_n (q := 121) E.x dX12_vote_120 rfl rfl ?_
    refine rv_imul (q := 122) E.x dX12_vote_121 rfl ?_
    refine rv_iadd (q := 123) E.x dX12_vote_122 rfl ?_
    refine rv_iload (q := 125) E.x dX12_vote_123 rfl rfl ?_
    refine rv_iadd (q := 126) E.x dX12_vote_125 rfl ?_
    refine rv_iconst (q := 127) E.x dX12_vote_126 rv_ki3 rfl ?_
    refine rv_iload (q := 129) E.x dX12_vote_127 rfl rfl ?_
    refine rv_iadd (q := 130) E.x dX12_vote_129 rfl ?_
    refine rR_iast (q := 131) (n := 960) E (Nat.le_of_ble_eq_true rfl) rfl rfl dX12_vote_130 rfl ?_
    refine rv_ltm (fun M6 => ?_)
    refine rv_aload_n (q := 132) E.x dX12_vote_131 rfl rfl ?_
    refine rv_iload_n (q := 133) E.x dX12_vote_132 rfl rfl ?_
    refine rv_iload_n (q := 134) E.x dX12_vote_133 rfl rfl ?_
    refine rv_b1 (fun M8 e7 => ?_)
    refine rR_callv (q := 137) E (c12_tells E.2.2.1 e7) gX12_tells hX12_tells ⟨rfl, rfl⟩ ⟨Nat.le_of_ble_eq_true rfl, Nat.le_of_ble_eq_true rfl⟩ rfl rfl rfl (Nat.le_of_ble_eq_true rfl) dX12_vote_134 rfl ?_
    refine rv_aload_n (q := 138) E.x dX12_vote_137 rfl rfl ?_
    refine rv_iload_n (q := 139) E.x dX12_vote_138 rfl rfl ?_
    refine rv_iload_n (q := 140) E.x dX12_vote_139 rfl rfl ?_
    refine rv_iconst (q := 141) E.x dX12_vote_140 rv_ki1 rfl ?_
    refine rv_b1 (fun M10 e9 => ?_)
    refine rR_callv (q := 144) E (c12_turnsOn E.2.2.1 e9) gX12_turnsOn hX12_turnsOn ⟨rfl, rfl⟩ ⟨Nat.le_of_ble_eq_true rfl, Nat.le_of_ble_eq_true rfl⟩ rfl rfl rfl (Nat.le_of_ble_eq_true rfl) dX12_vote_141 rfl ?_
    refine rv_aload_n (q := 145) E.x dX12_vote_144 rfl rfl ?_
    refine rv_iload_n (q := 146) E.x dX12_vote_145 rfl rfl ?_
    refine rv_aload_n (q := 147) E.x dX12_vote_146 rfl rfl ?_
    refine rv_iload_n (q := 148) E.x dX12_vote_147 rfl rfl ?_
    refine rv_b1 (fun r12 e11 => ?_)
    refine rR_calli (q := 151) E (c12_current E.2.2.1 e11) gX12_current hX12_current ⟨rfl, rfl⟩ ⟨Nat.le_of_ble_eq_true rfl, Nat.le_of_ble_eq_true rfl⟩ rfl rfl rfl (Nat.le_of_ble_eq_true rfl) dX12_vote_148 rfl ?_
    refine rv_iload (q := 153) E.x dX12_vote_151 rfl rfl ?_
    refine rv_b2 (fun r14 M15 e13 => ?_)
    refine rR_calli (q := 156) E (c12_worthOf E.2.2.1 e13) gX12_worthOf hX12_worthOf ⟨rfl, rfl⟩ ⟨Nat.le_of_ble_eq_true rfl, Nat.le_of_ble_eq_true rfl⟩ rfl rfl rfl (Nat.le_of_ble_eq_true rfl) dX12_vote_153 rfl ?_
    exact rR_iret E rfl dX12_vote_156
set_option maxRecDepth 100000 in
theorem b12_vote_72 {p : Program} {l : Launch} {e : Env} {s : State} {m : MethodId} {args : Array Value} {below : List Frame} {meth : Method} {c : Code} {D : va_G} {cI cZ : ClassId} {ad : Nat → Nat} (E : rR_E D cI cZ ad cX12_vote 7 (some .int) p s m args meth c)   : ∀ (M : rv_Mem) (x1 : Int32) (x2 : Int32) (x3 : Int32) (x4 : Int32) (x5 : Int32) (s0 : Bool), rv_M (rR_G D cI cZ ad) (rR_A ad) p l e rm12_vote s m args below meth c 0 0 (rR_qIW D cI cZ ad below args s) (f12_vote_72 M x1 x2 x3 x4 x5 s0) 72 [some (.ref (ad 67)), some (.int x1), some (.int x2), some (.int x3), some (.int x4), some (.int x5), none] [.int (rv_i s0)] M := by
  intro M x1 x2 x3 x4 x5 s0
  unfold f12_vote_72
  refine rv_istore (q := 74) (lv' := [_, _, _, _, _, _, _]) E.x dX12_vote_72 (Nat.le_of_ble_eq_true rfl) rfl rfl rfl ?_
  refine rv_aload_n (q := 75) E.x dX12_vote_74 rfl rfl ?_
  refine rv_iload (q := 77) E.x dX12_vote_75 rfl rfl ?_
  refine rv_ifz_ne (q := 80) (tgt := 84) E.x dX12_vote_77 (by decide) rfl ?_ ?_
  · refine rv_iconst (q := 81) E.x dX12_vote_80 rv_ki2 rfl ?_
    refine rv_goto (q := 98) E.x dX12_vote_81 (by decide) ?_
    refine rv_wk [true, true, true, true, true, true, false] ?_
    exact b12_vote_98 E M x1 x2 x3 x4 x5 2
  · refine rv_aload_n (q := 85) E.x dX12_vote_84 rfl rfl ?_
    refine rv_iload_n (q := 86) E.x dX12_vote_85 rfl rfl ?_
    refine rv_iload_n (q := 87) E.x dX12_vote_86 rfl rfl ?_
    refine rv_b1 (fun r2 e1 => ?_)
    refine rR_calli (q := 90) E (c12_isShut E.2.2.1 e1) gX12_isShut hX12_isShut ⟨rfl, rfl⟩ ⟨Nat.le_of_ble_eq_true rfl, Nat.le_of_ble_eq_true rfl⟩ rfl rfl rfl (Nat.le_of_ble_eq_true rfl) dX12_vote_87 rfl ?_
    refine rv_ifz_eq (q := 93) (tgt := 97) E.x dX12_vote_90 (by decide) rfl ?_ ?_
    · refine rv_iconst (q := 94) E.x dX12_vote_93 rv_ki3 rfl ?_
      refine rv_goto (q := 98) E.x dX12_vote_94 (by decide) ?_
      refine rv_wk [true, true, true, true, true, true, false] ?_
      exact b12_vote_98 E M x1 x2 x3 x4 x5 3
    · refine rv_iconst (q := 98) E.x dX12_vote_97 rv_ki0 rfl ?_
      refine rv_wk [true, true, true, true, true, true, false] ?_
      exact b12_vote_98 E M x1 x2 x3 x4 x5 0
set_option maxRecDepth 100000 in
theorem b12_vote_71 {p : Program} {l : Launch} {e : Env} {s : State} {m : MethodId} {args : Array Value} {below : List Frame} {meth : Method} {c : Code} {D : va_G} {cI cZ : ClassId} {ad : Nat → Nat} (E : rR_E D cI cZ ad cX12_vote 7 (some .int) p s m args meth c)   : ∀ (M : rv_Mem) (x1 : Int32) (x2 : Int32) (x3 : Int32) (x4 : Int32) (x5 : Int32), rv_M (rR_G D cI cZ ad) (rR_A ad) p l e rm12_vote s m args below meth c 0 0 (rR_qIW D cI cZ ad below args s) (f12_vote_71 M x1 x2 x3 x4 x5) 71 [some (.ref (ad 67)), some (.int x1), some (.int x2), some (.int x3), some (.int x4), some (.int x5), none] [] M := by
  intro M x1 x2 x3 x4 x5
  unfold f12_vote_71
  refine rv_iconst (q := 72) E.x dX12_vote_71 rv_ki0 rfl ?_
  refine rv_wk [true, true, true, true, true, true, false] ?_
  exact b12_vote_72 E M x1 x2 x3 x4 x5 false
set_option maxRecDepth 100000 in
theorem b12_vote_61 {p : Program} {l : Launch} {e : Env} {s : State} {m : MethodId} {args : Array Value} {below : List Frame} {meth : Method} {c : Code} {D : va_G} {cI cZ : ClassId} {ad : Nat → Nat} (E : rR_E D cI cZ ad cX12_vote 7 (some .int) p s m args meth c)   : ∀ (M : rv_Mem) (x1 : Int32) (x2 : Int32) (x3 : Int32) (x4 : Int32) (x5 : Int32) (s0 : Int32) (s1 : Int32) (s2 : Int32), rv_M (rR_G D cI cZ ad) (rR_A ad) p l e rm12_vote s m args below meth c 0 0 (rR_qIW D cI cZ ad below args s) (f12_vote_61 M x1 x2 x3 x4 x5 s0 s1 s2) 61 [some (.ref (ad 67)), some (.int x1), some (.int x2), some (.int x3), some (.int x4), some (.int x5), none] [.int s2, .int s1, .int s0] M := by
  intro M x1 x2 x3 x4 x5 s0 s1 s2
  unfold f12_vote_61
  refine rv_b1 (fun r2 e1 => ?_)
  refine rR_calls (q := 64) E (c12_isIn e1) gX12_isIn hX12_isIn ⟨rfl, rfl⟩ ⟨Nat.le_of_ble_eq_true rfl, Nat.le_of_ble_eq_true rfl⟩ rfl rfl rfl (Nat.le_of_ble_eq_true rfl) dX12_vote_61 rfl ?_
  refine rv_ifz_eq (q := 67) (tgt := 71) E.x dX12_vote_64 (by decide) rfl ?_ ?_
  · refine rv_iconst (q := 68) E.x dX12_vote_67 rv_ki1 rfl ?_
    refine rv_goto (q := 72) E.x dX12_vote_68 (by decide) ?_
    refine rv_wk [true, true, true, true, true, true, false] ?_
    exact b12_vote_72 E M x1 x2 x3 x4 x5 true
  · refine rv_wk [true, true, true, true, true, true, false] ?_
    exact b12_vote_71 E M x1 x2 x3 x4 x5
set_option maxRecDepth 100000 in
theorem b12_vote_51 {p : Program} {l : Launch} {e : Env} {s : State} {m : MethodId} {args : Array Value} {below : List Frame} {meth : Method} {c : Code} {D : va_G} {cI cZ : ClassId} {ad : Nat → Nat} (E : rR_E D cI cZ ad cX12_vote 7 (some .int) p s m args meth c)   : ∀ (M : rv_Mem) (x1 : Int32) (x2 : Int32) (x3 : Int32) (x4 : Int32) (x5 : Int32) (s0 : Int32) (s1 : Int32), rv_M (rR_G D cI cZ ad) (rR_A ad) p l e rm12_vote s m args below meth c 0 0 (rR_qIW D cI cZ ad below args s) (f12_vote_51 M x1 x2 x3 x4 x5 s0 s1) 51 [some (.ref (ad 67)), some (.int x1), some (.int x2), some (.int x3), some (.int x4), some (.int x5), none] [.int s1, .int s0] M := by
  intro M x1 x2 x3 x4 x5 s0 s1
  unfold f12_vote_51
  refine rv_iload (q := 53) E.x dX12_vote_51 rfl rfl ?_
  refine rv_if_ne (q := 56) (tgt := 60) E.x dX12_vote_53 (by decide) rfl ?_ ?_
  · refine rv_iconst (q := 57) E.x dX12_vote_56 rv_ki2 rfl ?_
    refine rv_goto (q := 61) E.x dX12_vote_57 (by decide) ?_
    refine rv_wk [true, true, true, true, true, true, false] ?_
    exact b12_vote_61 E M x1 x2 x3 x4 x5 s0 s1 2
  · refine rv_iconst (q := 61) E.x dX12_vote_60 rv_ki1 rfl ?_
    refine rv_wk [true, true, true, true, true, true, false] ?_
    exact b12_vote_61 E M x1 x2 x3 x4 x5 s0 s1 1
set_option maxRecDepth 100000 in
theorem b12_vote_22 {p : Program} {l : Launch} {e : Env} {s : State} {m : MethodId} {args : Array Value} {below : List Frame} {meth : Method} {c : Code} {D : va_G} {cI cZ : ClassId} {ad : Nat → Nat} (E : rR_E D cI cZ ad cX12_vote 7 (some .int) p s m args meth c)   : ∀ (M : rv_Mem) (x1 : Int32) (x2 : Int32) (x3 : Int32) (x4 : Int32) (x5 : Int32) (s1 : Bool), rv_M (rR_G D cI cZ ad) (rR_A ad) p l e rm12_vote s m args below meth c 0 0 (rR_qIW D cI cZ ad below args s) (f12_vote_22 M x1 x2 x3 x4 x5 s1) 22 [some (.ref (ad 67)), some (.int x1), some (.int x2), some (.int x3), some (.int x4), some (.int x5), none] [.int (rv_i s1), .ref (ad 67)] M := by
  intro M x1 x2 x3 x4 x5 s1
  unfold f12_vote_22
  refine rv_b2 (fun r2 M3 e1 => ?_)
  refine rR_calli (q := 25) E (c12_goes E.2.2.1 e1) gX12_goes hX12_goes ⟨rfl, rfl⟩ ⟨Nat.le_of_ble_eq_true rfl, Nat.le_of_ble_eq_true rfl⟩ rfl rfl rfl (Nat.le_of_ble_eq_true rfl) dX12_vote_22 rfl ?_
  refine rv_ifz_ne (q := 28) (tgt := 30) E.x dX12_vote_25 (by decide) rfl ?_ ?_
  · refine rv_iconst (q := 29) E.x dX12_vote_28 rv_ki0 rfl ?_
    exact rR_iret E rfl dX12_vote_29
  · refine rv_iload (q := 32) E.x dX12_vote_30 rfl rfl ?_
    refine rv_b1 (fun r5 e4 => ?_)
    refine rR_calls (q := 35) E (c12_isLabel e4) gX12_isLabel hX12_isLabel ⟨rfl, rfl⟩ ⟨Nat.le_of_ble_eq_true rfl, Nat.le_of_ble_eq_true rfl⟩ rfl rfl rfl (Nat.le_of_ble_eq_true rfl) dX12_vote_32 rfl ?_
    refine rv_ifz_eq (q := 38) (tgt := 71) E.x dX12_vote_35 (by decide) rfl ?_ ?_
    · refine rv_iload (q := 40) E.x dX12_vote_38 rfl rfl ?_
      refine rv_iload (q := 42) E.x dX12_vote_40 rfl rfl ?_
      refine rv_if_ne (q := 45) (tgt := 50) E.x dX12_vote_42 (by decide) rfl ?_ ?_
      · refine rv_bipush (q := 47) E.x dX12_vote_45 rv_kbm2 rfl ?_
        refine rv_goto (q := 51) E.x dX12_vote_47 (by decide) ?_
        refine rv_wk [true, true, true, true, true, true, false] ?_
        exact b12_vote_51 E M3 x1 x2 x3 x4 x5 x5 (-2)
      · refine rv_iconst (q := 51) E.x dX12_vote_50 rv_kim1 rfl ?_
        refine rv_wk [true, true, true, true, true, true, false] ?_
        exact b12_vote_51 E M3 x1 x2 x3 x4 x5 x5 (-1)
    · refine rv_wk [true, true, true, true, true, true, false] ?_
      exact b12_vote_71 E M3 x1 x2 x3 x4 x5
set_option maxRecDepth 100000 in
theorem b12_vote_21 {p : Program} {l : Launch} {e : Env} {s : State} {m : MethodId} {args : Array Value} {below : List Frame} {meth : Method} {c : Code} {D : va_G} {cI cZ : ClassId} {ad : Nat → Nat} (E : rR_E D cI cZ ad cX12_vote 7 (some .int) p s m args meth c)   : ∀ (M : rv_Mem) (x1 : Int32) (x2 : Int32) (x3 : Int32) (x4 : Int32) (x5 : Int32), rv_M (rR_G D cI cZ ad) (rR_A ad) p l e rm12_vote s m args below meth c 0 0 (rR_qIW D cI cZ ad below args s) (f12_vote_21 M x1 x2 x3 x4 x5) 21 [some (.ref (ad 67)), some (.int x1), some (.int x2), some (.int x3), some (.int x4), some (.int x5), none] [.ref (ad 67)] M := by
  intro M x1 x2 x3 x4 x5
  unfold f12_vote_21
  refine rv_iconst (q := 22) E.x dX12_vote_21 rv_ki1 rfl ?_
  refine rv_wk [true, true, true, true, true, true, false] ?_
  exact b12_vote_22 E M x1 x2 x3 x4 x5 true
set_option maxRecDepth 100000 in
theorem b12_vote {p : Program} {l : Launch} {e : Env} {s : State} {m : MethodId} {args : Array Value} {below : List Frame} {meth : Method} {c : Code} {D : va_G} {cI cZ : ClassId} {ad : Nat → Nat} (E : rR_E D cI cZ ad cX12_vote 7 (some .int) p s m args meth c) (M : rv_Mem) (a1 : Int32) (a2 : Int32) (a3 : Int32) (a4 : Int32) (a5 : Int32) : rv_M (rR_G D cI cZ ad) (rR_A ad) p l e rm12_vote s m args below meth c 0 0  (rR_qIW D cI cZ ad below args s) (f12_vote M a1 a2 a3 a4 a5) 0 [some (.ref (ad 67)), some (.int a1), some (.int a2), some (.int a3), some (.int a4), some (.int a5), none] [] M := by
  unfold f12_vote
  refine rv_aload_n (q := 1) E.x dX12_vote_0 rfl rfl ?_
  refine rv_iload_n (q := 2) E.x dX12_vote_1 rfl rfl ?_
  refine rv_b1 (fun r2 e1 => ?_)
  refine rR_calls (q := 5) E (c12_isPerson e1) gX12_isPerson hX12_isPerson ⟨rfl, rfl⟩ ⟨Nat.le_of_ble_eq_true rfl, Nat.le_of_ble_eq_true rfl⟩ rfl rfl rfl (Nat.le_of_ble_eq_true rfl) dX12_vote_2 rfl ?_
  refine rv_ifz_eq (q := 8) (tgt := 21) E.x dX12_vote_5 (by decide) rfl ?_ ?_
  · refine rv_aload_n (q := 9) E.x dX12_vote_8 rfl rfl ?_
    refine rv_iload_n (q := 10) E.x dX12_vote_9 rfl rfl ?_
    refine rv_iload_n (q := 11) E.x dX12_vote_10 rfl rfl ?_
    refine rv_b1 (fun r4 e3 => ?_)
    refine rR_calli (q := 14) E (c12_isSet E.2.2.1 e3) gX12_isSet hX12_isSet ⟨rfl, rfl⟩ ⟨Nat.le_of_ble_eq_true rfl, Nat.le_of_ble_eq_true rfl⟩ rfl rfl rfl (Nat.le_of_ble_eq_true rfl) dX12_vote_11 rfl ?_
    refine rv_ifz_eq (q := 17) (tgt := 21) E.x dX12_vote_14 (by decide) rfl ?_ ?_
    · refine rv_iconst (q := 18) E.x dX12_vote_17 rv_ki0 rfl ?_
      refine rv_goto (q := 22) E.x dX12_vote_18 (by decide) ?_
      refine rv_wk [true, true, true, true, true, true, false] ?_
      exact b12_vote_22 E M a1 a2 a3 a4 a5 false
    · refine rv_wk [true, true, true, true, true, true, false] ?_
      exact b12_vote_21 E M a1 a2 a3 a4 a5
  · refine rv_wk [true, true, true, true, true, true, false] ?_
    exact b12_vote_21 E M a1 a2 a3 a4 a5
theorem c12_vote {l : Launch} {D : va_G} {cI cZ : ClassId} {ad : Nat → Nat} (hI : rR_I ad) {M : rv_Mem} {a1 : Int32} {a2 : Int32} {a3 : Int32} {a4 : Int32} {a5 : Int32} {r : Int32} {M1 : rv_Mem} (h : f12_vote M a1 a2 a3 a4 a5 = some (r, M1)) : Met l yX12_vote (rv_ws yX12_vote cX12_vote 7 (some .int)) rm12_vote (rR_Pc D cI cZ ad [.ref (ad 67), .int a1, .int a2, .int a3, .int a4, .int a5] M) (rR_QI D cI cZ ad r M1) 0 0 (rR_A ad) := rR_met hI rfl (rv_cat rfl) (Nat.le_of_ble_eq_true rfl) (fun p e s m args below meth c E => ⟨(rR_qIW D cI cZ ad below args s), rfl, b12_vote E M a1 a2 a3 a4 a5⟩) h
abbrev rm12_worth : Room := { frames := 7, cells := 0, slots := 0, locals := 190 }
set_option maxRecDepth 100000 in
theorem b12_worth_34 {p : Program} {l : Launch} {e : Env} {s : State} {m : MethodId} {args : Array Value} {below : List Frame} {meth : Method} {c : Code} {D : va_G} {cI cZ : ClassId} {ad : Nat → Nat} (E : rR_E D cI cZ ad cX12_worth 5 (some .int) p s m args meth c)   : ∀ (M : rv_Mem) (x1 : Int32) (x2 : Int32) (x3 : Int32) (x4 : Int32) (s1 : Int32), rv_M (rR_G D cI cZ ad) (rR_A ad) p l e rm12_worth s m args below meth c 0 0 (rR_qIW D cI cZ ad below args s) (f12_worth_34 M x1 x2 x3 x4 s1) 34 [some (.ref (ad 67)), some (.int x1), some (.int x2), some (.int x3), some (.int x4)] [.int s1, .ref (ad 67)] M := by
  intro M x1 x2 x3 x4 s1
  unfold f12_worth_34
  refine rv_b2 (fun r2 M3 e1 => ?_)
  refine rR_calli (q := 37) E (c12_goes E.2.2.1 e1) gX12_goes hX12_goes ⟨rfl, rfl⟩ ⟨Nat.le_of_ble_eq_true rfl, Nat.le_of_ble_eq_true rfl⟩ rfl rfl rfl (Nat.le_of_ble_eq_true rfl) dX12_worth_34 rfl ?_
  refine rv_ifz_ne (q := 40) (tgt := 42) E.x dX12_worth_37 (by decide) rfl ?_ ?_
  · refine rv_iconst (q := 41) E.x dX12_worth_40 rv_ki0 rfl ?_
    exact rR_iret E rfl dX12_worth_41
  · refine rv_aload_n (q := 43) E.x dX12_worth_42 rfl rfl ?_
    refine rv_iload_n (q := 44) E.x dX12_worth_43 rfl rfl ?_
    refine rv_aload_n (q := 45) E.x dX12_worth_44 rfl rfl ?_
    refine rv_iload_n (q := 46) E.x dX12_worth_45 rfl rfl ?_
    refine rv_iload_n (q := 47) E.x dX12_worth_46 rfl rfl ?_
    refine rv_b1 (fun r5 e4 => ?_)
    refine rR_calli (q := 50) E (c12_commitAt E.2.2.1 e4) gX12_commitAt hX12_commitAt ⟨rfl, rfl⟩ ⟨Nat.le_of_ble_eq_true rfl, Nat.le_of_ble_eq_true rfl⟩ rfl rfl rfl (Nat.le_of_ble_eq_true rfl) dX12_worth_47 rfl ?_
    refine rv_iload (q := 52) E.x dX12_worth_50 rfl rfl ?_
    refine rv_b2 (fun r7 M8 e6 => ?_)
    refine rR_calli (q := 55) E (c12_worthOf E.2.2.1 e6) gX12_worthOf hX12_worthOf ⟨rfl, rfl⟩ ⟨Nat.le_of_ble_eq_true rfl, Nat.le_of_ble_eq_true rfl⟩ rfl rfl rfl (Nat.le_of_ble_eq_true rfl) dX12_worth_52 rfl ?_
    exact rR_iret E rfl dX12_worth_55
set_option maxRecDepth 100000 in
theorem b12_worth_17 {p : Program} {l : Launch} {e : Env} {s : State} {m : MethodId} {args : Array Value} {below : List Frame} {meth : Method} {c : Code} {D : va_G} {cI cZ : ClassId} {ad : Nat → Nat} (E : rR_E D cI cZ ad cX12_worth 5 (some .int) p s m args meth c)   : ∀ (M : rv_Mem) (x1 : Int32) (x2 : Int32) (x3 : Int32) (x4 : Int32), rv_M (rR_G D cI cZ ad) (rR_A ad) p l e rm12_worth s m args below meth c 0 0 (rR_qIW D cI cZ ad below args s) (f12_worth_17 M x1 x2 x3 x4) 17 [some (.ref (ad 67)), some (.int x1), some (.int x2), some (.int x3), some (.int x4)] [.ref (ad 67)] M := by
  intro M x1 x2 x3 x4
  unfold f12_worth_17
  refine rv_iconst (q := 18) E.x dX12_worth_17 rv_ki1 rfl ?_
  refine rv_goto (q := 34) E.x dX12_worth_18 (by decide) ?_
  refine rv_wk [true, true, true, true, true] ?_
  exact b12_worth_34 E M x1 x2 x3 x4 1
set_option maxRecDepth 100000 in
theorem b12_worth {p : Program} {l : Launch} {e : Env} {s : State} {m : MethodId} {args : Array Value} {below : List Frame} {meth : Method} {c : Code} {D : va_G} {cI cZ : ClassId} {ad : Nat → Nat} (E : rR_E D cI cZ ad cX12_worth 5 (some .int) p s m args meth c) (M : rv_Mem) (a1 : Int32) (a2 : Int32) (a3 : Int32) (a4 : Int32) : rv_M (rR_G D cI cZ ad) (rR_A ad) p l e rm12_worth s m args below meth c 0 0  (rR_qIW D cI cZ ad below args s) (f12_worth M a1 a2 a3 a4) 0 [some (.ref (ad 67)), some (.int a1), some (.int a2), some (.int a3), some (.int a4)] [] M := by
  unfold f12_worth
  refine rv_aload_n (q := 1) E.x dX12_worth_0 rfl rfl ?_
  refine rv_iload_n (q := 2) E.x dX12_worth_1 rfl rfl ?_
  refine rv_b1 (fun r2 e1 => ?_)
  refine rR_calls (q := 5) E (c12_isPerson e1) gX12_isPerson hX12_isPerson ⟨rfl, rfl⟩ ⟨Nat.le_of_ble_eq_true rfl, Nat.le_of_ble_eq_true rfl⟩ rfl rfl rfl (Nat.le_of_ble_eq_true rfl) dX12_worth_2 rfl ?_
  refine rv_ifz_eq (q := 8) (tgt := 17) E.x dX12_worth_5 (by decide) rfl ?_ ?_
  · refine rv_aload_n (q := 9) E.x dX12_worth_8 rfl rfl ?_
    refine rv_iload_n (q := 10) E.x dX12_worth_9 rfl rfl ?_
    refine rv_iload_n (q := 11) E.x dX12_worth_10 rfl rfl ?_
    refine rv_b1 (fun r4 e3 => ?_)
    refine rR_calli (q := 14) E (c12_isSet E.2.2.1 e3) gX12_isSet hX12_isSet ⟨rfl, rfl⟩ ⟨Nat.le_of_ble_eq_true rfl, Nat.le_of_ble_eq_true rfl⟩ rfl rfl rfl (Nat.le_of_ble_eq_true rfl) dX12_worth_11 rfl ?_
    refine rv_ifz_ne (q := 17) (tgt := 21) E.x dX12_worth_14 (by decide) rfl ?_ ?_
    · refine rv_wk [true, true, true, true, true] ?_
      exact b12_worth_17 E M a1 a2 a3 a4
    · refine rv_iload (q := 23) E.x dX12_worth_21 rfl rfl ?_
      refine rv_b1 (fun r6 e5 => ?_)
      refine rR_calls (q := 26) E (c12_isLabel e5) gX12_isLabel hX12_isLabel ⟨rfl, rfl⟩ ⟨Nat.le_of_ble_eq_true rfl, Nat.le_of_ble_eq_true rfl⟩ rfl rfl rfl (Nat.le_of_ble_eq_true rfl) dX12_worth_23 rfl ?_
      refine rv_ifz_eq (q := 29) (tgt := 33) E.x dX12_worth_26 (by decide) rfl ?_ ?_
      · refine rv_iconst (q := 30) E.x dX12_worth_29 rv_ki0 rfl ?_
        refine rv_goto (q := 34) E.x dX12_worth_30 (by decide) ?_
        refine rv_wk [true, true, true, true, true] ?_
        exact b12_worth_34 E M a1 a2 a3 a4 0
      · refine rv_iconst (q := 34) E.x dX12_worth_33 rv_ki2 rfl ?_
        refine rv_wk [true, true, true, true, true] ?_
        exact b12_worth_34 E M a1 a2 a3 a4 2
  · refine rv_wk [true, true, true, true, true] ?_
    exact b12_worth_17 E M a1 a2 a3 a4
theorem c12_worth {l : Launch} {D : va_G} {cI cZ : ClassId} {ad : Nat → Nat} (hI : rR_I ad) {M : rv_Mem} {a1 : Int32} {a2 : Int32} {a3 : Int32} {a4 : Int32} {r : Int32} {M1 : rv_Mem} (h : f12_worth M a1 a2 a3 a4 = some (r, M1)) : Met l yX12_worth (rv_ws yX12_worth cX12_worth 5 (some .int)) rm12_worth (rR_Pc D cI cZ ad [.ref (ad 67), .int a1, .int a2, .int a3, .int a4] M) (rR_QI D cI cZ ad r M1) 0 0 (rR_A ad) := rR_met hI rfl (rv_cat rfl) (Nat.le_of_ble_eq_true rfl) (fun p e s m args below meth c E => ⟨(rR_qIW D cI cZ ad below args s), rfl, b12_worth E M a1 a2 a3 a4⟩) h
abbrev rm12_setCopied : Room := { frames := 2, cells := 0, slots := 0, locals := 42 }
set_option maxRecDepth 100000 in
theorem b12_setCopied_32 {p : Program} {l : Launch} {e : Env} {s : State} {m : MethodId} {args : Array Value} {below : List Frame} {meth : Method} {c : Code} {D : va_G} {cI cZ : ClassId} {ad : Nat → Nat} (E : rR_E D cI cZ ad cX12_setCopied 5 (some .int) p s m args meth c)   : ∀ (M : rv_Mem) (x1 : Int32) (x2 : Int32) (x3 : Int32) (s1 : Bool), rv_M (rR_G D cI cZ ad) (rR_A ad) p l e rm12_setCopied s m args below meth c 0 0 (rR_qIW D cI cZ ad below args s) (f12_setCopied_32 M x1 x2 x3 s1) 32 [some (.ref (ad 67)), some (.int x1), some (.int x2), some (.int x3), none] [.int (rv_i s1), .ref (ad 67)] M := by
  intro M x1 x2 x3 s1
  unfold f12_setCopied_32
  refine rv_b2 (fun r2 M3 e1 => ?_)
  refine rR_calli (q := 35) E (c12_goes E.2.2.1 e1) gX12_goes hX12_goes ⟨rfl, rfl⟩ ⟨Nat.le_of_ble_eq_true rfl, Nat.le_of_ble_eq_true rfl⟩ rfl rfl rfl (Nat.le_of_ble_eq_true rfl) dX12_setCopied_32 rfl ?_
  refine rv_ifz_ne (q := 38) (tgt := 40) E.x dX12_setCopied_35 (by decide) rfl ?_ ?_
  · refine rv_iconst (q := 39) E.x dX12_setCopied_38 rv_ki0 rfl ?_
    exact rR_iret E rfl dX12_setCopied_39
  · refine rv_aload_n (q := 41) E.x dX12_setCopied_40 rfl rfl ?_
    refine rR_get (q := 44) E 23 wf12_23 rfl (Nat.le_of_ble_eq_true rfl) rfl dX12_setCopied_41 rfl ?_
    refine rv_iconst (q := 45) E.x dX12_setCopied_44 rv_ki3 rfl ?_
    refine rv_iload_n (q := 46) E.x dX12_setCopied_45 rfl rfl ?_
    refine rv_imul (q := 47) E.x dX12_setCopied_46 rfl ?_
    refine rv_iload_n (q := 48) E.x dX12_setCopied_47 rfl rfl ?_
    refine rv_iadd (q := 49) E.x dX12_setCopied_48 rfl ?_
    refine rR_iald (q := 50) (n := 6) E (Nat.le_of_ble_eq_true rfl) rfl rfl dX12_setCopied_49 rfl ?_
    refine rv_istore (q := 52) (lv' := [_, _, _, _, _]) E.x dX12_setCopied_50 (Nat.le_of_ble_eq_true rfl) rfl rfl rfl ?_
    refine rv_aload_n (q := 53) E.x dX12_setCopied_52 rfl rfl ?_
    refine rR_get (q := 56) E 23 wf12_23 rfl (Nat.le_of_ble_eq_true rfl) rfl dX12_setCopied_53 rfl ?_
    refine rv_iconst (q := 57) E.x dX12_setCopied_56 rv_ki3 rfl ?_
    refine rv_iload_n (q := 58) E.x dX12_setCopied_57 rfl rfl ?_
    refine rv_imul (q := 59) E.x dX12_setCopied_58 rfl ?_
    refine rv_iload_n (q := 60) E.x dX12_setCopied_59 rfl rfl ?_
    refine rv_iadd (q := 61) E.x dX12_setCopied_60 rfl ?_
    refine rv_iload_n (q := 62) E.x dX12_setCopied_61 rfl rfl ?_
    refine rR_iast (q := 63) (n := 6) E (Nat.le_of_ble_eq_true rfl) rfl rfl dX12_setCopied_62 rfl ?_
    refine rv_ltm (fun M4 => ?_)
    refine rv_iload (q := 65) E.x dX12_setCopied_63 rfl rfl ?_
    exact rR_iret E rfl dX12_setCopied_65
set_option maxRecDepth 100000 in
theorem b12_setCopied_31 {p : Program} {l : Launch} {e : Env} {s : State} {m : MethodId} {args : Array Value} {below : List Frame} {meth : Method} {c : Code} {D : va_G} {cI cZ : ClassId} {ad : Nat → Nat} (E : rR_E D cI cZ ad cX12_setCopied 5 (some .int) p s m args meth c)   : ∀ (M : rv_Mem) (x1 : Int32) (x2 : Int32) (x3 : Int32), rv_M (rR_G D cI cZ ad) (rR_A ad) p l e rm12_setCopied s m args below meth c 0 0 (rR_qIW D cI cZ ad below args s) (f12_setCopied_31 M x1 x2 x3) 31 [some (.ref (ad 67)), some (.int x1), some (.int x2), some (.int x3), none] [.ref (ad 67)] M := by
  intro M x1 x2 x3
  unfold f12_setCopied_31
  refine rv_iconst (q := 32) E.x dX12_setCopied_31 rv_ki1 rfl ?_
  refine rv_wk [true, true, true, true, false] ?_
  exact b12_setCopied_32 E M x1 x2 x3 true
set_option maxRecDepth 100000 in
theorem b12_setCopied {p : Program} {l : Launch} {e : Env} {s : State} {m : MethodId} {args : Array Value} {below : List Frame} {meth : Method} {c : Code} {D : va_G} {cI cZ : ClassId} {ad : Nat → Nat} (E : rR_E D cI cZ ad cX12_setCopied 5 (some .int) p s m args meth c) (M : rv_Mem) (a1 : Int32) (a2 : Int32) (a3 : Int32) : rv_M (rR_G D cI cZ ad) (rR_A ad) p l e rm12_setCopied s m args below meth c 0 0  (rR_qIW D cI cZ ad below args s) (f12_setCopied M a1 a2 a3) 0 [some (.ref (ad 67)), some (.int a1), some (.int a2), some (.int a3), none] [] M := by
  unfold f12_setCopied
  refine rv_aload_n (q := 1) E.x dX12_setCopied_0 rfl rfl ?_
  refine rv_iload_n (q := 2) E.x dX12_setCopied_1 rfl rfl ?_
  refine rv_b1 (fun r2 e1 => ?_)
  refine rR_calls (q := 5) E (c12_isLabel e1) gX12_isLabel hX12_isLabel ⟨rfl, rfl⟩ ⟨Nat.le_of_ble_eq_true rfl, Nat.le_of_ble_eq_true rfl⟩ rfl rfl rfl (Nat.le_of_ble_eq_true rfl) dX12_setCopied_2 rfl ?_
  refine rv_ifz_eq (q := 8) (tgt := 31) E.x dX12_setCopied_5 (by decide) rfl ?_ ?_
  · refine rv_iload_n (q := 9) E.x dX12_setCopied_8 rfl rfl ?_
    refine rv_iconst (q := 10) E.x dX12_setCopied_9 rv_ki0 rfl ?_
    refine rv_iconst (q := 11) E.x dX12_setCopied_10 rv_ki2 rfl ?_
    refine rv_b1 (fun r4 e3 => ?_)
    refine rR_calls (q := 14) E (c12_isIn e3) gX12_isIn hX12_isIn ⟨rfl, rfl⟩ ⟨Nat.le_of_ble_eq_true rfl, Nat.le_of_ble_eq_true rfl⟩ rfl rfl rfl (Nat.le_of_ble_eq_true rfl) dX12_setCopied_11 rfl ?_
    refine rv_ifz_eq (q := 17) (tgt := 31) E.x dX12_setCopied_14 (by decide) rfl ?_ ?_
    · refine rv_iload_n (q := 18) E.x dX12_setCopied_17 rfl rfl ?_
      refine rv_iconst (q := 19) E.x dX12_setCopied_18 rv_ki0 rfl ?_
      refine rv_bipush (q := 21) E.x dX12_setCopied_19 rv_kb31 rfl ?_
      refine rv_b1 (fun r6 e5 => ?_)
      refine rR_calls (q := 24) E (c12_isIn e5) gX12_isIn hX12_isIn ⟨rfl, rfl⟩ ⟨Nat.le_of_ble_eq_true rfl, Nat.le_of_ble_eq_true rfl⟩ rfl rfl rfl (Nat.le_of_ble_eq_true rfl) dX12_setCopied_21 rfl ?_
      refine rv_ifz_eq (q := 27) (tgt := 31) E.x dX12_setCopied_24 (by decide) rfl ?_ ?_
      · refine rv_iconst (q := 28) E.x dX12_setCopied_27 rv_ki0 rfl ?_
        refine rv_goto (q := 32) E.x dX12_setCopied_28 (by decide) ?_
        refine rv_wk [true, true, true, true, false] ?_
        exact b12_setCopied_32 E M a1 a2 a3 false
      · refine rv_wk [true, true, true, true, false] ?_
        exact b12_setCopied_31 E M a1 a2 a3
    · refine rv_wk [true, true, true, true, false] ?_
      exact b12_setCopied_31 E M a1 a2 a3
  · refine rv_wk [true, true, true, true, false] ?_
    exact b12_setCopied_31 E M a1 a2 a3
theorem c12_setCopied {l : Launch} {D : va_G} {cI cZ : ClassId} {ad : Nat → Nat} (hI : rR_I ad) {M : rv_Mem} {a1 : Int32} {a2 : Int32} {a3 : Int32} {r : Int32} {M1 : rv_Mem} (h : f12_setCopied M a1 a2 a3 = some (r, M1)) : Met l yX12_setCopied (rv_ws yX12_setCopied cX12_setCopied 5 (some .int)) rm12_setCopied (rR_Pc D cI cZ ad [.ref (ad 67), .int a1, .int a2, .int a3] M) (rR_QI D cI cZ ad r M1) 0 0 (rR_A ad) := rR_met hI rfl (rv_cat rfl) (Nat.le_of_ble_eq_true rfl) (fun p e s m args below meth c E => ⟨(rR_qIW D cI cZ ad below args s), rfl, b12_setCopied E M a1 a2 a3⟩) h
