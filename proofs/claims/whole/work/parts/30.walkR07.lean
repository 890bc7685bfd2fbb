abbrev rm12_rebase : Room := { frames := 10, cells := 0, slots := 0, locals := 261 }
set_option maxRecDepth 100000 in
theorem b12_rebase_90 {p : Program} {l : Launch} {e : Env} {s : State} {m : MethodId} {args : Array Value} {below : List Frame} {meth : Method} {c : Code} {D : va_G} {cI cZ : ClassId} {ad : Nat → Nat} (E : rR_E D cI cZ ad cX12_rebase 5 (some .int) p s m args meth c)   : ∀ (M : rv_Mem) (x1 : Int32) (x2 : Int32) (x3 : Int32) (s1 : Int32), rv_M (rR_G D cI cZ ad) (rR_A ad) p l e rm12_rebase s m args below meth c 0 0 (rR_qIW D cI cZ ad below args s) (f12_rebase_90 M x1 x2 x3 s1) 90 [some (.ref (ad 67)), some (.int x1), some (.int x2), some (.int x3), none] [.int s1, .ref (ad 67)] M := by
  intro M x1 x2 x3 s1
  unfold f12_rebase_90
  refine rv_b2 (fun r2 M3 e1 => ?_)
  refine rR_calli (q := 93) E (c12_goes E.2.2.1 e1) gX12_goes hX12_goes ⟨rfl, rfl⟩ ⟨Nat.le_of_ble_eq_true rfl, Nat.le_of_ble_eq_true rfl⟩ rfl rfl rfl (Nat.le_of_ble_eq_true rfl) dX12_rebase_90 rfl ?_
  refine rv_ifz_ne (q := 96) (tgt := 98) E.x dX12_rebase_93 (by decide) rfl ?_ ?_
  · refine rv_iconst (q := 97) E.x dX12_rebase_96 rv_ki0 rfl ?_
    exact rR_iret E rfl dX12_rebase_97
  · refine rv_aload_n (q := 99) E.x dX12_rebase_98 rfl rfl ?_
    refine rv_iload_n (q := 100) E.x dX12_rebase_99 rfl rfl ?_
    refine rv_iload_n (q := 101) E.x dX12_rebase_100 rfl rfl ?_
    refine rv_bipush (q := 103) E.x dX12_rebase_101 rv_kb81 rfl ?_
    refine rv_iload_n (q := 104) E.x dX12_rebase_103 rfl rfl ?_
    refine rv_b2 (fun r5 M6 e4 => ?_)
    refine rR_calli (q := 107) E (c12_uploads E.2.2.1 e4) gX12_uploads hX12_uploads ⟨rfl, rfl⟩ ⟨Nat.le_of_ble_eq_true rfl, Nat.le_of_ble_eq_true rfl⟩ rfl rfl rfl (Nat.le_of_ble_eq_true rfl) dX12_rebase_104 rfl ?_
    exact rR_iret E rfl dX12_rebase_107
set_option maxRecDepth 100000 in
theorem b12_rebase_85 {p : Program} {l : Launch} {e : Env} {s : State} {m : MethodId} {args : Array Value} {below : List Frame} {meth : Method} {c : Code} {D : va_G} {cI cZ : ClassId} {ad : Nat → Nat} (E : rR_E D cI cZ ad cX12_rebase 5 (some .int) p s m args meth c)   : ∀ (M : rv_Mem) (x1 : Int32) (x2 : Int32) (x3 : Int32), rv_M (rR_G D cI cZ ad) (rR_A ad) p l e rm12_rebase s m args below meth c 0 0 (rR_qIW D cI cZ ad below args s) (f12_rebase_85 M x1 x2 x3) 85 [some (.ref (ad 67)), some (.int x1), some (.int x2), some (.int x3), none] [.ref (ad 67)] M := by
  intro M x1 x2 x3
  unfold f12_rebase_85
  refine rv_iconst (q := 86) E.x dX12_rebase_85 rv_ki2 rfl ?_
  refine rv_goto (q := 90) E.x dX12_rebase_86 (by decide) ?_
  refine rv_wk [true, true, true, true, false] ?_
  exact b12_rebase_90 E M x1 x2 x3 2
set_option maxRecDepth 100000 in
theorem b12_rebase_37 {p : Program} {l : Launch} {e : Env} {s : State} {m : MethodId} {args : Array Value} {below : List Frame} {meth : Method} {c : Code} {D : va_G} {cI cZ : ClassId} {ad : Nat → Nat} (E : rR_E D cI cZ ad cX12_rebase 5 (some .int) p s m args meth c)   : ∀ (M : rv_Mem) (x1 : Int32) (x2 : Int32) (s1 : Int32), rv_M (rR_G D cI cZ ad) (rR_A ad) p l e rm12_rebase s m args below meth c 0 0 (rR_qIW D cI cZ ad below args s) (f12_rebase_37 M x1 x2 s1) 37 [some (.ref (ad 67)), some (.int x1), some (.int x2), none, none] [.int s1, .ref (ad 67)] M := by
  intro M x1 x2 s1
  unfold f12_rebase_37
  refine rv_b2 (fun r2 M3 e1 => ?_)
  refine rR_calli (q := 40) E (c12_goes E.2.2.1 e1) gX12_goes hX12_goes ⟨rfl, rfl⟩ ⟨Nat.le_of_ble_eq_true rfl, Nat.le_of_ble_eq_true rfl⟩ rfl rfl rfl (Nat.le_of_ble_eq_true rfl) dX12_rebase_37 rfl ?_
  refine rv_ifz_ne (q := 43) (tgt := 45) E.x dX12_rebase_40 (by decide) rfl ?_ ?_
  · refine rv_iconst (q := 44) E.x dX12_rebase_43 rv_ki0 rfl ?_
    exact rR_iret E rfl dX12_rebase_44
  · refine rv_aload_n (q := 46) E.x dX12_rebase_45 rfl rfl ?_
    refine rv_iload_n (q := 47) E.x dX12_rebase_46 rfl rfl ?_
    refine rv_b1 (fun r5 e4 => ?_)
    refine rR_calli (q := 50) E (c12_newBase E.2.2.1 e4) gX12_newBase hX12_newBase ⟨rfl, rfl⟩ ⟨Nat.le_of_ble_eq_true rfl, Nat.le_of_ble_eq_true rfl⟩ rfl rfl rfl (Nat.le_of_ble_eq_true rfl) dX12_rebase_47 rfl ?_
    refine rv_istore_n (q := 51) (lv' := [_, _, _, _, _]) E.x dX12_rebase_50 (Nat.le_of_ble_eq_true rfl) rfl rfl rfl ?_
    refine rv_aload_n (q := 52) E.x dX12_rebase_51 rfl rfl ?_
    refine rR_get (q := 55) E 2 wf12_2 rfl (Nat.le_of_ble_eq_true rfl) rfl dX12_rebase_52 rfl ?_
    refine rv_aload_n (q := 56) E.x dX12_rebase_55 rfl rfl ?_
    refine rv_iload_n (q := 57) E.x dX12_rebase_56 rfl rfl ?_
    refine rv_b1 (fun r7 e6 => ?_)
    refine rR_calli (q := 60) E (c12_current E.2.2.1 e6) gX12_current hX12_current ⟨rfl, rfl⟩ ⟨Nat.le_of_ble_eq_true rfl, Nat.le_of_ble_eq_true rfl⟩ rfl rfl rfl (Nat.le_of_ble_eq_true rfl) dX12_rebase_57 rfl ?_
    refine rR_iald (q := 61) (n := 82) E (Nat.le_of_ble_eq_true rfl) rfl rfl dX12_rebase_60 rfl ?_
    refine rv_istore (q := 63) (lv' := [_, _, _, _, _]) E.x dX12_rebase_61 (Nat.le_of_ble_eq_true rfl) rfl rfl rfl ?_
    refine rv_aload_n (q := 64) E.x dX12_rebase_63 rfl rfl ?_
    refine rv_iload_n (q := 65) E.x dX12_rebase_64 rfl rfl ?_
    refine rv_iload (q := 67) E.x dX12_rebase_65 rfl rfl ?_
    refine rv_icmp_eq (q := 70) (tgt := 85) E.x dX12_rebase_67 (by decide) rfl ?_ ?_
    · refine rv_aload_n (q := 71) E.x dX12_rebase_70 rfl rfl ?_
      refine rv_iload (q := 73) E.x dX12_rebase_71 rfl rfl ?_
      refine rv_aload_n (q := 74) E.x dX12_rebase_73 rfl rfl ?_
      refine rv_iload_n (q := 75) E.x dX12_rebase_74 rfl rfl ?_
      refine rv_b1 (fun r9 e8 => ?_)
      refine rR_calli (q := 78) E (c12_current E.2.2.1 e8) gX12_current hX12_current ⟨rfl, rfl⟩ ⟨Nat.le_of_ble_eq_true rfl, Nat.le_of_ble_eq_true rfl⟩ rfl rfl rfl (Nat.le_of_ble_eq_true rfl) dX12_rebase_75 rfl ?_
      refine rv_iload_n (q := 79) E.x dX12_rebase_78 rfl rfl ?_
      refine rv_b2 (fun r11 M12 e10 => ?_)
      refine rR_calli (q := 82) E (c12_merges E.2.2.1 e10) gX12_merges hX12_merges ⟨rfl, rfl⟩ ⟨Nat.le_of_ble_eq_true rfl, Nat.le_of_ble_eq_true rfl⟩ rfl rfl rfl (Nat.le_of_ble_eq_true rfl) dX12_rebase_79 rfl ?_
      refine rv_ifz_ne (q := 85) (tgt := 89) E.x dX12_rebase_82 (by decide) rfl ?_ ?_
      · refine rv_wk [true, true, true, true, false] ?_
        exact b12_rebase_85 E M12 x1 x2 r5
      · refine rv_iconst (q := 90) E.x dX12_rebase_89 rv_ki0 rfl ?_
        refine rv_wk [true, true, true, true, false] ?_
        exact b12_rebase_90 E M12 x1 x2 r5 0
    · refine rv_wk [true, true, true, true, false] ?_
      exact b12_rebase_85 E M3 x1 x2 r5
set_option maxRecDepth 100000 in
theorem b12_rebase_32 {p : Program} {l : Launch} {e : Env} {s : State} {m : MethodId} {args : Array Value} {below : List Frame} {meth : Method} {c : Code} {D : va_G} {cI cZ : ClassId} {ad : Nat → Nat} (E : rR_E D cI cZ ad cX12_rebase 5 (some .int) p s m args meth c)   : ∀ (M : rv_Mem) (x1 : Int32) (x2 : Int32), rv_M (rR_G D cI cZ ad) (rR_A ad) p l e rm12_rebase s m args below meth c 0 0 (rR_qIW D cI cZ ad below args s) (f12_rebase_32 M x1 x2) 32 [some (.ref (ad 67)), some (.int x1), some (.int x2), none, none] [.ref (ad 67)] M := by
  intro M x1 x2
  unfold f12_rebase_32
  refine rv_iconst (q := 33) E.x dX12_rebase_32 rv_ki2 rfl ?_
  refine rv_goto (q := 37) E.x dX12_rebase_33 (by decide) ?_
  refine rv_wk [true, true, true, false, false] ?_
  exact b12_rebase_37 E M x1 x2 2
set_option maxRecDepth 100000 in
theorem b12_rebase {p : Program} {l : Launch} {e : Env} {s : State} {m : MethodId} {args : Array Value} {below : List Frame} {meth : Method} {c : Code} {D : va_G} {cI cZ : ClassId} {ad : Nat → Nat} (E : rR_E D cI cZ ad cX12_rebase 5 (some .int) p s m args meth c) (M : rv_Mem) (a1 : Int32) (a2 : Int32) : rv_M (rR_G D cI cZ ad) (rR_A ad) p l e rm12_rebase s m args below meth c 0 0  (rR_qIW D cI cZ ad below args s) (f12_rebase M a1 a2) 0 [some (.ref (ad 67)), some (.int a1), some (.int a2), none, none] [] M := by
  unfold f12_rebase
  refine rv_aload_n (q := 1) E.x dX12_rebase_0 rfl rfl ?_
  refine rv_aload_n (q := 2) E.x dX12_rebase_1 rfl rfl ?_
  refine rv_iload_n (q := 3) E.x dX12_rebase_2 rfl rfl ?_
  refine rv_iload_n (q := 4) E.x dX12_rebase_3 rfl rfl ?_
  refine rv_b1 (fun r2 e1 => ?_)
  refine rR_calli (q := 7) E (c12_wrong E.2.2.1 e1) gX12_wrong hX12_wrong ⟨rfl, rfl⟩ ⟨Nat.le_of_ble_eq_true rfl, Nat.le_of_ble_eq_true rfl⟩ rfl rfl rfl (Nat.le_of_ble_eq_true rfl) dX12_rebase_4 rfl ?_
  refine rv_b2 (fun r4 M5 e3 => ?_)
  refine rR_calli (q := 10) E (c12_goes E.2.2.1 e3) gX12_goes hX12_goes ⟨rfl, rfl⟩ ⟨Nat.le_of_ble_eq_true rfl, Nat.le_of_ble_eq_true rfl⟩ rfl rfl rfl (Nat.le_of_ble_eq_true rfl) dX12_rebase_7 rfl ?_
  refine rv_ifz_eq (q := 13) (tgt := 43) E.x dX12_rebase_10 (by decide) rfl ?_ ?_
  · refine rv_aload_n (q := 14) E.x dX12_rebase_13 rfl rfl ?_
    refine rv_aload_n (q := 15) E.x dX12_rebase_14 rfl rfl ?_
    refine rv_iload_n (q := 16) E.x dX12_rebase_15 rfl rfl ?_
    refine rv_iload_n (q := 17) E.x dX12_rebase_16 rfl rfl ?_
    refine rv_b1 (fun r7 e6 => ?_)
    refine rR_calli (q := 20) E (c12_isShut E.2.2.1 e6) gX12_isShut hX12_isShut ⟨rfl, rfl⟩ ⟨Nat.le_of_ble_eq_true rfl, Nat.le_of_ble_eq_true rfl⟩ rfl rfl rfl (Nat.le_of_ble_eq_true rfl) dX12_rebase_17 rfl ?_
    refine rv_ifz_ne (q := 23) (tgt := 32) E.x dX12_rebase_20 (by decide) rfl ?_ ?_
    · refine rv_aload_n (q := 24) E.x dX12_rebase_23 rfl rfl ?_
      refine rR_get (q := 27) E 0 wf12_0 rfl (Nat.le_of_ble_eq_true rfl) rfl dX12_rebase_24 rfl ?_
      refine rv_bipush (q := 29) E.x dX12_rebase_27 rv_kb80 rfl ?_
      refine rv_icmp_ne (q := 32) (tgt := 36) E.x dX12_rebase_29 (by decide) rfl ?_ ?_
      · refine rv_wk [true, true, true, false, false] ?_
        exact b12_rebase_32 E M5 a1 a2
      · refine rv_iconst (q := 37) E.x dX12_rebase_36 rv_ki0 rfl ?_
        refine rv_wk [true, true, true, false, false] ?_
        exact b12_rebase_37 E M5 a1 a2 0
    · refine rv_wk [true, true, true, false, false] ?_
      exact b12_rebase_32 E M5 a1 a2
  · refine rv_iconst (q := 44) E.x dX12_rebase_43 rv_ki0 rfl ?_
    exact rR_iret E rfl dX12_rebase_44
theorem c12_rebase {l : Launch} {D : va_G} {cI cZ : ClassId} {ad : Nat → Nat} (hI : rR_I ad) {M : rv_Mem} {a1 : Int32} {a2 : Int32} {r : Int32} {M1 : rv_Mem} (h : f12_rebase M a1 a2 = some (r, M1)) : Met l yX12_rebase (rv_ws yX12_rebase cX12_rebase 5 (some .int)) rm12_rebase (rR_Pc D cI cZ ad [.ref (ad 67), .int a1, .int a2] M) (rR_QI D cI cZ ad r M1) 0 0 (rR_A ad) := rR_met hI rfl (rv_cat rfl) (Nat.le_of_ble_eq_true rfl) (fun p e s m args below meth c E => ⟨(rR_qIW D cI cZ ad below args s), rfl, b12_rebase E M a1 a2⟩) h
abbrev rm12_abandons : Room := { frames := 4, cells := 0, slots := 0, locals := 90 }
set_option maxRecDepth 100000 in
theorem b12_abandons {p : Program} {l : Launch} {e : Env} {s : State} {m : MethodId} {args : Array Value} {below : List Frame} {meth : Method} {c : Code} {D : va_G} {cI cZ : ClassId} {ad : Nat → Nat} (E : rR_E D cI cZ ad cX12_abandons 3 none p s m args meth c) (M : rv_Mem) (a1 : Int32) (a2 : Int32) : rv_M (rR_G D cI cZ ad) (rR_A ad) p l e rm12_abandons s m args below meth c 0 0  (rR_qV D cI cZ ad below args s) (f12_abandons M a1 a2) 0 [some (.ref (ad 67)), some (.int a1), some (.int a2)] [] M := by
  unfold f12_abandons
  refine rv_aload_n (q := 1) E.x dX12_abandons_0 rfl rfl ?_
  refine rR_get (q := 4) E 13 wf12_13 rfl (Nat.le_of_ble_eq_true rfl) rfl dX12_abandons_1 rfl ?_
  refine rv_iload_n (q := 5) E.x dX12_abandons_4 rfl rfl ?_
  refine rv_iconst (q := 6) E.x dX12_abandons_5 rv_ki2 rfl ?_
  refine rR_iast (q := 7) (n := 20) E (Nat.le_of_ble_eq_true rfl) rfl rfl dX12_abandons_6 rfl ?_
  refine rv_ltm (fun M1 => ?_)
  refine rv_aload_n (q := 8) E.x dX12_abandons_7 rfl rfl ?_
  refine rR_get (q := 11) E 20 wf12_20 rfl (Nat.le_of_ble_eq_true rfl) rfl dX12_abandons_8 rfl ?_
  refine rv_iload_n (q := 12) E.x dX12_abandons_11 rfl rfl ?_
  refine rv_iconst (q := 13) E.x dX12_abandons_12 rv_ki0 rfl ?_
  refine rR_iast (q := 14) (n := 20) E (Nat.le_of_ble_eq_true rfl) rfl rfl dX12_abandons_13 rfl ?_
  refine rv_ltm (fun M2 => ?_)
  refine rv_aload_n (q := 15) E.x dX12_abandons_14 rfl rfl ?_
  refine rv_iload_n (q := 16) E.x dX12_abandons_15 rfl rfl ?_
  refine rv_iload_n (q := 17) E.x dX12_abandons_16 rfl rfl ?_
  refine rv_b1 (fun M4 e3 => ?_)
  refine rR_callv (q := 20) E (c12_tells E.2.2.1 e3) gX12_tells hX12_tells ⟨rfl, rfl⟩ ⟨Nat.le_of_ble_eq_true rfl, Nat.le_of_ble_eq_true rfl⟩ rfl rfl rfl (Nat.le_of_ble_eq_true rfl) dX12_abandons_17 rfl ?_
  exact rR_vret E rfl dX12_abandons_20
theorem c12_abandons {l : Launch} {D : va_G} {cI cZ : ClassId} {ad : Nat → Nat} (hI : rR_I ad) {M : rv_Mem} {a1 : Int32} {a2 : Int32} {M1 : rv_Mem} (h : f12_abandons M a1 a2 = some M1) : Met l yX12_abandons (rv_ws yX12_abandons cX12_abandons 3 none) rm12_abandons (rR_Pc D cI cZ ad [.ref (ad 67), .int a1, .int a2] M) (rR_QV D cI cZ ad M1) 0 0 (rR_A ad) := rR_met hI rfl (rv_cat rfl) (Nat.le_of_ble_eq_true rfl) (fun p e s m args below meth c E => ⟨(rR_qV D cI cZ ad below args s), rfl, b12_abandons E M a1 a2⟩) h
abbrev rm12_abandon : Room := { frames := 5, cells := 0, slots := 0, locals := 112 }
set_option maxRecDepth 100000 in
theorem b12_abandon_82 {p : Program} {l : Launch} {e : Env} {s : State} {m : MethodId} {args : Array Value} {below : List Frame} {meth : Method} {c : Code} {D : va_G} {cI cZ : ClassId} {ad : Nat → Nat} (E : rR_E D cI cZ ad cX12_abandon 5 (some .int) p s m args meth c) (k47 : rv_Mem → Int32 → Int32 → Int32 → Option (Int32 × rv_Mem)) (h47 : ∀ (M : rv_Mem) (x2 : Int32) (x3 : Int32) (x4 : Int32), rv_M (rR_G D cI cZ ad) (rR_A ad) p l e rm12_abandon s m args below meth c 0 0 (rR_qIW D cI cZ ad below args s) (k47 M x2 x3 x4) 47 [some (.ref (ad 67)), none, some (.int x2), some (.int x3), some (.int x4)] [] M) : ∀ (M : rv_Mem) (x2 : Int32) (x4 : Int32) (s0 : Int32) (s1 : Bool), rv_M (rR_G D cI cZ ad) (rR_A ad) p l e rm12_abandon s m args below meth c 0 0 (rR_qIW D cI cZ ad below args s) (f12_abandon_82 k47 M x2 x4 s0 s1) 82 [some (.ref (ad 67)), none, some (.int x2), none, some (.int x4)] [.int (rv_i s1), .int s0] M := by
  intro M x2 x4 s0 s1
  unfold f12_abandon_82
  refine rv_iadd (q := 83) E.x dX12_abandon_82 rfl ?_
  refine rv_istore_n (q := 84) (lv' := [_, _, _, _, _]) E.x dX12_abandon_83 (Nat.le_of_ble_eq_true rfl) rfl rfl rfl ?_
  refine rv_iinc (q := 87) (lv' := [_, _, _, _, _]) E.x dX12_abandon_84 rv_ki1 rfl rfl rfl rfl ?_
  refine rv_goto (q := 47) E.x dX12_abandon_87 (by decide) ?_
  refine rv_wk [true, false, true, true, true] ?_
  exact h47 M x2 (s0 + (rv_i s1)) (x4 + 1)
set_option maxRecDepth 100000 in
theorem b12_abandon_81 {p : Program} {l : Launch} {e : Env} {s : State} {m : MethodId} {args : Array Value} {below : List Frame} {meth : Method} {c : Code} {D : va_G} {cI cZ : ClassId} {ad : Nat → Nat} (E : rR_E D cI cZ ad cX12_abandon 5 (some .int) p s m args meth c) (k47 : rv_Mem → Int32 → Int32 → Int32 → Option (Int32 × rv_Mem)) (h47 : ∀ (M : rv_Mem) (x2 : Int32) (x3 : Int32) (x4 : Int32), rv_M (rR_G D cI cZ ad) (rR_A ad) p l e rm12_abandon s m args below meth c 0 0 (rR_qIW D cI cZ ad below args s) (k47 M x2 x3 x4) 47 [some (.ref (ad 67)), none, some (.int x2), some (.int x3), some (.int x4)] [] M) : ∀ (M : rv_Mem) (x2 : Int32) (x4 : Int32) (s0 : Int32), rv_M (rR_G D cI cZ ad) (rR_A ad) p l e rm12_abandon s m args below meth c 0 0 (rR_qIW D cI cZ ad below args s) (f12_abandon_81 k47 M x2 x4 s0) 81 [some (.ref (ad 67)), none, some (.int x2), none, some (.int x4)] [.int s0] M := by
  intro M x2 x4 s0
  unfold f12_abandon_81
  refine rv_iconst (q := 82) E.x dX12_abandon_81 rv_ki0 rfl ?_
  refine rv_wk [true, false, true, false, true] ?_
  exact b12_abandon_82 E k47 h47 M x2 x4 s0 false
set_option maxRecDepth 100000 in
theorem b12_abandon_47_s {p : Program} {l : Launch} {e : Env} {s : State} {m : MethodId} {args : Array Value} {below : List Frame} {meth : Method} {c : Code} {D : va_G} {cI cZ : ClassId} {ad : Nat → Nat} (E : rR_E D cI cZ ad cX12_abandon 5 (some .int) p s m args meth c)   (k47 : rv_Mem → Int32 → Int32 → Int32 → Option (Int32 × rv_Mem)) (h47 : ∀ (M : rv_Mem) (x2 : Int32) (x3 : Int32) (x4 : Int32), rv_M (rR_G D cI cZ ad) (rR_A ad) p l e rm12_abandon s m args below meth c 0 0 (rR_qIW D cI cZ ad below args s) (k47 M x2 x3 x4) 47 [some (.ref (ad 67)), none, some (.int x2), some (.int x3), some (.int x4)] [] M) : ∀ (M : rv_Mem) (x2 : Int32) (x3 : Int32) (x4 : Int32), rv_M (rR_G D cI cZ ad) (rR_A ad) p l e rm12_abandon s m args below meth c 0 0 (rR_qIW D cI cZ ad below args s) (f12_abandon_47_s k47 M x2 x3 x4) 47 [some (.ref (ad 67)), none, some (.int x2), some (.int x3), some (.int x4)] [] M := by
  intro M x2 x3 x4
  unfold f12_abandon_47_s
  refine rv_iload (q := 49) E.x dX12_abandon_47 rfl rfl ?_
  refine rv_aload_n (q := 50) E.x dX12_abandon_49 rfl rfl ?_
  refine rR_get (q := 53) E 11 wf12_11 rfl (Nat.le_of_ble_eq_true rfl) rfl dX12_abandon_50 rfl ?_
  refine rv_icmp_ge (q := 56) (tgt := 90) E.x dX12_abandon_53 (by decide) rfl ?_ ?_
  · refine rv_iload_n (q := 57) E.x dX12_abandon_56 rfl rfl ?_
    refine rv_aload_n (q := 58) E.x dX12_abandon_57 rfl rfl ?_
    refine rR_get (q := 61) E 13 wf12_13 rfl (Nat.le_of_ble_eq_true rfl) rfl dX12_abandon_58 rfl ?_
    refine rv_iload (q := 63) E.x dX12_abandon_61 rfl rfl ?_
    refine rR_iald (q := 64) (n := 20) E (Nat.le_of_ble_eq_true rfl) rfl rfl dX12_abandon_63 rfl ?_
    refine rv_if_ne (q := 67) (tgt := 81) E.x dX12_abandon_64 (by decide) rfl ?_ ?_
    · refine rv_aload_n (q := 68) E.x dX12_abandon_67 rfl rfl ?_
      refine rv_iload (q := 70) E.x dX12_abandon_68 rfl rfl ?_
      refine rv_b1 (fun r2 e1 => ?_)
      refine rR_calli (q := 73) E (c12_parent E.2.2.1 e1) gX12_parent hX12_parent ⟨rfl, rfl⟩ ⟨Nat.le_of_ble_eq_true rfl, Nat.le_of_ble_eq_true rfl⟩ rfl rfl rfl (Nat.le_of_ble_eq_true rfl) dX12_abandon_70 rfl ?_
      refine rv_iload_n (q := 74) E.x dX12_abandon_73 rfl rfl ?_
      refine rv_icmp_ne (q := 77) (tgt := 81) E.x dX12_abandon_74 (by decide) rfl ?_ ?_
      · refine rv_iconst (q := 78) E.x dX12_abandon_77 rv_ki1 rfl ?_
        refine rv_goto (q := 82) E.x dX12_abandon_78 (by decide) ?_
        refine rv_wk [true, false, true, false, true] ?_
        exact b12_abandon_82 E k47 h47 M x2 x4 x3 true
      · refine rv_wk [true, false, true, false, true] ?_
        exact b12_abandon_81 E k47 h47 M x2 x4 x3
    · refine rv_wk [true, false, true, false, true] ?_
      exact b12_abandon_81 E k47 h47 M x2 x4 x3
  · refine rv_iload_n (q := 91) E.x dX12_abandon_90 rfl rfl ?_
    exact rR_iret E rfl dX12_abandon_91
theorem b12_abandon_47 {p : Program} {l : Launch} {e : Env} {s : State} {m : MethodId} {args : Array Value} {below : List Frame} {meth : Method} {c : Code} {D : va_G} {cI cZ : ClassId} {ad : Nat → Nat} (E : rR_E D cI cZ ad cX12_abandon 5 (some .int) p s m args meth c)   : ∀ (n : Nat), ∀ (M : rv_Mem) (x2 : Int32) (x3 : Int32) (x4 : Int32), rv_M (rR_G D cI cZ ad) (rR_A ad) p l e rm12_abandon s m args below meth c 0 0 (rR_qIW D cI cZ ad below args s) (f12_abandon_47 n M x2 x3 x4) 47 [some (.ref (ad 67)), none, some (.int x2), some (.int x3), some (.int x4)] [] M := by
  intro n
  induction n with
  | zero => exact fun _ _ _ _ => rv_stuck
  | succ n ih => exact b12_abandon_47_s E  (f12_abandon_47 n) ih
set_option maxRecDepth 100000 in
theorem b12_abandon_28 {p : Program} {l : Launch} {e : Env} {s : State} {m : MethodId} {args : Array Value} {below : List Frame} {meth : Method} {c : Code} {D : va_G} {cI cZ : ClassId} {ad : Nat → Nat} (E : rR_E D cI cZ ad cX12_abandon 5 (some .int) p s m args meth c)   : ∀ (M : rv_Mem) (x1 : Int32) (x2 : Int32) (s1 : Int32), rv_M (rR_G D cI cZ ad) (rR_A ad) p l e rm12_abandon s m args below meth c 0 0 (rR_qIW D cI cZ ad below args s) (f12_abandon_28 M x1 x2 s1) 28 [some (.ref (ad 67)), some (.int x1), some (.int x2), none, none] [.int s1, .ref (ad 67)] M := by
  intro M x1 x2 s1
  unfold f12_abandon_28
  refine rv_b2 (fun r2 M3 e1 => ?_)
  refine rR_calli (q := 31) E (c12_goes E.2.2.1 e1) gX12_goes hX12_goes ⟨rfl, rfl⟩ ⟨Nat.le_of_ble_eq_true rfl, Nat.le_of_ble_eq_true rfl⟩ rfl rfl rfl (Nat.le_of_ble_eq_true rfl) dX12_abandon_28 rfl ?_
  refine rv_ifz_ne (q := 34) (tgt := 36) E.x dX12_abandon_31 (by decide) rfl ?_ ?_
  · refine rv_iconst (q := 35) E.x dX12_abandon_34 rv_ki0 rfl ?_
    exact rR_iret E rfl dX12_abandon_35
  · refine rv_aload_n (q := 37) E.x dX12_abandon_36 rfl rfl ?_
    refine rv_iload_n (q := 38) E.x dX12_abandon_37 rfl rfl ?_
    refine rv_iload_n (q := 39) E.x dX12_abandon_38 rfl rfl ?_
    refine rv_b1 (fun M5 e4 => ?_)
    refine rR_callv (q := 42) E (c12_abandons E.2.2.1 e4) gX12_abandons hX12_abandons ⟨rfl, rfl⟩ ⟨Nat.le_of_ble_eq_true rfl, Nat.le_of_ble_eq_true rfl⟩ rfl rfl rfl (Nat.le_of_ble_eq_true rfl) dX12_abandon_39 rfl ?_
    refine rv_iconst (q := 43) E.x dX12_abandon_42 rv_ki0 rfl ?_
    refine rv_istore_n (q := 44) (lv' := [_, _, _, _, _]) E.x dX12_abandon_43 (Nat.le_of_ble_eq_true rfl) rfl rfl rfl ?_
    refine rv_iconst (q := 45) E.x dX12_abandon_44 rv_ki0 rfl ?_
    refine rv_istore (q := 47) (lv' := [_, _, _, _, _]) E.x dX12_abandon_45 (Nat.le_of_ble_eq_true rfl) rfl rfl rfl ?_
    refine rv_wk [true, false, true, true, true] ?_
    exact b12_abandon_47 E rv_FU M5 x2 0 0
set_option maxRecDepth 100000 in
theorem b12_abandon {p : Program} {l : Launch} {e : Env} {s : State} {m : MethodId} {args : Array Value} {below : List Frame} {meth : Method} {c : Code} {D : va_G} {cI cZ : ClassId} {ad : Nat → Nat} (E : rR_E D cI cZ ad cX12_abandon 5 (some .int) p s m args meth c) (M : rv_Mem) (a1 : Int32) (a2 : Int32) : rv_M (rR_G D cI cZ ad) (rR_A ad) p l e rm12_abandon s m args below meth c 0 0  (rR_qIW D cI cZ ad below args s) (f12_abandon M a1 a2) 0 [some (.ref (ad 67)), some (.int a1), some (.int a2), none, none] [] M := by
  unfold f12_abandon
  refine rv_aload_n (q := 1) E.x dX12_abandon_0 rfl rfl ?_
  refine rv_aload_n (q := 2) E.x dX12_abandon_1 rfl rfl ?_
  refine rv_iload_n (q := 3) E.x dX12_abandon_2 rfl rfl ?_
  refine rv_iload_n (q := 4) E.x dX12_abandon_3 rfl rfl ?_
  refine rv_b1 (fun r2 e1 => ?_)
  refine rR_calli (q := 7) E (c12_wrong E.2.2.1 e1) gX12_wrong hX12_wrong ⟨rfl, rfl⟩ ⟨Nat.le_of_ble_eq_true rfl, Nat.le_of_ble_eq_true rfl⟩ rfl rfl rfl (Nat.le_of_ble_eq_true rfl) dX12_abandon_4 rfl ?_
  refine rv_b2 (fun r4 M5 e3 => ?_)
  refine rR_calli (q := 10) E (c12_goes E.2.2.1 e3) gX12_goes hX12_goes ⟨rfl, rfl⟩ ⟨Nat.le_of_ble_eq_true rfl, Nat.le_of_ble_eq_true rfl⟩ rfl rfl rfl (Nat.le_of_ble_eq_true rfl) dX12_abandon_7 rfl ?_
  refine rv_ifz_eq (q := 13) (tgt := 34) E.x dX12_abandon_10 (by decide) rfl ?_ ?_
  · refine rv_aload_n (q := 14) E.x dX12_abandon_13 rfl rfl ?_
    refine rv_aload_n (q := 15) E.x dX12_abandon_14 rfl rfl ?_
    refine rv_iload_n (q := 16) E.x dX12_abandon_15 rfl rfl ?_
    refine rv_iload_n (q := 17) E.x dX12_abandon_16 rfl rfl ?_
    refine rv_b1 (fun r7 e6 => ?_)
    refine rR_calli (q := 20) E (c12_isShut E.2.2.1 e6) gX12_isShut hX12_isShut ⟨rfl, rfl⟩ ⟨Nat.le_of_ble_eq_true rfl, Nat.le_of_ble_eq_true rfl⟩ rfl rfl rfl (Nat.le_of_ble_eq_true rfl) dX12_abandon_17 rfl ?_
    refine rv_ifz_eq (q := 23) (tgt := 27) E.x dX12_abandon_20 (by decide) rfl ?_ ?_
    · refine rv_iconst (q := 24) E.x dX12_abandon_23 rv_ki2 rfl ?_
      refine rv_goto (q := 28) E.x dX12_abandon_24 (by decide) ?_
      refine rv_wk [true, true, true, false, false] ?_
      exact b12_abandon_28 E M5 a1 a2 2
    · refine rv_iconst (q := 28) E.x dX12_abandon_27 rv_ki0 rfl ?_
      refine rv_wk [true, true, true, false, false] ?_
      exact b12_abandon_28 E M5 a1 a2 0
  · refine rv_iconst (q := 35) E.x dX12_abandon_34 rv_ki0 rfl ?_
    exact rR_iret E rfl dX12_abandon_35
theorem c12_abandon {l : Launch} {D : va_G} {cI cZ : ClassId} {ad : Nat → Nat} (hI : rR_I ad) {M : rv_Mem} {a1 : Int32} {a2 : Int32} {r : Int32} {M1 : rv_Mem} (h : f12_abandon M a1 a2 = some (r, M1)) : Met l yX12_abandon (rv_ws yX12_abandon cX12_abandon 5 (some .int)) rm12_abandon (rR_Pc D cI cZ ad [.ref (ad 67), .int a1, .int a2] M) (rR_QI D cI cZ ad r M1) 0 0 (rR_A ad) := rR_met hI rfl (rv_cat rfl) (Nat.le_of_ble_eq_true rfl) (fun p e s m args below meth c E => ⟨(rR_qIW D cI cZ ad below args s), rfl, b12_abandon E M a1 a2⟩) h
abbrev rm12_restore : Room := { frames := 2, cells := 0, slots := 0, locals := 43 }
set_option maxRecDepth 100000 in
theorem b12_restore_28 {p : Program} {l : Launch} {e : Env} {s : State} {m : MethodId} {args : Array Value} {below : List Frame} {meth : Method} {c : Code} {D : va_G} {cI cZ : ClassId} {ad : Nat → Nat} (E : rR_E D cI cZ ad cX12_restore 2 (some .int) p s m args meth c)   : ∀ (M : rv_Mem) (x1 : Int32) (s1 : Int32), rv_M (rR_G D cI cZ ad) (rR_A ad) p l e rm12_restore s m args below meth c 0 0 (rR_qIW D cI cZ ad below args s) (f12_restore_28 M x1 s1) 28 [some (.ref (ad 67)), some (.int x1)] [.int s1, .ref (ad 67)] M := by
  intro M x1 s1
  unfold f12_restore_28
  refine rv_b2 (fun r2 M3 e1 => ?_)
  refine rR_calli (q := 31) E (c12_goes E.2.2.1 e1) gX12_goes hX12_goes ⟨rfl, rfl⟩ ⟨Nat.le_of_ble_eq_true rfl, Nat.le_of_ble_eq_true rfl⟩ rfl rfl rfl (Nat.le_of_ble_eq_true rfl) dX12_restore_28 rfl ?_
  refine rv_ifz_ne (q := 34) (tgt := 36) E.x dX12_restore_31 (by decide) rfl ?_ ?_
  · refine rv_iconst (q := 35) E.x dX12_restore_34 rv_ki0 rfl ?_
    exact rR_iret E rfl dX12_restore_35
  · refine rv_aload_n (q := 37) E.x dX12_restore_36 rfl rfl ?_
    refine rR_get (q := 40) E 13 wf12_13 rfl (Nat.le_of_ble_eq_true rfl) rfl dX12_restore_37 rfl ?_
    refine rv_iload_n (q := 41) E.x dX12_restore_40 rfl rfl ?_
    refine rv_iconst (q := 42) E.x dX12_restore_41 rv_ki0 rfl ?_
    refine rR_iast (q := 43) (n := 20) E (Nat.le_of_ble_eq_true rfl) rfl rfl dX12_restore_42 rfl ?_
    refine rv_ltm (fun M4 => ?_)
    refine rv_aload_n (q := 44) E.x dX12_restore_43 rfl rfl ?_
    refine rR_get (q := 47) E 21 wf12_21 rfl (Nat.le_of_ble_eq_true rfl) rfl dX12_restore_44 rfl ?_
    refine rv_iload_n (q := 48) E.x dX12_restore_47 rfl rfl ?_
    refine rv_aload_n (q := 49) E.x dX12_restore_48 rfl rfl ?_
    refine rR_get (q := 52) E 52 wf12_52 rfl (Nat.le_of_ble_eq_true rfl) rfl dX12_restore_49 rfl ?_
    refine rR_iast (q := 53) (n := 20) E (Nat.le_of_ble_eq_true rfl) rfl rfl dX12_restore_52 rfl ?_
    refine rv_ltm (fun M5 => ?_)
    refine rv_aload_n (q := 54) E.x dX12_restore_53 rfl rfl ?_
    refine rR_get (q := 57) E 14 wf12_14 rfl (Nat.le_of_ble_eq_true rfl) rfl dX12_restore_54 rfl ?_
    refine rv_iload_n (q := 58) E.x dX12_restore_57 rfl rfl ?_
    refine rR_iald (q := 59) (n := 20) E (Nat.le_of_ble_eq_true rfl) rfl rfl dX12_restore_58 rfl ?_
    refine rv_iconst (q := 60) E.x dX12_restore_59 rv_ki1 rfl ?_
    refine rv_isub (q := 61) E.x dX12_restore_60 rfl ?_
    exact rR_iret E rfl dX12_restore_61
set_option maxRecDepth 100000 in
theorem b12_restore {p : Program} {l : Launch} {e : Env} {s : State} {m : MethodId} {args : Array Value} {below : List Frame} {meth : Method} {c : Code} {D : va_G} {cI cZ : ClassId} {ad : Nat → Nat} (E : rR_E D cI cZ ad cX12_restore 2 (some .int) p s m args meth c) (M : rv_Mem) (a1 : Int32) : rv_M (rR_G D cI cZ ad) (rR_A ad) p l e rm12_restore s m args below meth c 0 0  (rR_qIW D cI cZ ad below args s) (f12_restore M a1) 0 [some (.ref (ad 67)), some (.int a1)] [] M := by
  unfold f12_restore
  refine rv_aload_n (q := 1) E.x dX12_restore_0 rfl rfl ?_
  refine rv_aload_n (q := 2) E.x dX12_restore_1 rfl rfl ?_
  refine rv_iload_n (q := 3) E.x dX12_restore_2 rfl rfl ?_
  refine rv_b1 (fun r2 e1 => ?_)
  refine rR_calli (q := 6) E (c12_isChange E.2.2.1 e1) gX12_isChange hX12_isChange ⟨rfl, rfl⟩ ⟨Nat.le_of_ble_eq_true rfl, Nat.le_of_ble_eq_true rfl⟩ rfl rfl rfl (Nat.le_of_ble_eq_true rfl) dX12_restore_3 rfl ?_
  refine rv_ifz_ne (q := 9) (tgt := 13) E.x dX12_restore_6 (by decide) rfl ?_ ?_
  · refine rv_iconst (q := 10) E.x dX12_restore_9 rv_ki1 rfl ?_
    refine rv_goto (q := 28) E.x dX12_restore_10 (by decide) ?_
    refine rv_wk [true, true] ?_
    exact b12_restore_28 E M a1 1
  · refine rv_aload_n (q := 14) E.x dX12_restore_13 rfl rfl ?_
    refine rR_get (q := 17) E 13 wf12_13 rfl (Nat.le_of_ble_eq_true rfl) rfl dX12_restore_14 rfl ?_
    refine rv_iload_n (q := 18) E.x dX12_restore_17 rfl rfl ?_
    refine rR_iald (q := 19) (n := 20) E (Nat.le_of_ble_eq_true rfl) rfl rfl dX12_restore_18 rfl ?_
    refine rv_iconst (q := 20) E.x dX12_restore_19 rv_ki2 rfl ?_
    refine rv_icmp_ne (q := 23) (tgt := 27) E.x dX12_restore_20 (by decide) rfl ?_ ?_
    · refine rv_iconst (q := 24) E.x dX12_restore_23 rv_ki0 rfl ?_
      refine rv_goto (q := 28) E.x dX12_restore_24 (by decide) ?_
      refine rv_wk [true, true] ?_
      exact b12_restore_28 E M a1 0
    · refine rv_iconst (q := 28) E.x dX12_restore_27 rv_ki2 rfl ?_
      refine rv_wk [true, true] ?_
      exact b12_restore_28 E M a1 2
theorem c12_restore {l : Launch} {D : va_G} {cI cZ : ClassId} {ad : Nat → Nat} (hI : rR_I ad) {M : rv_Mem} {a1 : Int32} {r : Int32} {M1 : rv_Mem} (h : f12_restore M a1 = some (r, M1)) : Met l yX12_restore (rv_ws yX12_restore cX12_restore 2 (some .int)) rm12_restore (rR_Pc D cI cZ ad [.ref (ad 67), .int a1] M) (rR_QI D cI cZ ad r M1) 0 0 (rR_A ad) := rR_met hI rfl (rv_cat rfl) (Nat.le_of_ble_eq_true rfl) (fun p e s m args below meth c E => ⟨(rR_qIW D cI cZ ad below args s), rfl, b12_restore E M a1⟩) h
abbrev rm12_setFlags : Room := { frames := 2, cells := 0, slots := 0, locals := 43 }
set_option maxRecDepth 100000 in
theorem b12_setFlags_136 {p : Program} {l : Launch} {e : Env} {s : State} {m : MethodId} {args : Array Value} {below : List Frame} {meth : Method} {c : Code} {D : va_G} {cI cZ : ClassId} {ad : Nat → Nat} (E : rR_E D cI cZ ad cX12_setFlags 6 (some .int) p s m args meth c)   : ∀ (M : rv_Mem) (x4 : Int32) (s1 : Int32) (s2 : Int32), rv_M (rR_G D cI cZ ad) (rR_A ad) p l e rm12_setFlags s m args below meth c 0 0 (rR_qIW D cI cZ ad below args s) (f12_setFlags_136 M x4 s1 s2) 136 [some (.ref (ad 67)), none, none, none, some (.int x4), none] [.int s2, .int s1, .ref (ad 67)] M := by
  intro M x4 s1 s2
  unfold f12_setFlags_136
  refine rv_b1 (fun M2 e1 => ?_)
  refine rR_callv (q := 139) E (c12_givesTurns E.2.2.1 e1) gX12_givesTurns hX12_givesTurns ⟨rfl, rfl⟩ ⟨Nat.le_of_ble_eq_true rfl, Nat.le_of_ble_eq_true rfl⟩ rfl rfl rfl (Nat.le_of_ble_eq_true rfl) dX12_setFlags_136 rfl ?_
  refine rv_iload (q := 141) E.x dX12_setFlags_139 rfl rfl ?_
  exact rR_iret E rfl dX12_setFlags_141
set_option maxRecDepth 100000 in
theorem b12_setFlags_105 {p : Program} {l : Launch} {e : Env} {s : State} {m : MethodId} {args : Array Value} {below : List Frame} {meth : Method} {c : Code} {D : va_G} {cI cZ : ClassId} {ad : Nat → Nat} (E : rR_E D cI cZ ad cX12_setFlags 6 (some .int) p s m args meth c)   : ∀ (M : rv_Mem) (x1 : Int32) (x2 : Bool) (x3 : Bool) (x4 : Int32) (x5 : Bool) (s1 : Int32) (s2 : Int32), rv_M (rR_G D cI cZ ad) (rR_A ad) p l e rm12_setFlags s m args below meth c 0 0 (rR_qIW D cI cZ ad below args s) (f12_setFlags_105 M x1 x2 x3 x4 x5 s1 s2) 105 [some (.ref (ad 67)), some (.int x1), some (.int (rv_i x2)), some (.int (rv_i x3)), some (.int x4), some (.int (rv_i x5))] [.int s2, .int s1, .ref (ad 20)] M := by
  intro M x1 x2 x3 x4 x5 s1 s2
  unfold f12_setFlags_105
  refine rR_iast (q := 106) (n := 20) E (Nat.le_of_ble_eq_true rfl) rfl rfl dX12_setFlags_105 rfl ?_
  refine rv_ltm (fun M1 => ?_)
  refine rv_aload_n (q := 107) E.x dX12_setFlags_106 rfl rfl ?_
  refine rR_get (q := 110) E 15 wf12_15 rfl (Nat.le_of_ble_eq_true rfl) rfl dX12_setFlags_107 rfl ?_
  refine rv_iload_n (q := 111) E.x dX12_setFlags_110 rfl rfl ?_
  refine rv_iload_n (q := 112) E.x dX12_setFlags_111 rfl rfl ?_
  refine rR_zast (q := 113) (n := 20) E x2 (Nat.le_of_ble_eq_true rfl) rfl rfl dX12_setFlags_112 rfl ?_
  refine rv_ltm (fun M2 => ?_)
  refine rv_aload_n (q := 114) E.x dX12_setFlags_113 rfl rfl ?_
  refine rR_get (q := 117) E 16 wf12_16 rfl (Nat.le_of_ble_eq_true rfl) rfl dX12_setFlags_114 rfl ?_
  refine rv_iload_n (q := 118) E.x dX12_setFlags_117 rfl rfl ?_
  refine rv_iload_n (q := 119) E.x dX12_setFlags_118 rfl rfl ?_
  refine rR_zast (q := 120) (n := 20) E x3 (Nat.le_of_ble_eq_true rfl) rfl rfl dX12_setFlags_119 rfl ?_
  refine rv_ltm (fun M3 => ?_)
  refine rv_aload_n (q := 121) E.x dX12_setFlags_120 rfl rfl ?_
  refine rv_iload_n (q := 122) E.x dX12_setFlags_121 rfl rfl ?_
  refine rv_iload (q := 124) E.x dX12_setFlags_122 rfl rfl ?_
  refine rv_ifz_eq (q := 127) (tgt := 135) E.x dX12_setFlags_124 (by decide) rfl ?_ ?_
  · refine rv_aload_n (q := 128) E.x dX12_setFlags_127 rfl rfl ?_
    refine rv_iload_n (q := 129) E.x dX12_setFlags_128 rfl rfl ?_
    refine rv_b1 (fun r5 e4 => ?_)
    refine rR_calli (q := 132) E (c12_reviewersOf E.2.2.1 e4) gX12_reviewersOf hX12_reviewersOf ⟨rfl, rfl⟩ ⟨Nat.le_of_ble_eq_true rfl, Nat.le_of_ble_eq_true rfl⟩ rfl rfl rfl (Nat.le_of_ble_eq_true rfl) dX12_setFlags_129 rfl ?_
    refine rv_goto (q := 136) E.x dX12_setFlags_132 (by decide) ?_
    refine rv_wk [true, false, false, false, true, false] ?_
    exact b12_setFlags_136 E M3 x4 x1 r5
  · refine rv_iconst (q := 136) E.x dX12_setFlags_135 rv_ki0 rfl ?_
    refine rv_wk [true, false, false, false, true, false] ?_
    exact b12_setFlags_136 E M3 x4 x1 0
set_option maxRecDepth 100000 in
theorem b12_setFlags_84 {p : Program} {l : Launch} {e : Env} {s : State} {m : MethodId} {args : Array Value} {below : List Frame} {meth : Method} {c : Code} {D : va_G} {cI cZ : ClassId} {ad : Nat → Nat} (E : rR_E D cI cZ ad cX12_setFlags 6 (some .int) p s m args meth c)   : ∀ (M : rv_Mem) (x1 : Int32) (x2 : Bool) (x3 : Bool) (x4 : Int32) (s0 : Bool), rv_M (rR_G D cI cZ ad) (rR_A ad) p l e rm12_setFlags s m args below meth c 0 0 (rR_qIW D cI cZ ad below args s) (f12_setFlags_84 M x1 x2 x3 x4 s0) 84 [some (.ref (ad 67)), some (.int x1), some (.int (rv_i x2)), some (.int (rv_i x3)), some (.int x4), none] [.int (rv_i s0)] M := by
  intro M x1 x2 x3 x4 s0
  unfold f12_setFlags_84
  refine rv_istore (q := 86) (lv' := [_, _, _, _, _, _]) E.x dX12_setFlags_84 (Nat.le_of_ble_eq_true rfl) rfl rfl rfl ?_
  refine rv_aload_n (q := 87) E.x dX12_setFlags_86 rfl rfl ?_
  refine rR_get (q := 90) E 20 wf12_20 rfl (Nat.le_of_ble_eq_true rfl) rfl dX12_setFlags_87 rfl ?_
  refine rv_iload_n (q := 91) E.x dX12_setFlags_90 rfl rfl ?_
  refine rv_iload_n (q := 92) E.x dX12_setFlags_91 rfl rfl ?_
  refine rv_ifz_eq (q := 95) (tgt := 99) E.x dX12_setFlags_92 (by decide) rfl ?_ ?_
  · refine rv_iconst (q := 96) E.x dX12_setFlags_95 rv_ki0 rfl ?_
    refine rv_goto (q := 105) E.x dX12_setFlags_96 (by decide) ?_
    refine rv_wk [true, true, true, true, true, true] ?_
    exact b12_setFlags_105 E M x1 x2 x3 x4 s0 x1 0
  · refine rv_aload_n (q := 100) E.x dX12_setFlags_99 rfl rfl ?_
    refine rR_get (q := 103) E 20 wf12_20 rfl (Nat.le_of_ble_eq_true rfl) rfl dX12_setFlags_100 rfl ?_
    refine rv_iload_n (q := 104) E.x dX12_setFlags_103 rfl rfl ?_
    refine rR_iald (q := 105) (n := 20) E (Nat.le_of_ble_eq_true rfl) rfl rfl dX12_setFlags_104 rfl ?_
    refine rv_wk [true, true, true, true, true, true] ?_
    exact b12_setFlags_105 E M x1 x2 x3 x4 s0 x1 (M 20 (x1).toNatClampNeg)
set_option maxRecDepth 100000 in
theorem b12_setFlags_83 {p : Program} {l : Launch} {e : Env} {s : State} {m : MethodId} {args : Array Value} {below : List Frame} {meth : Method} {c : Code} {D : va_G} {cI cZ : ClassId} {ad : Nat → Nat} (E : rR_E D cI cZ ad cX12_setFlags 6 (some .int) p s m args meth c)   : ∀ (M : rv_Mem) (x1 : Int32) (x2 : Bool) (x3 : Bool) (x4 : Int32), rv_M (rR_G D cI cZ ad) (rR_A ad) p l e rm12_setFlags s m args below meth c 0 0 (rR_qIW D cI cZ ad below args s) (f12_setFlags_83 M x1 x2 x3 x4) 83 [some (.ref (ad 67)), some (.int x1), some (.int (rv_i x2)), some (.int (rv_i x3)), some (.int x4), none] [] M := by
  intro M x1 x2 x3 x4
  unfold f12_setFlags_83
  refine rv_iconst (q := 84) E.x dX12_setFlags_83 rv_ki0 rfl ?_
  refine rv_wk [true, true, true, true, true, false] ?_
  exact b12_setFlags_84 E M x1 x2 x3 x4 false
set_option maxRecDepth 100000 in
theorem b12_setFlags_63 {p : Program} {l : Launch} {e : Env} {s : State} {m : MethodId} {args : Array Value} {below : List Frame} {meth : Method} {c : Code} {D : va_G} {cI cZ : ClassId} {ad : Nat → Nat} (E : rR_E D cI cZ ad cX12_setFlags 6 (some .int) p s m args meth c)   : ∀ (M : rv_Mem) (x1 : Int32) (x2 : Bool) (x3 : Bool) (s0 : Bool) (s1 : Int32), rv_M (rR_G D cI cZ ad) (rR_A ad) p l e rm12_setFlags s m args below meth c 0 0 (rR_qIW D cI cZ ad below args s) (f12_setFlags_63 M x1 x2 x3 s0 s1) 63 [some (.ref (ad 67)), some (.int x1), some (.int (rv_i x2)), some (.int (rv_i x3)), none, none] [.int s1, .int (rv_i s0)] M := by
  intro M x1 x2 x3 s0 s1
  unfold f12_setFlags_63
  refine rv_iadd (q := 64) E.x dX12_setFlags_63 rfl ?_
  refine rv_istore (q := 66) (lv' := [_, _, _, _, _, _]) E.x dX12_setFlags_64 (Nat.le_of_ble_eq_true rfl) rfl rfl rfl ?_
  refine rv_aload_n (q := 67) E.x dX12_setFlags_66 rfl rfl ?_
  refine rR_get (q := 70) E 15 wf12_15 rfl (Nat.le_of_ble_eq_true rfl) rfl dX12_setFlags_67 rfl ?_
  refine rv_iload_n (q := 71) E.x dX12_setFlags_70 rfl rfl ?_
  refine rR_zald (q := 72) (n := 20) E (Nat.le_of_ble_eq_true rfl) rfl rfl dX12_setFlags_71 rfl ?_
  refine rv_ifz_eq (q := 75) (tgt := 83) E.x dX12_setFlags_72 (by decide) rfl ?_ ?_
  · refine rv_iload_n (q := 76) E.x dX12_setFlags_75 rfl rfl ?_
    refine rv_ifz_ne (q := 79) (tgt := 83) E.x dX12_setFlags_76 (by decide) rfl ?_ ?_
    · refine rv_iconst (q := 80) E.x dX12_setFlags_79 rv_ki1 rfl ?_
      refine rv_goto (q := 84) E.x dX12_setFlags_80 (by decide) ?_
      refine rv_wk [true, true, true, true, true, false] ?_
      exact b12_setFlags_84 E M x1 x2 x3 ((rv_i s0) + s1) true
    · refine rv_wk [true, true, true, true, true, false] ?_
      exact b12_setFlags_83 E M x1 x2 x3 ((rv_i s0) + s1)
  · refine rv_wk [true, true, true, true, true, false] ?_
    exact b12_setFlags_83 E M x1 x2 x3 ((rv_i s0) + s1)
set_option maxRecDepth 100000 in
theorem b12_setFlags_49 {p : Program} {l : Launch} {e : Env} {s : State} {m : MethodId} {args : Array Value} {below : List Frame} {meth : Method} {c : Code} {D : va_G} {cI cZ : ClassId} {ad : Nat → Nat} (E : rR_E D cI cZ ad cX12_setFlags 6 (some .int) p s m args meth c)   : ∀ (M : rv_Mem) (x1 : Int32) (x2 : Bool) (x3 : Bool) (s0 : Bool), rv_M (rR_G D cI cZ ad) (rR_A ad) p l e rm12_setFlags s m args below meth c 0 0 (rR_qIW D cI cZ ad below args s) (f12_setFlags_49 M x1 x2 x3 s0) 49 [some (.ref (ad 67)), some (.int x1), some (.int (rv_i x2)), some (.int (rv_i x3)), none, none] [.int (rv_i s0)] M := by
  intro M x1 x2 x3 s0
  unfold f12_setFlags_49
  refine rv_aload_n (q := 50) E.x dX12_setFlags_49 rfl rfl ?_
  refine rR_get (q := 53) E 16 wf12_16 rfl (Nat.le_of_ble_eq_true rfl) rfl dX12_setFlags_50 rfl ?_
  refine rv_iload_n (q := 54) E.x dX12_setFlags_53 rfl rfl ?_
  refine rR_zald (q := 55) (n := 20) E (Nat.le_of_ble_eq_true rfl) rfl rfl dX12_setFlags_54 rfl ?_
  refine rv_ifz_eq (q := 58) (tgt := 62) E.x dX12_setFlags_55 (by decide) rfl ?_ ?_
  · refine rv_iconst (q := 59) E.x dX12_setFlags_58 rv_ki2 rfl ?_
    refine rv_goto (q := 63) E.x dX12_setFlags_59 (by decide) ?_
    refine rv_wk [true, true, true, true, false, false] ?_
    exact b12_setFlags_63 E M x1 x2 x3 s0 2
  · refine rv_iconst (q := 63) E.x dX12_setFlags_62 rv_ki0 rfl ?_
    refine rv_wk [true, true, true, true, false, false] ?_
    exact b12_setFlags_63 E M x1 x2 x3 s0 0
set_option maxRecDepth 100000 in
theorem b12_setFlags_27 {p : Program} {l : Launch} {e : Env} {s : State} {m : MethodId} {args : Array Value} {below : List Frame} {meth : Method} {c : Code} {D : va_G} {cI cZ : ClassId} {ad : Nat → Nat} (E : rR_E D cI cZ ad cX12_setFlags 6 (some .int) p s m args meth c)   : ∀ (M : rv_Mem) (x1 : Int32) (x2 : Bool) (x3 : Bool) (s1 : Int32), rv_M (rR_G D cI cZ ad) (rR_A ad) p l e rm12_setFlags s m args below meth c 0 0 (rR_qIW D cI cZ ad below args s) (f12_setFlags_27 M x1 x2 x3 s1) 27 [some (.ref (ad 67)), some (.int x1), some (.int (rv_i x2)), some (.int (rv_i x3)), none, none] [.int s1, .ref (ad 67)] M := by
  intro M x1 x2 x3 s1
  unfold f12_setFlags_27
  refine rv_b2 (fun r2 M3 e1 => ?_)
  refine rR_calli (q := 30) E (c12_goes E.2.2.1 e1) gX12_goes hX12_goes ⟨rfl, rfl⟩ ⟨Nat.le_of_ble_eq_true rfl, Nat.le_of_ble_eq_true rfl⟩ rfl rfl rfl (Nat.le_of_ble_eq_true rfl) dX12_setFlags_27 rfl ?_
  refine rv_ifz_ne (q := 33) (tgt := 35) E.x dX12_setFlags_30 (by decide) rfl ?_ ?_
  · refine rv_iconst (q := 34) E.x dX12_setFlags_33 rv_ki0 rfl ?_
    exact rR_iret E rfl dX12_setFlags_34
  · refine rv_aload_n (q := 36) E.x dX12_setFlags_35 rfl rfl ?_
    refine rR_get (q := 39) E 15 wf12_15 rfl (Nat.le_of_ble_eq_true rfl) rfl dX12_setFlags_36 rfl ?_
    refine rv_iload_n (q := 40) E.x dX12_setFlags_39 rfl rfl ?_
    refine rR_zald (q := 41) (n := 20) E (Nat.le_of_ble_eq_true rfl) rfl rfl dX12_setFlags_40 rfl ?_
    refine rv_ifz_eq (q := 44) (tgt := 48) E.x dX12_setFlags_41 (by decide) rfl ?_ ?_
    · refine rv_iconst (q := 45) E.x dX12_setFlags_44 rv_ki1 rfl ?_
      refine rv_goto (q := 49) E.x dX12_setFlags_45 (by decide) ?_
      refine rv_wk [true, true, true, true, false, false] ?_
      exact b12_setFlags_49 E M3 x1 x2 x3 true
    · refine rv_iconst (q := 49) E.x dX12_setFlags_48 rv_ki0 rfl ?_
      refine rv_wk [true, true, true, true, false, false] ?_
      exact b12_setFlags_49 E M3 x1 x2 x3 false
set_option maxRecDepth 100000 in
theorem b12_setFlags {p : Program} {l : Launch} {e : Env} {s : State} {m : MethodId} {args : Array Value} {below : List Frame} {meth : Method} {c : Code} {D : va_G} {cI cZ : ClassId} {ad : Nat → Nat} (E : rR_E D cI cZ ad cX12_setFlags 6 (some .int) p s m args meth c) (M : rv_Mem) (a1 : Int32) (a2 : Bool) (a3 : Bool) : rv_M (rR_G D cI cZ ad) (rR_A ad) p l e rm12_setFlags s m args below meth c 0 0  (rR_qIW D cI cZ ad below args s) (f12_setFlags M a1 a2 a3) 0 [some (.ref (ad 67)), some (.int a1), some (.int (rv_i a2)), some (.int (rv_i a3)), none, none] [] M := by
  unfold f12_setFlags
  refine rv_aload_n (q := 1) E.x dX12_setFlags_0 rfl rfl ?_
  refine rv_aload_n (q := 2) E.x dX12_setFlags_1 rfl rfl ?_
  refine rv_iload_n (q := 3) E.x dX12_setFlags_2 rfl rfl ?_
  refine rv_b1 (fun r2 e1 => ?_)
  refine rR_calli (q := 6) E (c12_isChange E.2.2.1 e1) gX12_isChange hX12_isChange ⟨rfl, rfl⟩ ⟨Nat.le_of_ble_eq_true rfl, Nat.le_of_ble_eq_true rfl⟩ rfl rfl rfl (Nat.le_of_ble_eq_true rfl) dX12_setFlags_3 rfl ?_
  refine rv_ifz_ne (q := 9) (tgt := 13) E.x dX12_setFlags_6 (by decide) rfl ?_ ?_
  · refine rv_iconst (q := 10) E.x dX12_setFlags_9 rv_ki1 rfl ?_
    refine rv_goto (q := 27) E.x dX12_setFlags_10 (by decide) ?_
    refine rv_wk [true, true, true, true, false, false] ?_
    exact b12_setFlags_27 E M a1 a2 a3 1
  · refine rv_aload_n (q := 14) E.x dX12_setFlags_13 rfl rfl ?_
    refine rR_get (q := 17) E 13 wf12_13 rfl (Nat.le_of_ble_eq_true rfl) rfl dX12_setFlags_14 rfl ?_
    refine rv_iload_n (q := 18) E.x dX12_setFlags_17 rfl rfl ?_
    refine rR_iald (q := 19) (n := 20) E (Nat.le_of_ble_eq_true rfl) rfl rfl dX12_setFlags_18 rfl ?_
    refine rv_if_ne (q := 22) (tgt := 26) E.x dX12_setFlags_19 (by decide) rfl ?_ ?_
    · refine rv_iconst (q := 23) E.x dX12_setFlags_22 rv_ki0 rfl ?_
      refine rv_goto (q := 27) E.x dX12_setFlags_23 (by decide) ?_
      refine rv_wk [true, true, true, true, false, false] ?_
      exact b12_setFlags_27 E M a1 a2 a3 0
    · refine rv_iconst (q := 27) E.x dX12_setFlags_26 rv_ki2 rfl ?_
      refine rv_wk [true, true, true, true, false, false] ?_
      exact b12_setFlags_27 E M a1 a2 a3 2
theorem c12_setFlags {l : Launch} {D : va_G} {cI cZ : ClassId} {ad : Nat → Nat} (hI : rR_I ad) {M : rv_Mem} {a1 : Int32} {a2 : Bool} {a3 : Bool} {r : Int32} {M1 : rv_Mem} (h : f12_setFlags M a1 a2 a3 = some (r, M1)) : Met l yX12_setFlags (rv_ws yX12_setFlags cX12_setFlags 6 (some .int)) rm12_setFlags (rR_Pc D cI cZ ad [.ref (ad 67), .int a1, .int (rv_i a2), .int (rv_i a3)] M) (rR_QI D cI cZ ad r M1) 0 0 (rR_A ad) := rR_met hI rfl (rv_cat rfl) (Nat.le_of_ble_eq_true rfl) (fun p e s m args below meth c E => ⟨(rR_qIW D cI cZ ad below args s), rfl, b12_setFlags E M a1 a2 a3⟩) h
abbrev rm12_setTopic : Room := { frames := 2, cells := 0, slots := 0, locals := 43 }
set_option maxRecDepth 100000 in
theorem b12_setTopic_27 {p : Program} {l : Launch} {e : Env} {s : State} {m : MethodId} {args : Array Value} {below : List Frame} {meth : Method} {c : Code} {D : va_G} {cI cZ : ClassId} {ad : Nat → Nat} (E : rR_E D cI cZ ad cX12_setTopic 4 (some .int) p s m args meth c)   : ∀ (M : rv_Mem) (x1 : Int32) (x2 : Int32) (s1 : Int32), rv_M (rR_G D cI cZ ad) (rR_A ad) p l e rm12_setTopic s m args below meth c 0 0 (rR_qIW D cI cZ ad below args s) (f12_setTopic_27 M x1 x2 s1) 27 [some (.ref (ad 67)), some (.int x1), some (.int x2), none] [.int s1, .ref (ad 67)] M := by
  intro M x1 x2 s1
  unfold f12_setTopic_27
  refine rv_b2 (fun r2 M3 e1 => ?_)
  refine rR_calli (q := 30) E (c12_goes E.2.2.1 e1) gX12_goes hX12_goes ⟨rfl, rfl⟩ ⟨Nat.le_of_ble_eq_true rfl, Nat.le_of_ble_eq_true rfl⟩ rfl rfl rfl (Nat.le_of_ble_eq_true rfl) dX12_setTopic_27 rfl ?_
  refine rv_ifz_ne (q := 33) (tgt := 35) E.x dX12_setTopic_30 (by decide) rfl ?_ ?_
  · refine rv_iconst (q := 34) E.x dX12_setTopic_33 rv_ki0 rfl ?_
    exact rR_iret E rfl dX12_setTopic_34
  · refine rv_aload_n (q := 36) E.x dX12_setTopic_35 rfl rfl ?_
    refine rR_get (q := 39) E 17 wf12_17 rfl (Nat.le_of_ble_eq_true rfl) rfl dX12_setTopic_36 rfl ?_
    refine rv_iload_n (q := 40) E.x dX12_setTopic_39 rfl rfl ?_
    refine rR_iald (q := 41) (n := 20) E (Nat.le_of_ble_eq_true rfl) rfl rfl dX12_setTopic_40 rfl ?_
    refine rv_istore_n (q := 42) (lv' := [_, _, _, _]) E.x dX12_setTopic_41 (Nat.le_of_ble_eq_true rfl) rfl rfl rfl ?_
    refine rv_aload_n (q := 43) E.x dX12_setTopic_42 rfl rfl ?_
    refine rR_get (q := 46) E 17 wf12_17 rfl (Nat.le_of_ble_eq_true rfl) rfl dX12_setTopic_43 rfl ?_
    refine rv_iload_n (q := 47) E.x dX12_setTopic_46 rfl rfl ?_
    refine rv_iload_n (q := 48) E.x dX12_setTopic_47 rfl rfl ?_
    refine rR_iast (q := 49) (n := 20) E (Nat.le_of_ble_eq_true rfl) rfl rfl dX12_setTopic_48 rfl ?_
    refine rv_ltm (fun M4 => ?_)
    refine rv_iload_n (q := 50) E.x dX12_setTopic_49 rfl rfl ?_
    exact rR_iret E rfl dX12_setTopic_50
set_option maxRecDepth 100000 in
theorem b12_setTopic {p : Program} {l : Launch} {e : Env} {s : State} {m : MethodId} {args : Array Value} {below : List Frame} {meth : Method} {c : Code} {D : va_G} {cI cZ : ClassId} {ad : Nat → Nat} (E : rR_E D cI cZ ad cX12_setTopic 4 (some .int) p s m args meth c) (M : rv_Mem) (a1 : Int32) (a2 : Int32) : rv_M (rR_G D cI cZ ad) (rR_A ad) p l e rm12_setTopic s m args below meth c 0 0  (rR_qIW D cI cZ ad below args s) (f12_setTopic M a1 a2) 0 [some (.ref (ad 67)), some (.int a1), some (.int a2), none] [] M := by
  unfold f12_setTopic
  refine rv_aload_n (q := 1) E.x dX12_setTopic_0 rfl rfl ?_
  refine rv_aload_n (q := 2) E.x dX12_setTopic_1 rfl rfl ?_
  refine rv_iload_n (q := 3) E.x dX12_setTopic_2 rfl rfl ?_
  refine rv_b1 (fun r2 e1 => ?_)
  refine rR_calli (q := 6) E (c12_isChange E.2.2.1 e1) gX12_isChange hX12_isChange ⟨rfl, rfl⟩ ⟨Nat.le_of_ble_eq_true rfl, Nat.le_of_ble_eq_true rfl⟩ rfl rfl rfl (Nat.le_of_ble_eq_true rfl) dX12_setTopic_3 rfl ?_
  refine rv_ifz_ne (q := 9) (tgt := 13) E.x dX12_setTopic_6 (by decide) rfl ?_ ?_
  · refine rv_iconst (q := 10) E.x dX12_setTopic_9 rv_ki1 rfl ?_
    refine rv_goto (q := 27) E.x dX12_setTopic_10 (by decide) ?_
    refine rv_wk [true, true, true, false] ?_
    exact b12_setTopic_27 E M a1 a2 1
  · refine rv_iload_n (q := 14) E.x dX12_setTopic_13 rfl rfl ?_
    refine rv_iconst (q := 15) E.x dX12_setTopic_14 rv_kim1 rfl ?_
    refine rv_iconst (q := 16) E.x dX12_setTopic_15 rv_ki3 rfl ?_
    refine rv_b1 (fun r4 e3 => ?_)
    refine rR_calls (q := 19) E (c12_isIn e3) gX12_isIn hX12_isIn ⟨rfl, rfl⟩ ⟨Nat.le_of_ble_eq_true rfl, Nat.le_of_ble_eq_true rfl⟩ rfl rfl rfl (Nat.le_of_ble_eq_true rfl) dX12_setTopic_16 rfl ?_
    refine rv_ifz_eq (q := 22) (tgt := 26) E.x dX12_setTopic_19 (by decide) rfl ?_ ?_
    · refine rv_iconst (q := 23) E.x dX12_setTopic_22 rv_ki0 rfl ?_
      refine rv_goto (q := 27) E.x dX12_setTopic_23 (by decide) ?_
      refine rv_wk [true, true, true, false] ?_
      exact b12_setTopic_27 E M a1 a2 0
    · refine rv_iconst (q := 27) E.x dX12_setTopic_26 rv_ki2 rfl ?_
      refine rv_wk [true, true, true, false] ?_
      exact b12_setTopic_27 E M a1 a2 2
theorem c12_setTopic {l : Launch} {D : va_G} {cI cZ : ClassId} {ad : Nat → Nat} (hI : rR_I ad) {M : rv_Mem} {a1 : Int32} {a2 : Int32} {r : Int32} {M1 : rv_Mem} (h : f12_setTopic M a1 a2 = some (r, M1)) : Met l yX12_setTopic (rv_ws yX12_setTopic cX12_setTopic 4 (some .int)) rm12_setTopic (rR_Pc D cI cZ ad [.ref (ad 67), .int a1, .int a2] M) (rR_QI D cI cZ ad r M1) 0 0 (rR_A ad) := rR_met hI rfl (rv_cat rfl) (Nat.le_of_ble_eq_true rfl) (fun p e s m args below meth c E => ⟨(rR_qIW D cI cZ ad below args s), rfl, b12_setTopic E M a1 a2⟩) h
abbrev rm12_changes : Room := { frames := 0, cells := 0, slots := 0, locals := 0 }
set_option maxRecDepth 100000 in
theorem b12_changes {p : Program} {l : Launch} {e : Env} {s : State} {m : MethodId} {args : Array Value} {below : List Frame} {meth : Method} {c : Code} {D : va_G} {cI cZ : ClassId} {ad : Nat → Nat} (E : rR_E D cI cZ ad cX12_changes 1 (some .int) p s m args meth c) (M : rv_Mem)  : rv_M (rR_G D cI cZ ad) (rR_A ad) p l e rm12_changes s m args below meth c 0 0  (rR_qIW D cI cZ ad below args s) (f12_changes M) 0 [some (.ref (ad 67))] [] M := by
  unfold f12_changes
  refine rv_aload_n (q := 1) E.x dX12_changes_0 rfl rfl ?_
  refine rv_iconst (q := 2) E.x dX12_changes_1 rv_ki0 rfl ?_
  refine rR_put (q := 5) E 66 wf12_66 rfl (Nat.le_of_ble_eq_true rfl) rfl rfl rfl dX12_changes_2 rfl ?_
  refine rv_ltm (fun M1 => ?_)
  refine rv_aload_n (q := 6) E.x dX12_changes_5 rfl rfl ?_
  refine rR_get (q := 9) E 11 wf12_11 rfl (Nat.le_of_ble_eq_true rfl) rfl dX12_changes_6 rfl ?_
  exact rR_iret E rfl dX12_changes_9
theorem c12_changes {l : Launch} {D : va_G} {cI cZ : ClassId} {ad : Nat → Nat} (hI : rR_I ad) {M : rv_Mem} {r : Int32} {M1 : rv_Mem} (h : f12_changes M = some (r, M1)) : Met l yX12_changes (rv_ws yX12_changes cX12_changes 1 (some .int)) rm12_changes (rR_Pc D cI cZ ad [.ref (ad 67)] M) (rR_QI D cI cZ ad r M1) 0 0 (rR_A ad) := rR_met hI rfl (rv_cat rfl) (Nat.le_of_ble_eq_true rfl) (fun p e s m args below meth c E => ⟨(rR_qIW D cI cZ ad below args s), rfl, b12_changes E M ⟩) h
abbrev rm12_asks : Room := { frames := 2, cells := 0, slots := 0, locals := 43 }
set_option maxRecDepth 100000 in
theorem b12_asks_14 {p : Program} {l : Launch} {e : Env} {s : State} {m : MethodId} {args : Array Value} {below : List Frame} {meth : Method} {c : Code} {D : va_G} {cI cZ : ClassId} {ad : Nat → Nat} (E : rR_E D cI cZ ad cX12_asks 2 (some .boolean) p s m args meth c)   : ∀ (M : rv_Mem) (s1 : Bool), rv_M (rR_G D cI cZ ad) (rR_A ad) p l e rm12_asks s m args below meth c 0 0 (rR_qZW D cI cZ ad below args s) (f12_asks_14 M s1) 14 [some (.ref (ad 67)), none] [.int (rv_i s1), .ref (ad 67)] M := by
  intro M s1
  unfold f12_asks_14
  refine rv_b2 (fun r2 M3 e1 => ?_)
  refine rR_calli (q := 17) E (c12_goes E.2.2.1 e1) gX12_goes hX12_goes ⟨rfl, rfl⟩ ⟨Nat.le_of_ble_eq_true rfl, Nat.le_of_ble_eq_true rfl⟩ rfl rfl rfl (Nat.le_of_ble_eq_true rfl) dX12_asks_14 rfl ?_
  exact rR_zret E r2 rfl dX12_asks_17
set_option maxRecDepth 100000 in
theorem b12_asks {p : Program} {l : Launch} {e : Env} {s : State} {m : MethodId} {args : Array Value} {below : List Frame} {meth : Method} {c : Code} {D : va_G} {cI cZ : ClassId} {ad : Nat → Nat} (E : rR_E D cI cZ ad cX12_asks 2 (some .boolean) p s m args meth c) (M : rv_Mem) (a1 : Int32) : rv_M (rR_G D cI cZ ad) (rR_A ad) p l e rm12_asks s m args below meth c 0 0  (rR_qZW D cI cZ ad below args s) (f12_asks M a1) 0 [some (.ref (ad 67)), some (.int a1)] [] M := by
  unfold f12_asks
  refine rv_aload_n (q := 1) E.x dX12_asks_0 rfl rfl ?_
  refine rv_aload_n (q := 2) E.x dX12_asks_1 rfl rfl ?_
  refine rv_iload_n (q := 3) E.x dX12_asks_2 rfl rfl ?_
  refine rv_b1 (fun r2 e1 => ?_)
  refine rR_calli (q := 6) E (c12_isChange E.2.2.1 e1) gX12_isChange hX12_isChange ⟨rfl, rfl⟩ ⟨Nat.le_of_ble_eq_true rfl, Nat.le_of_ble_eq_true rfl⟩ rfl rfl rfl (Nat.le_of_ble_eq_true rfl) dX12_asks_3 rfl ?_
  refine rv_ifz_eq (q := 9) (tgt := 13) E.x dX12_asks_6 (by decide) rfl ?_ ?_
  · refine rv_iconst (q := 10) E.x dX12_asks_9 rv_ki0 rfl ?_
    refine rv_goto (q := 14) E.x dX12_asks_10 (by decide) ?_
    refine rv_wk [true, false] ?_
    exact b12_asks_14 E M false
  · refine rv_iconst (q := 14) E.x dX12_asks_13 rv_ki1 rfl ?_
    refine rv_wk [true, false] ?_
    exact b12_asks_14 E M true
theorem c12_asks {l : Launch} {D : va_G} {cI cZ : ClassId} {ad : Nat → Nat} (hI : rR_I ad) {M : rv_Mem} {a1 : Int32} {r : Bool} {M1 : rv_Mem} (h : f12_asks M a1 = some (r, M1)) : Met l yX12_asks (rv_ws yX12_asks cX12_asks 2 (some .boolean)) rm12_asks (rR_Pc D cI cZ ad [.ref (ad 67), .int a1] M) (rR_QI D cI cZ ad (rv_i r) M1) 0 0 (rR_A ad) := rR_met hI rfl (rv_cat rfl) (Nat.le_of_ble_eq_true rfl) (fun p e s m args below meth c E => ⟨(rR_qZW D cI cZ ad below args s), rfl, b12_asks E M a1⟩) h
abbrev rm12_stateOf : Room := { frames := 3, cells := 0, slots := 0, locals := 64 }
set_option maxRecDepth 100000 in
theorem b12_stateOf {p : Program} {l : Launch} {e : Env} {s : State} {m : MethodId} {args : Array Value} {below : List Frame} {meth : Method} {c : Code} {D : va_G} {cI cZ : ClassId} {ad : Nat → Nat} (E : rR_E D cI cZ ad cX12_stateOf 2 (some .int) p s m args meth c) (M : rv_Mem) (a1 : Int32) : rv_M (rR_G D cI cZ ad) (rR_A ad) p l e rm12_stateOf s m args below meth c 0 0  (rR_qIW D cI cZ ad below args s) (f12_stateOf M a1) 0 [some (.ref (ad 67)), some (.int a1)] [] M := by
  unfold f12_stateOf
  refine rv_aload_n (q := 1) E.x dX12_stateOf_0 rfl rfl ?_
  refine rv_iload_n (q := 2) E.x dX12_stateOf_1 rfl rfl ?_
  refine rv_b2 (fun r2 M3 e1 => ?_)
  refine rR_calli (q := 5) E (c12_asks E.2.2.1 e1) gX12_asks hX12_asks ⟨rfl, rfl⟩ ⟨Nat.le_of_ble_eq_true rfl, Nat.le_of_ble_eq_true rfl⟩ rfl rfl rfl (Nat.le_of_ble_eq_true rfl) dX12_stateOf_2 rfl ?_
  refine rv_ifz_eq (q := 8) (tgt := 17) E.x dX12_stateOf_5 (by decide) rfl ?_ ?_
  · refine rv_aload_n (q := 9) E.x dX12_stateOf_8 rfl rfl ?_
    refine rR_get (q := 12) E 13 wf12_13 rfl (Nat.le_of_ble_eq_true rfl) rfl dX12_stateOf_9 rfl ?_
    refine rv_iload_n (q := 13) E.x dX12_stateOf_12 rfl rfl ?_
    refine rR_iald (q := 14) (n := 20) E (Nat.le_of_ble_eq_true rfl) rfl rfl dX12_stateOf_13 rfl ?_
    refine rv_goto (q := 18) E.x dX12_stateOf_14 (by decide) ?_
    exact rR_iret E rfl dX12_stateOf_18
  · refine rv_iconst (q := 18) E.x dX12_stateOf_17 rv_ki0 rfl ?_
    exact rR_iret E rfl dX12_stateOf_18
theorem c12_stateOf {l : Launch} {D : va_G} {cI cZ : ClassId} {ad : Nat → Nat} (hI : rR_I ad) {M : rv_Mem} {a1 : Int32} {r : Int32} {M1 : rv_Mem} (h : f12_stateOf M a1 = some (r, M1)) : Met l yX12_stateOf (rv_ws yX12_stateOf cX12_stateOf 2 (some .int)) rm12_stateOf (rR_Pc D cI cZ ad [.ref (ad 67), .int a1] M) (rR_QI D cI cZ ad r M1) 0 0 (rR_A ad) := rR_met hI rfl (rv_cat rfl) (Nat.le_of_ble_eq_true rfl) (fun p e s m args below meth c E => ⟨(rR_qIW D cI cZ ad below args s), rfl, b12_stateOf E M a1⟩) h
abbrev rm12_sets : Room := { frames := 3, cells := 0, slots := 0, locals := 64 }
set_option maxRecDepth 100000 in
theorem b12_sets {p : Program} {l : Launch} {e : Env} {s : State} {m : MethodId} {args : Array Value} {below : List Frame} {meth : Method} {c : Code} {D : va_G} {cI cZ : ClassId} {ad : Nat → Nat} (E : rR_E D cI cZ ad cX12_sets 2 (some .int) p s m args meth c) (M : rv_Mem) (a1 : Int32) : rv_M (rR_G D cI cZ ad) (rR_A ad) p l e rm12_sets s m args below meth c 0 0  (rR_qIW D cI cZ ad below args s) (f12_sets M a1) 0 [some (.ref (ad 67)), some (.int a1)] [] M := by
  unfold f12_sets
  refine rv_aload_n (q := 1) E.x dX12_sets_0 rfl rfl ?_
  refine rv_iload_n (q := 2) E.x dX12_sets_1 rfl rfl ?_
  refine rv_b2 (fun r2 M3 e1 => ?_)
  refine rR_calli (q := 5) E (c12_asks E.2.2.1 e1) gX12_asks hX12_asks ⟨rfl, rfl⟩ ⟨Nat.le_of_ble_eq_true rfl, Nat.le_of_ble_eq_true rfl⟩ rfl rfl rfl (Nat.le_of_ble_eq_true rfl) dX12_sets_2 rfl ?_
  refine rv_ifz_eq (q := 8) (tgt := 17) E.x dX12_sets_5 (by decide) rfl ?_ ?_
  · refine rv_aload_n (q := 9) E.x dX12_sets_8 rfl rfl ?_
    refine rR_get (q := 12) E 14 wf12_14 rfl (Nat.le_of_ble_eq_true rfl) rfl dX12_sets_9 rfl ?_
    refine rv_iload_n (q := 13) E.x dX12_sets_12 rfl rfl ?_
    refine rR_iald (q := 14) (n := 20) E (Nat.le_of_ble_eq_true rfl) rfl rfl dX12_sets_13 rfl ?_
    refine rv_goto (q := 18) E.x dX12_sets_14 (by decide) ?_
    exact rR_iret E rfl dX12_sets_18
  · refine rv_iconst (q := 18) E.x dX12_sets_17 rv_ki0 rfl ?_
    exact rR_iret E rfl dX12_sets_18
theorem c12_sets {l : Launch} {D : va_G} {cI cZ : ClassId} {ad : Nat → Nat} (hI : rR_I ad) {M : rv_Mem} {a1 : Int32} {r : Int32} {M1 : rv_Mem} (h : f12_sets M a1 = some (r, M1)) : Met l yX12_sets (rv_ws yX12_sets cX12_sets 2 (some .int)) rm12_sets (rR_Pc D cI cZ ad [.ref (ad 67), .int a1] M) (rR_QI D cI cZ ad r M1) 0 0 (rR_A ad) := rR_met hI rfl (rv_cat rfl) (Nat.le_of_ble_eq_true rfl) (fun p e s m args below meth c E => ⟨(rR_qIW D cI cZ ad below args s), rfl, b12_sets E M a1⟩) h
abbrev rm12_commitOf : Room := { frames := 3, cells := 0, slots := 0, locals := 65 }
set_option maxRecDepth 100000 in
theorem b12_commitOf_15 {p : Program} {l : Launch} {e : Env} {s : State} {m : MethodId} {args : Array Value} {below : List Frame} {meth : Method} {c : Code} {D : va_G} {cI cZ : ClassId} {ad : Nat → Nat} (E : rR_E D cI cZ ad cX12_commitOf 3 (some .int) p s m args meth c)   : ∀ (M : rv_Mem) (x1 : Int32) (x2 : Int32) (s1 : Bool), rv_M (rR_G D cI cZ ad) (rR_A ad) p l e rm12_commitOf s m args below meth c 0 0 (rR_qIW D cI cZ ad below args s) (f12_commitOf_15 M x1 x2 s1) 15 [some (.ref (ad 67)), some (.int x1), some (.int x2)] [.int (rv_i s1), .ref (ad 67)] M := by
  intro M x1 x2 s1
  unfold f12_commitOf_15
  refine rv_b2 (fun r2 M3 e1 => ?_)
  refine rR_calli (q := 18) E (c12_goes E.2.2.1 e1) gX12_goes hX12_goes ⟨rfl, rfl⟩ ⟨Nat.le_of_ble_eq_true rfl, Nat.le_of_ble_eq_true rfl⟩ rfl rfl rfl (Nat.le_of_ble_eq_true rfl) dX12_commitOf_15 rfl ?_
  refine rv_ifz_eq (q := 21) (tgt := 30) E.x dX12_commitOf_18 (by decide) rfl ?_ ?_
  · refine rv_aload_n (q := 22) E.x dX12_commitOf_21 rfl rfl ?_
    refine rv_iload_n (q := 23) E.x dX12_commitOf_22 rfl rfl ?_
    refine rv_iload_n (q := 24) E.x dX12_commitOf_23 rfl rfl ?_
    refine rv_b1 (fun r5 e4 => ?_)
    refine rR_calli (q := 27) E (c12_commitAt E.2.2.1 e4) gX12_commitAt hX12_commitAt ⟨rfl, rfl⟩ ⟨Nat.le_of_ble_eq_true rfl, Nat.le_of_ble_eq_true rfl⟩ rfl rfl rfl (Nat.le_of_ble_eq_true rfl) dX12_commitOf_24 rfl ?_
    refine rv_goto (q := 31) E.x dX12_commitOf_27 (by decide) ?_
    exact rR_iret E rfl dX12_commitOf_31
  · refine rv_iconst (q := 31) E.x dX12_commitOf_30 rv_ki0 rfl ?_
    exact rR_iret E rfl dX12_commitOf_31
set_option maxRecDepth 100000 in
theorem b12_commitOf {p : Program} {l : Launch} {e : Env} {s : State} {m : MethodId} {args : Array Value} {below : List Frame} {meth : Method} {c : Code} {D : va_G} {cI cZ : ClassId} {ad : Nat → Nat} (E : rR_E D cI cZ ad cX12_commitOf 3 (some .int) p s m args meth c) (M : rv_Mem) (a1 : Int32) (a2 : Int32) : rv_M (rR_G D cI cZ ad) (rR_A ad) p l e rm12_commitOf s m args below meth c 0 0  (rR_qIW D cI cZ ad below args s) (f12_commitOf M a1 a2) 0 [some (.ref (ad 67)), some (.int a1), some (.int a2)] [] M := by
  unfold f12_commitOf
  refine rv_aload_n (q := 1) E.x dX12_commitOf_0 rfl rfl ?_
  refine rv_aload_n (q := 2) E.x dX12_commitOf_1 rfl rfl ?_
  refine rv_iload_n (q := 3) E.x dX12_commitOf_2 rfl rfl ?_
  refine rv_iload_n (q := 4) E.x dX12_commitOf_3 rfl rfl ?_
  refine rv_b1 (fun r2 e1 => ?_)
  refine rR_calli (q := 7) E (c12_isSet E.2.2.1 e1) gX12_isSet hX12_isSet ⟨rfl, rfl⟩ ⟨Nat.le_of_ble_eq_true rfl, Nat.le_of_ble_eq_true rfl⟩ rfl rfl rfl (Nat.le_of_ble_eq_true rfl) dX12_commitOf_4 rfl ?_
  refine rv_ifz_eq (q := 10) (tgt := 14) E.x dX12_commitOf_7 (by decide) rfl ?_ ?_
  · refine rv_iconst (q := 11) E.x dX12_commitOf_10 rv_ki0 rfl ?_
    refine rv_goto (q := 15) E.x dX12_commitOf_11 (by decide) ?_
    refine rv_wk [true, true, true] ?_
    exact b12_commitOf_15 E M a1 a2 false
  · refine rv_iconst (q := 15) E.x dX12_commitOf_14 rv_ki1 rfl ?_
    refine rv_wk [true, true, true] ?_
    exact b12_commitOf_15 E M a1 a2 true
theorem c12_commitOf {l : Launch} {D : va_G} {cI cZ : ClassId} {ad : Nat → Nat} (hI : rR_I ad) {M : rv_Mem} {a1 : Int32} {a2 : Int32} {r : Int32} {M1 : rv_Mem} (h : f12_commitOf M a1 a2 = some (r, M1)) : Met l yX12_commitOf (rv_ws yX12_commitOf cX12_commitOf 3 (some .int)) rm12_commitOf (rR_Pc D cI cZ ad [.ref (ad 67), .int a1, .int a2] M) (rR_QI D cI cZ ad r M1) 0 0 (rR_A ad) := rR_met hI rfl (rv_cat rfl) (Nat.le_of_ble_eq_true rfl) (fun p e s m args below meth c E => ⟨(rR_qIW D cI cZ ad below args s), rfl, b12_commitOf E M a1 a2⟩) h
abbrev rm12_kindOf : Room := { frames := 6, cells := 0, slots := 0, locals := 161 }
set_option maxRecDepth 100000 in
theorem b12_kindOf_15 {p : Program} {l : Launch} {e : Env} {s : State} {m : MethodId} {args : Array Value} {below : List Frame} {meth : Method} {c : Code} {D : va_G} {cI cZ : ClassId} {ad : Nat → Nat} (E : rR_E D cI cZ ad cX12_kindOf 3 (some .int) p s m args meth c)   : ∀ (M : rv_Mem) (x1 : Int32) (x2 : Int32) (s1 : Bool), rv_M (rR_G D cI cZ ad) (rR_A ad) p l e rm12_kindOf s m args below meth c 0 0 (rR_qIW D cI cZ ad below args s) (f12_kindOf_15 M x1 x2 s1) 15 [some (.ref (ad 67)), some (.int x1), some (.int x2)] [.int (rv_i s1), .ref (ad 67)] M := by
  intro M x1 x2 s1
  unfold f12_kindOf_15
  refine rv_b2 (fun r2 M3 e1 => ?_)
  refine rR_calli (q := 18) E (c12_goes E.2.2.1 e1) gX12_goes hX12_goes ⟨rfl, rfl⟩ ⟨Nat.le_of_ble_eq_true rfl, Nat.le_of_ble_eq_true rfl⟩ rfl rfl rfl (Nat.le_of_ble_eq_true rfl) dX12_kindOf_15 rfl ?_
  refine rv_ifz_eq (q := 21) (tgt := 34) E.x dX12_kindOf_18 (by decide) rfl ?_ ?_
  · refine rv_aload_n (q := 22) E.x dX12_kindOf_21 rfl rfl ?_
    refine rv_aload_n (q := 23) E.x dX12_kindOf_22 rfl rfl ?_
    refine rv_iload_n (q := 24) E.x dX12_kindOf_23 rfl rfl ?_
    refine rv_iload_n (q := 25) E.x dX12_kindOf_24 rfl rfl ?_
    refine rv_b1 (fun r5 e4 => ?_)
    refine rR_calli (q := 28) E (c12_commitAt E.2.2.1 e4) gX12_commitAt hX12_commitAt ⟨rfl, rfl⟩ ⟨Nat.le_of_ble_eq_true rfl, Nat.le_of_ble_eq_true rfl⟩ rfl rfl rfl (Nat.le_of_ble_eq_true rfl) dX12_kindOf_25 rfl ?_
    refine rv_b2 (fun r7 M8 e6 => ?_)
    refine rR_calli (q := 31) E (c12_kindAt E.2.2.1 e6) gX12_kindAt hX12_kindAt ⟨rfl, rfl⟩ ⟨Nat.le_of_ble_eq_true rfl, Nat.le_of_ble_eq_true rfl⟩ rfl rfl rfl (Nat.le_of_ble_eq_true rfl) dX12_kindOf_28 rfl ?_
    refine rv_goto (q := 35) E.x dX12_kindOf_31 (by decide) ?_
    exact rR_iret E rfl dX12_kindOf_35
  · refine rv_iconst (q := 35) E.x dX12_kindOf_34 rv_ki0 rfl ?_
    exact rR_iret E rfl dX12_kindOf_35
set_option maxRecDepth 100000 in
theorem b12_kindOf {p : Program} {l : Launch} {e : Env} {s : State} {m : MethodId} {args : Array Value} {below : List Frame} {meth : Method} {c : Code} {D : va_G} {cI cZ : ClassId} {ad : Nat → Nat} (E : rR_E D cI cZ ad cX12_kindOf 3 (some .int) p s m args meth c) (M : rv_Mem) (a1 : Int32) (a2 : Int32) : rv_M (rR_G D cI cZ ad) (rR_A ad) p l e rm12_kindOf s m args below meth c 0 0  (rR_qIW D cI cZ ad below args s) (f12_kindOf M a1 a2) 0 [some (.ref (ad 67)), some (.int a1), some (.int a2)] [] M := by
  unfold f12_kindOf
  refine rv_aload_n (q := 1) E.x dX12_kindOf_0 rfl rfl ?_
  refine rv_aload_n (q := 2) E.x dX12_kindOf_1 rfl rfl ?_
  refine rv_iload_n (q := 3) E.x dX12_kindOf_2 rfl rfl ?_
  refine rv_iload_n (q := 4) E.x dX12_kindOf_3 rfl rfl ?_
  refine rv_b1 (fun r2 e1 => ?_)
  refine rR_calli (q := 7) E (c12_isSet E.2.2.1 e1) gX12_isSet hX12_isSet ⟨rfl, rfl⟩ ⟨Nat.le_of_ble_eq_true rfl, Nat.le_of_ble_eq_true rfl⟩ rfl rfl rfl (Nat.le_of_ble_eq_true rfl) dX12_kindOf_4 rfl ?_
  refine rv_ifz_eq (q := 10) (tgt := 14) E.x dX12_kindOf_7 (by decide) rfl ?_ ?_
  · refine rv_iconst (q := 11) E.x dX12_kindOf_10 rv_ki0 rfl ?_
    refine rv_goto (q := 15) E.x dX12_kindOf_11 (by decide) ?_
    refine rv_wk [true, true, true] ?_
    exact b12_kindOf_15 E M a1 a2 false
  · refine rv_iconst (q := 15) E.x dX12_kindOf_14 rv_ki1 rfl ?_
    refine rv_wk [true, true, true] ?_
    exact b12_kindOf_15 E M a1 a2 true
theorem c12_kindOf {l : Launch} {D : va_G} {cI cZ : ClassId} {ad : Nat → Nat} (hI : rR_I ad) {M : rv_Mem} {a1 : Int32} {a2 : Int32} {r : Int32} {M1 : rv_Mem} (h : f12_kindOf M a1 a2 = some (r, M1)) : Met l yX12_kindOf (rv_ws yX12_kindOf cX12_kindOf 3 (some .int)) rm12_kindOf (rR_Pc D cI cZ ad [.ref (ad 67), .int a1, .int a2] M) (rR_QI D cI cZ ad r M1) 0 0 (rR_A ad) := rR_met hI rfl (rv_cat rfl) (Nat.le_of_ble_eq_true rfl) (fun p e s m args below meth c E => ⟨(rR_qIW D cI cZ ad below args s), rfl, b12_kindOf E M a1 a2⟩) h
abbrev rm12_parentOf : Room := { frames := 3, cells := 0, slots := 0, locals := 67 }
set_option maxRecDepth 100000 in
theorem b12_parentOf_44 {p : Program} {l : Launch} {e : Env} {s : State} {m : MethodId} {args : Array Value} {below : List Frame} {meth : Method} {c : Code} {D : va_G} {cI cZ : ClassId} {ad : Nat → Nat} (E : rR_E D cI cZ ad cX12_parentOf 2 (some .int) p s m args meth c)   : ∀ (M : rv_Mem) (s0 : Int32) (s1 : Bool), rv_M (rR_G D cI cZ ad) (rR_A ad) p l e rm12_parentOf s m args below meth c 0 0 (rR_qIW D cI cZ ad below args s) (f12_parentOf_44 M s0 s1) 44 [some (.ref (ad 67)), none] [.int (rv_i s1), .int s0] M := by
  intro M s0 s1
  unfold f12_parentOf_44
  refine rv_iadd (q := 45) E.x dX12_parentOf_44 rfl ?_
  exact rR_iret E rfl dX12_parentOf_45
set_option maxRecDepth 100000 in
theorem b12_parentOf {p : Program} {l : Launch} {e : Env} {s : State} {m : MethodId} {args : Array Value} {below : List Frame} {meth : Method} {c : Code} {D : va_G} {cI cZ : ClassId} {ad : Nat → Nat} (E : rR_E D cI cZ ad cX12_parentOf 2 (some .int) p s m args meth c) (M : rv_Mem) (a1 : Int32) : rv_M (rR_G D cI cZ ad) (rR_A ad) p l e rm12_parentOf s m args below meth c 0 0  (rR_qIW D cI cZ ad below args s) (f12_parentOf M a1) 0 [some (.ref (ad 67)), some (.int a1)] [] M := by
  unfold f12_parentOf
  refine rv_aload_n (q := 1) E.x dX12_parentOf_0 rfl rfl ?_
  refine rv_iload_n (q := 2) E.x dX12_parentOf_1 rfl rfl ?_
  refine rv_b2 (fun r2 M3 e1 => ?_)
  refine rR_calli (q := 5) E (c12_asks E.2.2.1 e1) gX12_asks hX12_asks ⟨rfl, rfl⟩ ⟨Nat.le_of_ble_eq_true rfl, Nat.le_of_ble_eq_true rfl⟩ rfl rfl rfl (Nat.le_of_ble_eq_true rfl) dX12_parentOf_2 rfl ?_
  refine rv_ifz_ne (q := 8) (tgt := 10) E.x dX12_parentOf_5 (by decide) rfl ?_ ?_
  · refine rv_iconst (q := 9) E.x dX12_parentOf_8 rv_ki0 rfl ?_
    exact rR_iret E rfl dX12_parentOf_9
  · refine rv_aload_n (q := 11) E.x dX12_parentOf_10 rfl rfl ?_
    refine rv_iload_n (q := 12) E.x dX12_parentOf_11 rfl rfl ?_
    refine rv_b1 (fun r5 e4 => ?_)
    refine rR_calli (q := 15) E (c12_parent E.2.2.1 e4) gX12_parent hX12_parent ⟨rfl, rfl⟩ ⟨Nat.le_of_ble_eq_true rfl, Nat.le_of_ble_eq_true rfl⟩ rfl rfl rfl (Nat.le_of_ble_eq_true rfl) dX12_parentOf_12 rfl ?_
    refine rv_iconst (q := 16) E.x dX12_parentOf_15 rv_kim1 rfl ?_
    refine rv_icmp_ne (q := 19) (tgt := 23) E.x dX12_parentOf_16 (by decide) rfl ?_ ?_
    · refine rv_iconst (q := 20) E.x dX12_parentOf_19 rv_kim1 rfl ?_
      refine rv_goto (q := 45) E.x dX12_parentOf_20 (by decide) ?_
      exact rR_iret E rfl dX12_parentOf_45
    · refine rv_bipush (q := 25) E.x dX12_parentOf_23 rv_kb10 rfl ?_
      refine rv_aload_n (q := 26) E.x dX12_parentOf_25 rfl rfl ?_
      refine rv_iload_n (q := 27) E.x dX12_parentOf_26 rfl rfl ?_
      refine rv_b1 (fun r7 e6 => ?_)
      refine rR_calli (q := 30) E (c12_parent E.2.2.1 e6) gX12_parent hX12_parent ⟨rfl, rfl⟩ ⟨Nat.le_of_ble_eq_true rfl, Nat.le_of_ble_eq_true rfl⟩ rfl rfl rfl (Nat.le_of_ble_eq_true rfl) dX12_parentOf_27 rfl ?_
      refine rv_imul (q := 31) E.x dX12_parentOf_30 rfl ?_
      refine rv_aload_n (q := 32) E.x dX12_parentOf_31 rfl rfl ?_
      refine rv_iload_n (q := 33) E.x dX12_parentOf_32 rfl rfl ?_
      refine rv_b1 (fun r9 e8 => ?_)
      refine rR_calli (q := 36) E (c12_isOutdated E.2.2.1 e8) gX12_isOutdated hX12_isOutdated ⟨rfl, rfl⟩ ⟨Nat.le_of_ble_eq_true rfl, Nat.le_of_ble_eq_true rfl⟩ rfl rfl rfl (Nat.le_of_ble_eq_true rfl) dX12_parentOf_33 rfl ?_
      refine rv_ifz_eq (q := 39) (tgt := 43) E.x dX12_parentOf_36 (by decide) rfl ?_ ?_
      · refine rv_iconst (q := 40) E.x dX12_parentOf_39 rv_ki1 rfl ?_
        refine rv_goto (q := 44) E.x dX12_parentOf_40 (by decide) ?_
        refine rv_wk [true, false] ?_
        exact b12_parentOf_44 E M3 (10 * r7) true
      · refine rv_iconst (q := 44) E.x dX12_parentOf_43 rv_ki0 rfl ?_
        refine rv_wk [true, false] ?_
        exact b12_parentOf_44 E M3 (10 * r7) false
theorem c12_parentOf {l : Launch} {D : va_G} {cI cZ : ClassId} {ad : Nat → Nat} (hI : rR_I ad) {M : rv_Mem} {a1 : Int32} {r : Int32} {M1 : rv_Mem} (h : f12_parentOf M a1 = some (r, M1)) : Met l yX12_parentOf (rv_ws yX12_parentOf cX12_parentOf 2 (some .int)) rm12_parentOf (rR_Pc D cI cZ ad [.ref (ad 67), .int a1] M) (rR_QI D cI cZ ad r M1) 0 0 (rR_A ad) := rR_met hI rfl (rv_cat rfl) (Nat.le_of_ble_eq_true rfl) (fun p e s m args below meth c E => ⟨(rR_qIW D cI cZ ad below args s), rfl, b12_parentOf E M a1⟩) h
abbrev rm12_asksDifference : Room := { frames := 5, cells := 0, slots := 0, locals := 139 }
set_option maxRecDepth 100000 in
theorem b12_asksDifference_37 {p : Program} {l : Launch} {e : Env} {s : State} {m : MethodId} {args : Array Value} {below : List Frame} {meth : Method} {c : Code} {D : va_G} {cI cZ : ClassId} {ad : Nat → Nat} (E : rR_E D cI cZ ad cX12_asksDifference 7 (some .boolean) p s m args meth c)   : ∀ (M : rv_Mem) (x1 : Int32) (x2 : Int32) (x3 : Int32) (x4 : Int32) (x6 : Bool) (s1 : Bool), rv_M (rR_G D cI cZ ad) (rR_A ad) p l e rm12_asksDifference s m args below meth c 0 0 (rR_qZW D cI cZ ad below args s) (f12_asksDifference_37 M x1 x2 x3 x4 x6 s1) 37 [some (.ref (ad 67)), some (.int x1), some (.int x2), some (.int x3), some (.int x4), none, some (.int (rv_i x6))] [.int (rv_i s1), .ref (ad 67)] M := by
  intro M x1 x2 x3 x4 x6 s1
  unfold f12_asksDifference_37
  refine rv_b2 (fun r2 M3 e1 => ?_)
  refine rR_calli (q := 40) E (c12_goes E.2.2.1 e1) gX12_goes hX12_goes ⟨rfl, rfl⟩ ⟨Nat.le_of_ble_eq_true rfl, Nat.le_of_ble_eq_true rfl⟩ rfl rfl rfl (Nat.le_of_ble_eq_true rfl) dX12_asksDifference_37 rfl ?_
  refine rv_ifz_ne (q := 43) (tgt := 45) E.x dX12_asksDifference_40 (by decide) rfl ?_ ?_
  · refine rv_iconst (q := 44) E.x dX12_asksDifference_43 rv_ki0 rfl ?_
    exact rR_zret E false rfl dX12_asksDifference_44
  · refine rv_aload_n (q := 46) E.x dX12_asksDifference_45 rfl rfl ?_
    refine rv_iload (q := 48) E.x dX12_asksDifference_46 rfl rfl ?_
    refine rR_putz (q := 51) E 64 x6 wf12_64 rfl (Nat.le_of_ble_eq_true rfl) rfl rfl rfl dX12_asksDifference_48 rfl ?_
    refine rv_ltm (fun M4 => ?_)
    refine rv_aload_n (q := 52) E.x dX12_asksDifference_51 rfl rfl ?_
    refine rv_aload_n (q := 53) E.x dX12_asksDifference_52 rfl rfl ?_
    refine rv_iload_n (q := 54) E.x dX12_asksDifference_53 rfl rfl ?_
    refine rv_iload_n (q := 55) E.x dX12_asksDifference_54 rfl rfl ?_
    refine rv_b1 (fun r6 e5 => ?_)
    refine rR_calli (q := 58) E (c12_commitAt E.2.2.1 e5) gX12_commitAt hX12_commitAt ⟨rfl, rfl⟩ ⟨Nat.le_of_ble_eq_true rfl, Nat.le_of_ble_eq_true rfl⟩ rfl rfl rfl (Nat.le_of_ble_eq_true rfl) dX12_asksDifference_55 rfl ?_
    refine rv_aload_n (q := 59) E.x dX12_asksDifference_58 rfl rfl ?_
    refine rv_iload_n (q := 60) E.x dX12_asksDifference_59 rfl rfl ?_
    refine rv_iload_n (q := 61) E.x dX12_asksDifference_60 rfl rfl ?_
    refine rv_b1 (fun r8 e7 => ?_)
    refine rR_calli (q := 64) E (c12_commitAt E.2.2.1 e7) gX12_commitAt hX12_commitAt ⟨rfl, rfl⟩ ⟨Nat.le_of_ble_eq_true rfl, Nat.le_of_ble_eq_true rfl⟩ rfl rfl rfl (Nat.le_of_ble_eq_true rfl) dX12_asksDifference_61 rfl ?_
    refine rv_iload (q := 66) E.x dX12_asksDifference_64 rfl rfl ?_
    refine rv_b1 (fun M10 e9 => ?_)
    refine rR_callv (q := 69) E (c12_laysDifference E.2.2.1 e9) gX12_laysDifference hX12_laysDifference ⟨rfl, rfl⟩ ⟨Nat.le_of_ble_eq_true rfl, Nat.le_of_ble_eq_true rfl⟩ rfl rfl rfl (Nat.le_of_ble_eq_true rfl) dX12_asksDifference_66 rfl ?_
    refine rv_aload_n (q := 70) E.x dX12_asksDifference_69 rfl rfl ?_
    refine rv_iconst (q := 71) E.x dX12_asksDifference_70 rv_ki0 rfl ?_
    refine rR_putz (q := 74) E 64 false wf12_64 rfl (Nat.le_of_ble_eq_true rfl) rfl rfl rfl dX12_asksDifference_71 rfl ?_
    refine rv_ltm (fun M11 => ?_)
    refine rv_iconst (q := 75) E.x dX12_asksDifference_74 rv_ki1 rfl ?_
    exact rR_zret E true rfl dX12_asksDifference_75
set_option maxRecDepth 100000 in
theorem b12_asksDifference_36 {p : Program} {l : Launch} {e : Env} {s : State} {m : MethodId} {args : Array Value} {below : List Frame} {meth : Method} {c : Code} {D : va_G} {cI cZ : ClassId} {ad : Nat → Nat} (E : rR_E D cI cZ ad cX12_asksDifference 7 (some .boolean) p s m args meth c)   : ∀ (M : rv_Mem) (x1 : Int32) (x2 : Int32) (x3 : Int32) (x4 : Int32) (x6 : Bool), rv_M (rR_G D cI cZ ad) (rR_A ad) p l e rm12_asksDifference s m args below meth c 0 0 (rR_qZW D cI cZ ad below args s) (f12_asksDifference_36 M x1 x2 x3 x4 x6) 36 [some (.ref (ad 67)), some (.int x1), some (.int x2), some (.int x3), some (.int x4), none, some (.int (rv_i x6))] [.ref (ad 67)] M := by
  intro M x1 x2 x3 x4 x6
  unfold f12_asksDifference_36
  refine rv_iconst (q := 37) E.x dX12_asksDifference_36 rv_ki1 rfl ?_
  refine rv_wk [true, true, true, true, true, false, true] ?_
  exact b12_asksDifference_37 E M x1 x2 x3 x4 x6 true
set_option maxRecDepth 100000 in
theorem b12_asksDifference {p : Program} {l : Launch} {e : Env} {s : State} {m : MethodId} {args : Array Value} {below : List Frame} {meth : Method} {c : Code} {D : va_G} {cI cZ : ClassId} {ad : Nat → Nat} (E : rR_E D cI cZ ad cX12_asksDifference 7 (some .boolean) p s m args meth c) (M : rv_Mem) (a1 : Int32) (a2 : Int32) (a3 : Int32) (a4 : Int32) (a5 : Int32) (a6 : Bool) : rv_M (rR_G D cI cZ ad) (rR_A ad) p l e rm12_asksDifference s m args below meth c 0 0  (rR_qZW D cI cZ ad below args s) (f12_asksDifference M a1 a2 a3 a4 a5 a6) 0 [some (.ref (ad 67)), some (.int a1), some (.int a2), some (.int a3), some (.int a4), some (.int a5), some (.int (rv_i a6))] [] M := by
  unfold f12_asksDifference
  refine rv_aload_n (q := 1) E.x dX12_asksDifference_0 rfl rfl ?_
  refine rv_aload_n (q := 2) E.x dX12_asksDifference_1 rfl rfl ?_
  refine rv_iload_n (q := 3) E.x dX12_asksDifference_2 rfl rfl ?_
  refine rv_iload_n (q := 4) E.x dX12_asksDifference_3 rfl rfl ?_
  refine rv_b1 (fun r2 e1 => ?_)
  refine rR_calli (q := 7) E (c12_isSet E.2.2.1 e1) gX12_isSet hX12_isSet ⟨rfl, rfl⟩ ⟨Nat.le_of_ble_eq_true rfl, Nat.le_of_ble_eq_true rfl⟩ rfl rfl rfl (Nat.le_of_ble_eq_true rfl) dX12_asksDifference_4 rfl ?_
  refine rv_ifz_eq (q := 10) (tgt := 36) E.x dX12_asksDifference_7 (by decide) rfl ?_ ?_
  · refine rv_aload_n (q := 11) E.x dX12_asksDifference_10 rfl rfl ?_
    refine rv_iload_n (q := 12) E.x dX12_asksDifference_11 rfl rfl ?_
    refine rv_iload_n (q := 13) E.x dX12_asksDifference_12 rfl rfl ?_
    refine rv_b1 (fun r4 e3 => ?_)
    refine rR_calli (q := 16) E (c12_isSet E.2.2.1 e3) gX12_isSet hX12_isSet ⟨rfl, rfl⟩ ⟨Nat.le_of_ble_eq_true rfl, Nat.le_of_ble_eq_true rfl⟩ rfl rfl rfl (Nat.le_of_ble_eq_true rfl) dX12_asksDifference_13 rfl ?_
    refine rv_ifz_eq (q := 19) (tgt := 36) E.x dX12_asksDifference_16 (by decide) rfl ?_ ?_
    · refine rv_iload (q := 21) E.x dX12_asksDifference_19 rfl rfl ?_
      refine rv_b1 (fun r6 e5 => ?_)
      refine rR_calls (q := 24) E (c12_isFile e5) gX12_isFile hX12_isFile ⟨rfl, rfl⟩ ⟨Nat.le_of_ble_eq_true rfl, Nat.le_of_ble_eq_true rfl⟩ rfl rfl rfl (Nat.le_of_ble_eq_true rfl) dX12_asksDifference_21 rfl ?_
      refine rv_ifz_eq (q := 27) (tgt := 36) E.x dX12_asksDifference_24 (by decide) rfl ?_ ?_
      · refine rv_iload (q := 29) E.x dX12_asksDifference_27 rfl rfl ?_
        refine rv_if_lt (q := 32) (tgt := 36) E.x dX12_asksDifference_29 (by decide) rfl ?_ ?_
        · refine rv_iconst (q := 33) E.x dX12_asksDifference_32 rv_ki0 rfl ?_
          refine rv_goto (q := 37) E.x dX12_asksDifference_33 (by decide) ?_
          refine rv_wk [true, true, true, true, true, false, true] ?_
          exact b12_asksDifference_37 E M a1 a2 a3 a4 a6 false
        · refine rv_wk [true, true, true, true, true, false, true] ?_
          exact b12_asksDifference_36 E M a1 a2 a3 a4 a6
      · refine rv_wk [true, true, true, true, true, false, true] ?_
        exact b12_asksDifference_36 E M a1 a2 a3 a4 a6
    · refine rv_wk [true, true, true, true, true, false, true] ?_
      exact b12_asksDifference_36 E M a1 a2 a3 a4 a6
  · refine rv_wk [true, true, true, true, true, false, true] ?_
    exact b12_asksDifference_36 E M a1 a2 a3 a4 a6
theorem c12_asksDifference {l : Launch} {D : va_G} {cI cZ : ClassId} {ad : Nat → Nat} (hI : rR_I ad) {M : rv_Mem} {a1 : Int32} {a2 : Int32} {a3 : Int32} {a4 : Int32} {a5 : Int32} {a6 : Bool} {r : Bool} {M1 : rv_Mem} (h : f12_asksDifference M a1 a2 a3 a4 a5 a6 = some (r, M1)) : Met l yX12_asksDifference (rv_ws yX12_asksDifference cX12_asksDifference 7 (some .boolean)) rm12_asksDifference (rR_Pc D cI cZ ad [.ref (ad 67), .int a1, .int a2, .int a3, .int a4, .int a5, .int (rv_i a6)] M) (rR_QI D cI cZ ad (rv_i r) M1) 0 0 (rR_A ad) := rR_met hI rfl (rv_cat rfl) (Nat.le_of_ble_eq_true rfl) (fun p e s m args below meth c E => ⟨(rR_qZW D cI cZ ad below args s), rfl, b12_asksDifference E M a1 a2 a3 a4 a5 a6⟩) h
abbrev rm12_hunks : Room := { frames := 6, cells := 0, slots := 0, locals := 165 }
set_option maxRecDepth 100000 in
theorem b12_hunks {p : Program} {l : Launch} {e : Env} {s : State} {m : MethodId} {args : Array Value} {below : List Frame} {meth : Method} {c : Code} {D : va_G} {cI cZ : ClassId} {ad : Nat → Nat} (E : rR_E D cI cZ ad cX12_hunks 6 (some .int) p s m args meth c) (M : rv_Mem) (a1 : Int32) (a2 : Int32) (a3 : Int32) (a4 : Int32) (a5 : Bool) : rv_M (rR_G D cI cZ ad) (rR_A ad) p l e rm12_hunks s m args below meth c 0 0  (rR_qIW D cI cZ ad below args s) (f12_hunks M a1 a2 a3 a4 a5) 0 [some (.ref (ad 67)), some (.int a1), some (.int a2), some (.int a3), some (.int a4), some (.int (rv_i a5))] [] M := by
  unfold f12_hunks
  refine rv_aload_n (q := 1) E.x dX12_hunks_0 rfl rfl ?_
  refine rv_iload_n (q := 2) E.x dX12_hunks_1 rfl rfl ?_
  refine rv_iload_n (q := 3) E.x dX12_hunks_2 rfl rfl ?_
  refine rv_iload_n (q := 4) E.x dX12_hunks_3 rfl rfl ?_
  refine rv_iload (q := 6) E.x dX12_hunks_4 rfl rfl ?_
  refine rv_iconst (q := 7) E.x dX12_hunks_6 rv_ki0 rfl ?_
  refine rv_iload (q := 9) E.x dX12_hunks_7 rfl rfl ?_
  refine rv_b2 (fun r2 M3 e1 => ?_)
  refine rR_calli (q := 12) E (c12_asksDifference E.2.2.1 e1) gX12_asksDifference hX12_asksDifference ⟨rfl, rfl⟩ ⟨Nat.le_of_ble_eq_true rfl, Nat.le_of_ble_eq_true rfl⟩ rfl rfl rfl (Nat.le_of_ble_eq_true rfl) dX12_hunks_9 rfl ?_
  refine rv_ifz_eq (q := 15) (tgt := 24) E.x dX12_hunks_12 (by decide) rfl ?_ ?_
  · refine rv_aload_n (q := 16) E.x dX12_hunks_15 rfl rfl ?_
    refine rR_get (q := 19) E 61 wf12_61 rfl (Nat.le_of_ble_eq_true rfl) rfl dX12_hunks_16 rfl ?_
    refine rv_iconst (q := 20) E.x dX12_hunks_19 rv_ki2 rfl ?_
    refine rR_iald (q := 21) (n := 4) E (Nat.le_of_ble_eq_true rfl) rfl rfl dX12_hunks_20 rfl ?_
    refine rv_goto (q := 25) E.x dX12_hunks_21 (by decide) ?_
    exact rR_iret E rfl dX12_hunks_25
  · refine rv_iconst (q := 25) E.x dX12_hunks_24 rv_ki0 rfl ?_
    exact rR_iret E rfl dX12_hunks_25
theorem c12_hunks {l : Launch} {D : va_G} {cI cZ : ClassId} {ad : Nat → Nat} (hI : rR_I ad) {M : rv_Mem} {a1 : Int32} {a2 : Int32} {a3 : Int32} {a4 : Int32} {a5 : Bool} {r : Int32} {M1 : rv_Mem} (h : f12_hunks M a1 a2 a3 a4 a5 = some (r, M1)) : Met l yX12_hunks (rv_ws yX12_hunks cX12_hunks 6 (some .int)) rm12_hunks (rR_Pc D cI cZ ad [.ref (ad 67), .int a1, .int a2, .int a3, .int a4, .int (rv_i a5)] M) (rR_QI D cI cZ ad r M1) 0 0 (rR_A ad) := rR_met hI rfl (rv_cat rfl) (Nat.le_of_ble_eq_true rfl) (fun p e s m args below meth c E => ⟨(rR_qIW D cI cZ ad below args s), rfl, b12_hunks E M a1 a2 a3 a4 a5⟩) h
abbrev rm12_hunkAt : Room := { frames := 6, cells := 0, slots := 0, locals := 165 }
set_option maxRecDepth 100000 in
theorem b12_hunkAt {p : Program} {l : Launch} {e : Env} {s : State} {m : MethodId} {args : Array Value} {below : List Frame} {meth : Method} {c : Code} {D : va_G} {cI cZ : ClassId} {ad : Nat → Nat} (E : rR_E D cI cZ ad cX12_hunkAt 8 (some .int) p s m args meth c) (M : rv_Mem) (a1 : Int32) (a2 : Int32) (a3 : Int32) (a4 : Int32) (a5 : Bool) (a6 : Int32) : rv_M (rR_G D cI cZ ad) (rR_A ad) p l e rm12_hunkAt s m args below meth c 0 0  (rR_qIW D cI cZ ad below args s) (f12_hunkAt M a1 a2 a3 a4 a5 a6) 0 [some (.ref (ad 67)), some (.int a1), some (.int a2), some (.int a3), some (.int a4), some (.int (rv_i a5)), some (.int a6), none] [] M := by
  unfold f12_hunkAt
  refine rv_aload_n (q := 1) E.x dX12_hunkAt_0 rfl rfl ?_
  refine rv_iload_n (q := 2) E.x dX12_hunkAt_1 rfl rfl ?_
  refine rv_iload_n (q := 3) E.x dX12_hunkAt_2 rfl rfl ?_
  refine rv_iload_n (q := 4) E.x dX12_hunkAt_3 rfl rfl ?_
  refine rv_iload (q := 6) E.x dX12_hunkAt_4 rfl rfl ?_
  refine rv_iload (q := 8) E.x dX12_hunkAt_6 rfl rfl ?_
  refine rv_iload (q := 10) E.x dX12_hunkAt_8 rfl rfl ?_
  refine rv_b2 (fun r2 M3 e1 => ?_)
  refine rR_calli (q := 13) E (c12_asksDifference E.2.2.1 e1) gX12_asksDifference hX12_asksDifference ⟨rfl, rfl⟩ ⟨Nat.le_of_ble_eq_true rfl, Nat.le_of_ble_eq_true rfl⟩ rfl rfl rfl (Nat.le_of_ble_eq_true rfl) dX12_hunkAt_10 rfl ?_
  refine rv_ifz_ne (q := 16) (tgt := 18) E.x dX12_hunkAt_13 (by decide) rfl ?_ ?_
  · refine rv_iconst (q := 17) E.x dX12_hunkAt_16 rv_ki0 rfl ?_
    exact rR_iret E rfl dX12_hunkAt_17
  · refine rv_iload (q := 20) E.x dX12_hunkAt_18 rfl rfl ?_
    refine rv_aload_n (q := 21) E.x dX12_hunkAt_20 rfl rfl ?_
    refine rR_get (q := 24) E 61 wf12_61 rfl (Nat.le_of_ble_eq_true rfl) rfl dX12_hunkAt_21 rfl ?_
    refine rv_iconst (q := 25) E.x dX12_hunkAt_24 rv_ki2 rfl ?_
    refine rR_iald (q := 26) (n := 4) E (Nat.le_of_ble_eq_true rfl) rfl rfl dX12_hunkAt_25 rfl ?_
    refine rv_icmp_lt (q := 29) (tgt := 31) E.x dX12_hunkAt_26 (by decide) rfl ?_ ?_
    · refine rv_iconst (q := 30) E.x dX12_hunkAt_29 rv_kim1 rfl ?_
      exact rR_iret E rfl dX12_hunkAt_30
    · refine rv_bipush (q := 33) E.x dX12_hunkAt_31 rv_kb30 rfl ?_
      refine rv_iload (q := 35) E.x dX12_hunkAt_33 rfl rfl ?_
      refine rv_iadd (q := 36) E.x dX12_hunkAt_35 rfl ?_
      refine rv_istore (q := 38) (lv' := [_, _, _, _, _, _, _, _]) E.x dX12_hunkAt_36 (Nat.le_of_ble_eq_true rfl) rfl rfl rfl ?_
      refine rR_ldcw (q := 41) E wk12_449 dX12_hunkAt_38 rfl ?_
      refine rv_aload_n (q := 42) E.x dX12_hunkAt_41 rfl rfl ?_
      refine rR_get (q := 45) E 55 wf12_55 rfl (Nat.le_of_ble_eq_true rfl) rfl dX12_hunkAt_42 rfl ?_
      refine rv_iload (q := 47) E.x dX12_hunkAt_45 rfl rfl ?_
      refine rR_iald (q := 48) (n := 60) E (Nat.le_of_ble_eq_true rfl) rfl rfl dX12_hunkAt_47 rfl ?_
      refine rv_imul (q := 49) E.x dX12_hunkAt_48 rfl ?_
      refine rv_sipush (q := 52) E.x dX12_hunkAt_49 rv_ks10000 rfl ?_
      refine rv_aload_n (q := 53) E.x dX12_hunkAt_52 rfl rfl ?_
      refine rR_get (q := 56) E 57 wf12_57 rfl (Nat.le_of_ble_eq_true rfl) rfl dX12_hunkAt_53 rfl ?_
      refine rv_iload (q := 58) E.x dX12_hunkAt_56 rfl rfl ?_
      refine rR_iald (q := 59) (n := 60) E (Nat.le_of_ble_eq_true rfl) rfl rfl dX12_hunkAt_58 rfl ?_
      refine rv_imul (q := 60) E.x dX12_hunkAt_59 rfl ?_
      refine rv_iadd (q := 61) E.x dX12_hunkAt_60 rfl ?_
      refine rv_bipush (q := 63) E.x dX12_hunkAt_61 rv_kb100 rfl ?_
      refine rv_aload_n (q := 64) E.x dX12_hunkAt_63 rfl rfl ?_
      refine rR_get (q := 67) E 56 wf12_56 rfl (Nat.le_of_ble_eq_true rfl) rfl dX12_hunkAt_64 rfl ?_
      refine rv_iload (q := 69) E.x dX12_hunkAt_67 rfl rfl ?_
      refine rR_iald (q := 70) (n := 60) E (Nat.le_of_ble_eq_true rfl) rfl rfl dX12_hunkAt_69 rfl ?_
      refine rv_imul (q := 71) E.x dX12_hunkAt_70 rfl ?_
      refine rv_iadd (q := 72) E.x dX12_hunkAt_71 rfl ?_
      refine rv_aload_n (q := 73) E.x dX12_hunkAt_72 rfl rfl ?_
      refine rR_get (q := 76) E 58 wf12_58 rfl (Nat.le_of_ble_eq_true rfl) rfl dX12_hunkAt_73 rfl ?_
      refine rv_iload (q := 78) E.x dX12_hunkAt_76 rfl rfl ?_
      refine rR_iald (q := 79) (n := 60) E (Nat.le_of_ble_eq_true rfl) rfl rfl dX12_hunkAt_78 rfl ?_
      refine rv_iadd (q := 80) E.x dX12_hunkAt_79 rfl ?_
      exact rR_iret E rfl dX12_hunkAt_80
theorem c12_hunkAt {l : Launch} {D : va_G} {cI cZ : ClassId} {ad : Nat → Nat} (hI : rR_I ad) {M : rv_Mem} {a1 : Int32} {a2 : Int32} {a3 : Int32} {a4 : Int32} {a5 : Bool} {a6 : Int32} {r : Int32} {M1 : rv_Mem} (h : f12_hunkAt M a1 a2 a3 a4 a5 a6 = some (r, M1)) : Met l yX12_hunkAt (rv_ws yX12_hunkAt cX12_hunkAt 8 (some .int)) rm12_hunkAt (rR_Pc D cI cZ ad [.ref (ad 67), .int a1, .int a2, .int a3, .int a4, .int (rv_i a5), .int a6] M) (rR_QI D cI cZ ad r M1) 0 0 (rR_A ad) := rR_met hI rfl (rv_cat rfl) (Nat.le_of_ble_eq_true rfl) (fun p e s m args below meth c E => ⟨(rR_qIW D cI cZ ad below args s), rfl, b12_hunkAt E M a1 a2 a3 a4 a5 a6⟩) h
abbrev rm12_drafts : Room := { frames := 0, cells := 0, slots := 0, locals := 0 }
set_option maxRecDepth 100000 in
theorem b12_drafts {p : Program} {l : Launch} {e : Env} {s : State} {m : MethodId} {args : Array Value} {below : List Frame} {meth : Method} {c : Code} {D : va_G} {cI cZ : ClassId} {ad : Nat → Nat} (E : rR_E D cI cZ ad cX12_drafts 4 (some .int) p s m args meth c) (M : rv_Mem) (a1 : Int32) (a2 : Int32) (a3 : Bool) : rv_M (rR_G D cI cZ ad) (rR_A ad) p l e rm12_drafts s m args below meth c 0 0  (rR_qIW D cI cZ ad below args s) (f12_drafts M a1 a2 a3) 0 [some (.ref (ad 67)), some (.int a1), some (.int a2), some (.int (rv_i a3))] [] M := by
  unfold f12_drafts
  refine rv_aload_n (q := 1) E.x dX12_drafts_0 rfl rfl ?_
  refine rR_get (q := 4) E 25 wf12_25 rfl (Nat.le_of_ble_eq_true rfl) rfl dX12_drafts_1 rfl ?_
  refine rv_aload_n (q := 5) E.x dX12_drafts_4 rfl rfl ?_
  refine rR_get (q := 8) E 24 wf12_24 rfl (Nat.le_of_ble_eq_true rfl) rfl dX12_drafts_5 rfl ?_
  refine rv_iload_n (q := 9) E.x dX12_drafts_8 rfl rfl ?_
  refine rR_iast (q := 10) (n := 60) E (Nat.le_of_ble_eq_true rfl) rfl rfl dX12_drafts_9 rfl ?_
  refine rv_ltm (fun M1 => ?_)
  refine rv_aload_n (q := 11) E.x dX12_drafts_10 rfl rfl ?_
  refine rR_get (q := 14) E 31 wf12_31 rfl (Nat.le_of_ble_eq_true rfl) rfl dX12_drafts_11 rfl ?_
  refine rv_aload_n (q := 15) E.x dX12_drafts_14 rfl rfl ?_
  refine rR_get (q := 18) E 24 wf12_24 rfl (Nat.le_of_ble_eq_true rfl) rfl dX12_drafts_15 rfl ?_
  refine rv_iload_n (q := 19) E.x dX12_drafts_18 rfl rfl ?_
  refine rR_iast (q := 20) (n := 60) E (Nat.le_of_ble_eq_true rfl) rfl rfl dX12_drafts_19 rfl ?_
  refine rv_ltm (fun M2 => ?_)
  refine rv_aload_n (q := 21) E.x dX12_drafts_20 rfl rfl ?_
  refine rR_get (q := 24) E 32 wf12_32 rfl (Nat.le_of_ble_eq_true rfl) rfl dX12_drafts_21 rfl ?_
  refine rv_aload_n (q := 25) E.x dX12_drafts_24 rfl rfl ?_
  refine rR_get (q := 28) E 24 wf12_24 rfl (Nat.le_of_ble_eq_true rfl) rfl dX12_drafts_25 rfl ?_
  refine rv_iconst (q := 29) E.x dX12_drafts_28 rv_ki1 rfl ?_
  refine rR_zast (q := 30) (n := 60) E true (Nat.le_of_ble_eq_true rfl) rfl rfl dX12_drafts_29 rfl ?_
  refine rv_ltm (fun M3 => ?_)
  refine rv_aload_n (q := 31) E.x dX12_drafts_30 rfl rfl ?_
  refine rR_get (q := 34) E 33 wf12_33 rfl (Nat.le_of_ble_eq_true rfl) rfl dX12_drafts_31 rfl ?_
  refine rv_aload_n (q := 35) E.x dX12_drafts_34 rfl rfl ?_
  refine rR_get (q := 38) E 24 wf12_24 rfl (Nat.le_of_ble_eq_true rfl) rfl dX12_drafts_35 rfl ?_
  refine rv_iload_n (q := 39) E.x dX12_drafts_38 rfl rfl ?_
  refine rR_zast (q := 40) (n := 60) E a3 (Nat.le_of_ble_eq_true rfl) rfl rfl dX12_drafts_39 rfl ?_
  refine rv_ltm (fun M4 => ?_)
  refine rv_aload_n (q := 41) E.x dX12_drafts_40 rfl rfl ?_
  refine rv_dup (q := 42) E.x dX12_drafts_41 rfl rfl ?_
  refine rR_get (q := 45) E 24 wf12_24 rfl (Nat.le_of_ble_eq_true rfl) rfl dX12_drafts_42 rfl ?_
  refine rv_iconst (q := 46) E.x dX12_drafts_45 rv_ki1 rfl ?_
  refine rv_iadd (q := 47) E.x dX12_drafts_46 rfl ?_
  refine rR_put (q := 50) E 24 wf12_24 rfl (Nat.le_of_ble_eq_true rfl) rfl rfl rfl dX12_drafts_47 rfl ?_
  refine rv_ltm (fun M5 => ?_)
  refine rv_aload_n (q := 51) E.x dX12_drafts_50 rfl rfl ?_
  refine rR_get (q := 54) E 24 wf12_24 rfl (Nat.le_of_ble_eq_true rfl) rfl dX12_drafts_51 rfl ?_
  refine rv_iconst (q := 55) E.x dX12_drafts_54 rv_ki1 rfl ?_
  refine rv_isub (q := 56) E.x dX12_drafts_55 rfl ?_
  exact rR_iret E rfl dX12_drafts_56
theorem c12_drafts {l : Launch} {D : va_G} {cI cZ : ClassId} {ad : Nat → Nat} (hI : rR_I ad) {M : rv_Mem} {a1 : Int32} {a2 : Int32} {a3 : Bool} {r : Int32} {M1 : rv_Mem} (h : f12_drafts M a1 a2 a3 = some (r, M1)) : Met l yX12_drafts (rv_ws yX12_drafts cX12_drafts 4 (some .int)) rm12_drafts (rR_Pc D cI cZ ad [.ref (ad 67), .int a1, .int a2, .int (rv_i a3)] M) (rR_QI D cI cZ ad r M1) 0 0 (rR_A ad) := rR_met hI rfl (rv_cat rfl) (Nat.le_of_ble_eq_true rfl) (fun p e s m args below meth c E => ⟨(rR_qIW D cI cZ ad below args s), rfl, b12_drafts E M a1 a2 a3⟩) h
abbrev rm12_lays : Room := { frames := 0, cells := 0, slots := 0, locals := 0 }
set_option maxRecDepth 100000 in
theorem b12_lays {p : Program} {l : Launch} {e : Env} {s : State} {m : MethodId} {args : Array Value} {below : List Frame} {meth : Method} {c : Code} {D : va_G} {cI cZ : ClassId} {ad : Nat → Nat} (E : rR_E D cI cZ ad cX12_lays 6 none p s m args meth c) (M : rv_Mem) (a1 : Int32) (a2 : Int32) (a3 : Int32) (a4 : Int32) (a5 : Int32) : rv_M (rR_G D cI cZ ad) (rR_A ad) p l e rm12_lays s m args below meth c 0 0  (rR_qV D cI cZ ad below args s) (f12_lays M a1 a2 a3 a4 a5) 0 [some (.ref (ad 67)), some (.int a1), some (.int a2), some (.int a3), some (.int a4), some (.int a5)] [] M := by
  unfold f12_lays
  refine rv_aload_n (q := 1) E.x dX12_lays_0 rfl rfl ?_
  refine rR_get (q := 4) E 26 wf12_26 rfl (Nat.le_of_ble_eq_true rfl) rfl dX12_lays_1 rfl ?_
  refine rv_aload_n (q := 5) E.x dX12_lays_4 rfl rfl ?_
  refine rR_get (q := 8) E 24 wf12_24 rfl (Nat.le_of_ble_eq_true rfl) rfl dX12_lays_5 rfl ?_
  refine rv_iload_n (q := 9) E.x dX12_lays_8 rfl rfl ?_
  refine rR_iast (q := 10) (n := 60) E (Nat.le_of_ble_eq_true rfl) rfl rfl dX12_lays_9 rfl ?_
  refine rv_ltm (fun M1 => ?_)
  refine rv_aload_n (q := 11) E.x dX12_lays_10 rfl rfl ?_
  refine rR_get (q := 14) E 27 wf12_27 rfl (Nat.le_of_ble_eq_true rfl) rfl dX12_lays_11 rfl ?_
  refine rv_aload_n (q := 15) E.x dX12_lays_14 rfl rfl ?_
  refine rR_get (q := 18) E 24 wf12_24 rfl (Nat.le_of_ble_eq_true rfl) rfl dX12_lays_15 rfl ?_
  refine rv_iload_n (q := 19) E.x dX12_lays_18 rfl rfl ?_
  refine rR_iast (q := 20) (n := 60) E (Nat.le_of_ble_eq_true rfl) rfl rfl dX12_lays_19 rfl ?_
  refine rv_ltm (fun M2 => ?_)
  refine rv_aload_n (q := 21) E.x dX12_lays_20 rfl rfl ?_
  refine rR_get (q := 24) E 28 wf12_28 rfl (Nat.le_of_ble_eq_true rfl) rfl dX12_lays_21 rfl ?_
  refine rv_aload_n (q := 25) E.x dX12_lays_24 rfl rfl ?_
  refine rR_get (q := 28) E 24 wf12_24 rfl (Nat.le_of_ble_eq_true rfl) rfl dX12_lays_25 rfl ?_
  refine rv_iload_n (q := 29) E.x dX12_lays_28 rfl rfl ?_
  refine rR_iast (q := 30) (n := 60) E (Nat.le_of_ble_eq_true rfl) rfl rfl dX12_lays_29 rfl ?_
  refine rv_ltm (fun M3 => ?_)
  refine rv_aload_n (q := 31) E.x dX12_lays_30 rfl rfl ?_
  refine rR_get (q := 34) E 29 wf12_29 rfl (Nat.le_of_ble_eq_true rfl) rfl dX12_lays_31 rfl ?_
  refine rv_aload_n (q := 35) E.x dX12_lays_34 rfl rfl ?_
  refine rR_get (q := 38) E 24 wf12_24 rfl (Nat.le_of_ble_eq_true rfl) rfl dX12_lays_35 rfl ?_
  refine rv_iload (q := 40) E.x dX12_lays_38 rfl rfl ?_
  refine rR_iast (q := 41) (n := 60) E (Nat.le_of_ble_eq_true rfl) rfl rfl dX12_lays_40 rfl ?_
  refine rv_ltm (fun M4 => ?_)
  refine rv_aload_n (q := 42) E.x dX12_lays_41 rfl rfl ?_
  refine rR_get (q := 45) E 30 wf12_30 rfl (Nat.le_of_ble_eq_true rfl) rfl dX12_lays_42 rfl ?_
  refine rv_aload_n (q := 46) E.x dX12_lays_45 rfl rfl ?_
  refine rR_get (q := 49) E 24 wf12_24 rfl (Nat.le_of_ble_eq_true rfl) rfl dX12_lays_46 rfl ?_
  refine rv_iload (q := 51) E.x dX12_lays_49 rfl rfl ?_
  refine rR_iast (q := 52) (n := 60) E (Nat.le_of_ble_eq_true rfl) rfl rfl dX12_lays_51 rfl ?_
  refine rv_ltm (fun M5 => ?_)
  exact rR_vret E rfl dX12_lays_52
theorem c12_lays {l : Launch} {D : va_G} {cI cZ : ClassId} {ad : Nat → Nat} (hI : rR_I ad) {M : rv_Mem} {a1 : Int32} {a2 : Int32} {a3 : Int32} {a4 : Int32} {a5 : Int32} {M1 : rv_Mem} (h : f12_lays M a1 a2 a3 a4 a5 = some M1) : Met l yX12_lays (rv_ws yX12_lays cX12_lays 6 none) rm12_lays (rR_Pc D cI cZ ad [.ref (ad 67), .int a1, .int a2, .int a3, .int a4, .int a5] M) (rR_QV D cI cZ ad M1) 0 0 (rR_A ad) := rR_met hI rfl (rv_cat rfl) (Nat.le_of_ble_eq_true rfl) (fun p e s m args below meth c E => ⟨(rR_qV D cI cZ ad below args s), rfl, b12_lays E M a1 a2 a3 a4 a5⟩) h
abbrev rm12_areLines : Room := { frames := 1, cells := 0, slots := 0, locals := 22 }
set_option maxRecDepth 100000 in
theorem b12_areLines {p : Program} {l : Launch} {e : Env} {s : State} {m : MethodId} {args : Array Value} {below : List Frame} {meth : Method} {c : Code} {D : va_G} {cI cZ : ClassId} {ad : Nat → Nat} (E : rR_E D cI cZ ad cX12_areLines 7 (some .boolean) p s m args meth c) (M : rv_Mem) (a1 : Int32) (a2 : Int32) (a3 : Int32) (a4 : Int32) (a5 : Int32) : rv_M (rR_G D cI cZ ad) (rR_A ad) p l e rm12_areLines s m args below meth c 0 0  (rR_qZ D cI cZ ad below args s M) (f12_areLines M a1 a2 a3 a4 a5) 0 [some (.ref (ad 67)), some (.int a1), some (.int a2), some (.int a3), some (.int a4), some (.int a5), none] [] M := by
  unfold f12_areLines
  refine rv_aload_n (q := 1) E.x dX12_areLines_0 rfl rfl ?_
  refine rv_iload_n (q := 2) E.x dX12_areLines_1 rfl rfl ?_
  refine rv_iload_n (q := 3) E.x dX12_areLines_2 rfl rfl ?_
  refine rv_b1 (fun r2 e1 => ?_)
  refine rR_calli (q := 6) E (c12_sizeOf E.2.2.1 e1) gX12_sizeOf hX12_sizeOf ⟨rfl, rfl⟩ ⟨Nat.le_of_ble_eq_true rfl, Nat.le_of_ble_eq_true rfl⟩ rfl rfl rfl (Nat.le_of_ble_eq_true rfl) dX12_areLines_3 rfl ?_
  refine rv_istore (q := 8) (lv' := [_, _, _, _, _, _, _]) E.x dX12_areLines_6 (Nat.le_of_ble_eq_true rfl) rfl rfl rfl ?_
  refine rv_iload_n (q := 9) E.x dX12_areLines_8 rfl rfl ?_
  refine rv_iconst (q := 10) E.x dX12_areLines_9 rv_ki0 rfl ?_
  refine rv_iload (q := 12) E.x dX12_areLines_10 rfl rfl ?_
  refine rv_b1 (fun r4 e3 => ?_)
  refine rR_calls (q := 15) E (c12_isIn e3) gX12_isIn hX12_isIn ⟨rfl, rfl⟩ ⟨Nat.le_of_ble_eq_true rfl, Nat.le_of_ble_eq_true rfl⟩ rfl rfl rfl (Nat.le_of_ble_eq_true rfl) dX12_areLines_12 rfl ?_
  refine rv_ifz_eq (q := 18) (tgt := 36) E.x dX12_areLines_15 (by decide) rfl ?_ ?_
  · refine rv_iload (q := 20) E.x dX12_areLines_18 rfl rfl ?_
    refine rv_iload (q := 22) E.x dX12_areLines_20 rfl rfl ?_
    refine rv_iload (q := 24) E.x dX12_areLines_22 rfl rfl ?_
    refine rv_iload_n (q := 25) E.x dX12_areLines_24 rfl rfl ?_
    refine rv_isub (q := 26) E.x dX12_areLines_25 rfl ?_
    refine rv_b1 (fun r6 e5 => ?_)
    refine rR_calls (q := 29) E (c12_isIn e5) gX12_isIn hX12_isIn ⟨rfl, rfl⟩ ⟨Nat.le_of_ble_eq_true rfl, Nat.le_of_ble_eq_true rfl⟩ rfl rfl rfl (Nat.le_of_ble_eq_true rfl) dX12_areLines_26 rfl ?_
    refine rv_ifz_eq (q := 32) (tgt := 36) E.x dX12_areLines_29 (by decide) rfl ?_ ?_
    · refine rv_iconst (q := 33) E.x dX12_areLines_32 rv_ki1 rfl ?_
      refine rv_goto (q := 37) E.x dX12_areLines_33 (by decide) ?_
      exact rR_zret E true rfl dX12_areLines_37
    · refine rv_iconst (q := 37) E.x dX12_areLines_36 rv_ki0 rfl ?_
      exact rR_zret E false rfl dX12_areLines_37
  · refine rv_iconst (q := 37) E.x dX12_areLines_36 rv_ki0 rfl ?_
    exact rR_zret E false rfl dX12_areLines_37
theorem c12_areLines {l : Launch} {D : va_G} {cI cZ : ClassId} {ad : Nat → Nat} (hI : rR_I ad) {M : rv_Mem} {a1 : Int32} {a2 : Int32} {a3 : Int32} {a4 : Int32} {a5 : Int32} {r : Bool} (h : f12_areLines M a1 a2 a3 a4 a5 = some r) : Met l yX12_areLines (rv_ws yX12_areLines cX12_areLines 7 (some .boolean)) rm12_areLines (rR_Pc D cI cZ ad [.ref (ad 67), .int a1, .int a2, .int a3, .int a4, .int a5] M) (rR_QI D cI cZ ad (rv_i r) M) 0 0 (rR_A ad) := rR_met hI rfl (rv_cat rfl) (Nat.le_of_ble_eq_true rfl) (fun p e s m args below meth c E => ⟨(rR_qZ D cI cZ ad below args s M), rfl, b12_areLines E M a1 a2 a3 a4 a5⟩) h
abbrev rm12_comment : Room := { frames := 3, cells := 0, slots := 0, locals := 65 }
set_option maxRecDepth 100000 in
theorem b12_comment_90 {p : Program} {l : Launch} {e : Env} {s : State} {m : MethodId} {args : Array Value} {below : List Frame} {meth : Method} {c : Code} {D : va_G} {cI cZ : ClassId} {ad : Nat → Nat} (E : rR_E D cI cZ ad cX12_comment 9 (some .int) p s m args meth c)   : ∀ (M : rv_Mem) (x1 : Int32) (x2 : Int32) (x3 : Int32) (x4 : Int32) (x5 : Int32) (x6 : Int32) (x7 : Bool) (s1 : Int32), rv_M (rR_G D cI cZ ad) (rR_A ad) p l e rm12_comment s m args below meth c 0 0 (rR_qIW D cI cZ ad below args s) (f12_comment_90 M x1 x2 x3 x4 x5 x6 x7 s1) 90 [some (.ref (ad 67)), some (.int x1), some (.int x2), some (.int x3), some (.int x4), some (.int x5), some (.int x6), some (.int (rv_i x7)), none] [.int s1, .ref (ad 67)] M := by
  intro M x1 x2 x3 x4 x5 x6 x7 s1
  unfold f12_comment_90
  refine rv_b2 (fun r2 M3 e1 => ?_)
  refine rR_calli (q := 93) E (c12_goes E.2.2.1 e1) gX12_goes hX12_goes ⟨rfl, rfl⟩ ⟨Nat.le_of_ble_eq_true rfl, Nat.le_of_ble_eq_true rfl⟩ rfl rfl rfl (Nat.le_of_ble_eq_true rfl) dX12_comment_90 rfl ?_
  refine rv_ifz_ne (q := 96) (tgt := 98) E.x dX12_comment_93 (by decide) rfl ?_ ?_
  · refine rv_iconst (q := 97) E.x dX12_comment_96 rv_ki0 rfl ?_
    exact rR_iret E rfl dX12_comment_97
  · refine rv_aload_n (q := 99) E.x dX12_comment_98 rfl rfl ?_
    refine rv_iload_n (q := 100) E.x dX12_comment_99 rfl rfl ?_
    refine rv_iload_n (q := 101) E.x dX12_comment_100 rfl rfl ?_
    refine rv_iload (q := 103) E.x dX12_comment_101 rfl rfl ?_
    refine rv_iload (q := 105) E.x dX12_comment_103 rfl rfl ?_
    refine rv_iload (q := 107) E.x dX12_comment_105 rfl rfl ?_
    refine rv_b1 (fun M5 e4 => ?_)
    refine rR_callv (q := 110) E (c12_lays E.2.2.1 e4) gX12_lays hX12_lays ⟨rfl, rfl⟩ ⟨Nat.le_of_ble_eq_true rfl, Nat.le_of_ble_eq_true rfl⟩ rfl rfl rfl (Nat.le_of_ble_eq_true rfl) dX12_comment_107 rfl ?_
    refine rv_aload_n (q := 111) E.x dX12_comment_110 rfl rfl ?_
    refine rv_iload_n (q := 112) E.x dX12_comment_111 rfl rfl ?_
    refine rv_iconst (q := 113) E.x dX12_comment_112 rv_kim1 rfl ?_
    refine rv_iload (q := 115) E.x dX12_comment_113 rfl rfl ?_
    refine rv_b2 (fun r7 M8 e6 => ?_)
    refine rR_calli (q := 118) E (c12_drafts E.2.2.1 e6) gX12_drafts hX12_drafts ⟨rfl, rfl⟩ ⟨Nat.le_of_ble_eq_true rfl, Nat.le_of_ble_eq_true rfl⟩ rfl rfl rfl (Nat.le_of_ble_eq_true rfl) dX12_comment_115 rfl ?_
    exact rR_iret E rfl dX12_comment_118
set_option maxRecDepth 100000 in
theorem b12_comment_85 {p : Program} {l : Launch} {e : Env} {s : State} {m : MethodId} {args : Array Value} {below : List Frame} {meth : Method} {c : Code} {D : va_G} {cI cZ : ClassId} {ad : Nat → Nat} (E : rR_E D cI cZ ad cX12_comment 9 (some .int) p s m args meth c)   : ∀ (M : rv_Mem) (x1 : Int32) (x2 : Int32) (x3 : Int32) (x4 : Int32) (x5 : Int32) (x6 : Int32) (x7 : Bool), rv_M (rR_G D cI cZ ad) (rR_A ad) p l e rm12_comment s m args below meth c 0 0 (rR_qIW D cI cZ ad below args s) (f12_comment_85 M x1 x2 x3 x4 x5 x6 x7) 85 [some (.ref (ad 67)), some (.int x1), some (.int x2), some (.int x3), some (.int x4), some (.int x5), some (.int x6), some (.int (rv_i x7)), none] [.ref (ad 67)] M := by
  intro M x1 x2 x3 x4 x5 x6 x7
  unfold f12_comment_85
  refine rv_iconst (q := 86) E.x dX12_comment_85 rv_ki3 rfl ?_
  refine rv_goto (q := 90) E.x dX12_comment_86 (by decide) ?_
  refine rv_wk [true, true, true, true, true, true, true, true, false] ?_
  exact b12_comment_90 E M x1 x2 x3 x4 x5 x6 x7 3
set_option maxRecDepth 100000 in
theorem b12_comment_30 {p : Program} {l : Launch} {e : Env} {s : State} {m : MethodId} {args : Array Value} {below : List Frame} {meth : Method} {c : Code} {D : va_G} {cI cZ : ClassId} {ad : Nat → Nat} (E : rR_E D cI cZ ad cX12_comment 9 (some .int) p s m args meth c)   : ∀ (M : rv_Mem) (x1 : Int32) (x2 : Int32) (x3 : Int32) (x4 : Int32) (x5 : Int32) (x6 : Int32) (x7 : Bool) (s1 : Bool), rv_M (rR_G D cI cZ ad) (rR_A ad) p l e rm12_comment s m args below meth c 0 0 (rR_qIW D cI cZ ad below args s) (f12_comment_30 M x1 x2 x3 x4 x5 x6 x7 s1) 30 [some (.ref (ad 67)), some (.int x1), some (.int x2), some (.int x3), some (.int x4), some (.int x5), some (.int x6), some (.int (rv_i x7)), none] [.int (rv_i s1), .ref (ad 67)] M := by
  intro M x1 x2 x3 x4 x5 x6 x7 s1
  unfold f12_comment_30
  refine rv_b2 (fun r2 M3 e1 => ?_)
  refine rR_calli (q := 33) E (c12_goes E.2.2.1 e1) gX12_goes hX12_goes ⟨rfl, rfl⟩ ⟨Nat.le_of_ble_eq_true rfl, Nat.le_of_ble_eq_true rfl⟩ rfl rfl rfl (Nat.le_of_ble_eq_true rfl) dX12_comment_30 rfl ?_
  refine rv_ifz_ne (q := 36) (tgt := 38) E.x dX12_comment_33 (by decide) rfl ?_ ?_
  · refine rv_iconst (q := 37) E.x dX12_comment_36 rv_ki0 rfl ?_
    exact rR_iret E rfl dX12_comment_37
  · refine rv_aload_n (q := 39) E.x dX12_comment_38 rfl rfl ?_
    refine rv_aload_n (q := 40) E.x dX12_comment_39 rfl rfl ?_
    refine rv_iload_n (q := 41) E.x dX12_comment_40 rfl rfl ?_
    refine rv_iload_n (q := 42) E.x dX12_comment_41 rfl rfl ?_
    refine rv_b1 (fun r5 e4 => ?_)
    refine rR_calli (q := 45) E (c12_commitAt E.2.2.1 e4) gX12_commitAt hX12_commitAt ⟨rfl, rfl⟩ ⟨Nat.le_of_ble_eq_true rfl, Nat.le_of_ble_eq_true rfl⟩ rfl rfl rfl (Nat.le_of_ble_eq_true rfl) dX12_comment_42 rfl ?_
    refine rv_iload (q := 47) E.x dX12_comment_45 rfl rfl ?_
    refine rv_iload (q := 49) E.x dX12_comment_47 rfl rfl ?_
    refine rv_iconst (q := 50) E.x dX12_comment_49 rv_ki1 rfl ?_
    refine rv_iload (q := 52) E.x dX12_comment_50 rfl rfl ?_
    refine rv_b1 (fun r7 e6 => ?_)
    refine rR_calli (q := 55) E (c12_areLines E.2.2.1 e6) gX12_areLines hX12_areLines ⟨rfl, rfl⟩ ⟨Nat.le_of_ble_eq_true rfl, Nat.le_of_ble_eq_true rfl⟩ rfl rfl rfl (Nat.le_of_ble_eq_true rfl) dX12_comment_52 rfl ?_
    refine rv_istore (q := 57) (lv' := [_, _, _, _, _, _, _, _, _]) E.x dX12_comment_55 (Nat.le_of_ble_eq_true rfl) rfl rfl rfl ?_
    refine rv_aload_n (q := 58) E.x dX12_comment_57 rfl rfl ?_
    refine rv_iload (q := 60) E.x dX12_comment_58 rfl rfl ?_
    refine rv_ifz_ne (q := 63) (tgt := 67) E.x dX12_comment_60 (by decide) rfl ?_ ?_
    · refine rv_iconst (q := 64) E.x dX12_comment_63 rv_ki2 rfl ?_
      refine rv_goto (q := 90) E.x dX12_comment_64 (by decide) ?_
      refine rv_wk [true, true, true, true, true, true, true, true, false] ?_
      exact b12_comment_90 E M3 x1 x2 x3 x4 x5 x6 x7 2
    · refine rv_aload_n (q := 68) E.x dX12_comment_67 rfl rfl ?_
      refine rv_iload_n (q := 69) E.x dX12_comment_68 rfl rfl ?_
      refine rv_iload_n (q := 70) E.x dX12_comment_69 rfl rfl ?_
      refine rv_b1 (fun r9 e8 => ?_)
      refine rR_calli (q := 73) E (c12_canSee E.2.2.1 e8) gX12_canSee hX12_canSee ⟨rfl, rfl⟩ ⟨Nat.le_of_ble_eq_true rfl, Nat.le_of_ble_eq_true rfl⟩ rfl rfl rfl (Nat.le_of_ble_eq_true rfl) dX12_comment_70 rfl ?_
      refine rv_ifz_eq (q := 76) (tgt := 85) E.x dX12_comment_73 (by decide) rfl ?_ ?_
      · refine rv_aload_n (q := 77) E.x dX12_comment_76 rfl rfl ?_
        refine rR_get (q := 80) E 24 wf12_24 rfl (Nat.le_of_ble_eq_true rfl) rfl dX12_comment_77 rfl ?_
        refine rv_bipush (q := 82) E.x dX12_comment_80 rv_kb60 rfl ?_
        refine rv_icmp_ne (q := 85) (tgt := 89) E.x dX12_comment_82 (by decide) rfl ?_ ?_
        · refine rv_wk [true, true, true, true, true, true, true, true, false] ?_
          exact b12_comment_85 E M3 x1 x2 x3 x4 x5 x6 x7
        · refine rv_iconst (q := 90) E.x dX12_comment_89 rv_ki0 rfl ?_
          refine rv_wk [true, true, true, true, true, true, true, true, false] ?_
          exact b12_comment_90 E M3 x1 x2 x3 x4 x5 x6 x7 0
      · refine rv_wk [true, true, true, true, true, true, true, true, false] ?_
        exact b12_comment_85 E M3 x1 x2 x3 x4 x5 x6 x7
set_option maxRecDepth 100000 in
theorem b12_comment_29 {p : Program} {l : Launch} {e : Env} {s : State} {m : MethodId} {args : Array Value} {below : List Frame} {meth : Method} {c : Code} {D : va_G} {cI cZ : ClassId} {ad : Nat → Nat} (E : rR_E D cI cZ ad cX12_comment 9 (some .int) p s m args meth c)   : ∀ (M : rv_Mem) (x1 : Int32) (x2 : Int32) (x3 : Int32) (x4 : Int32) (x5 : Int32) (x6 : Int32) (x7 : Bool), rv_M (rR_G D cI cZ ad) (rR_A ad) p l e rm12_comment s m args below meth c 0 0 (rR_qIW D cI cZ ad below args s) (f12_comment_29 M x1 x2 x3 x4 x5 x6 x7) 29 [some (.ref (ad 67)), some (.int x1), some (.int x2), some (.int x3), some (.int x4), some (.int x5), some (.int x6), some (.int (rv_i x7)), none] [.ref (ad 67)] M := by
  intro M x1 x2 x3 x4 x5 x6 x7
  unfold f12_comment_29
  refine rv_iconst (q := 30) E.x dX12_comment_29 rv_ki1 rfl ?_
  refine rv_wk [true, true, true, true, true, true, true, true, false] ?_
  exact b12_comment_30 E M x1 x2 x3 x4 x5 x6 x7 true
set_option maxRecDepth 100000 in
theorem b12_comment {p : Program} {l : Launch} {e : Env} {s : State} {m : MethodId} {args : Array Value} {below : List Frame} {meth : Method} {c : Code} {D : va_G} {cI cZ : ClassId} {ad : Nat → Nat} (E : rR_E D cI cZ ad cX12_comment 9 (some .int) p s m args meth c) (M : rv_Mem) (a1 : Int32) (a2 : Int32) (a3 : Int32) (a4 : Int32) (a5 : Int32) (a6 : Int32) (a7 : Bool) : rv_M (rR_G D cI cZ ad) (rR_A ad) p l e rm12_comment s m args below meth c 0 0  (rR_qIW D cI cZ ad below args s) (f12_comment M a1 a2 a3 a4 a5 a6 a7) 0 [some (.ref (ad 67)), some (.int a1), some (.int a2), some (.int a3), some (.int a4), some (.int a5), some (.int a6), some (.int (rv_i a7)), none] [] M := by
  unfold f12_comment
  refine rv_aload_n (q := 1) E.x dX12_comment_0 rfl rfl ?_
  refine rv_iload_n (q := 2) E.x dX12_comment_1 rfl rfl ?_
  refine rv_b1 (fun r2 e1 => ?_)
  refine rR_calls (q := 5) E (c12_isPerson e1) gX12_isPerson hX12_isPerson ⟨rfl, rfl⟩ ⟨Nat.le_of_ble_eq_true rfl, Nat.le_of_ble_eq_true rfl⟩ rfl rfl rfl (Nat.le_of_ble_eq_true rfl) dX12_comment_2 rfl ?_
  refine rv_ifz_eq (q := 8) (tgt := 29) E.x dX12_comment_5 (by decide) rfl ?_ ?_
  · refine rv_aload_n (q := 9) E.x dX12_comment_8 rfl rfl ?_
    refine rv_iload_n (q := 10) E.x dX12_comment_9 rfl rfl ?_
    refine rv_iload_n (q := 11) E.x dX12_comment_10 rfl rfl ?_
    refine rv_b1 (fun r4 e3 => ?_)
    refine rR_calli (q := 14) E (c12_isSet E.2.2.1 e3) gX12_isSet hX12_isSet ⟨rfl, rfl⟩ ⟨Nat.le_of_ble_eq_true rfl, Nat.le_of_ble_eq_true rfl⟩ rfl rfl rfl (Nat.le_of_ble_eq_true rfl) dX12_comment_11 rfl ?_
    refine rv_ifz_eq (q := 17) (tgt := 29) E.x dX12_comment_14 (by decide) rfl ?_ ?_
    · refine rv_iload (q := 19) E.x dX12_comment_17 rfl rfl ?_
      refine rv_b1 (fun r6 e5 => ?_)
      refine rR_calls (q := 22) E (c12_isFile e5) gX12_isFile hX12_isFile ⟨rfl, rfl⟩ ⟨Nat.le_of_ble_eq_true rfl, Nat.le_of_ble_eq_true rfl⟩ rfl rfl rfl (Nat.le_of_ble_eq_true rfl) dX12_comment_19 rfl ?_
      refine rv_ifz_eq (q := 25) (tgt := 29) E.x dX12_comment_22 (by decide) rfl ?_ ?_
      · refine rv_iconst (q := 26) E.x dX12_comment_25 rv_ki0 rfl ?_
        refine rv_goto (q := 30) E.x dX12_comment_26 (by decide) ?_
        refine rv_wk [true, true, true, true, true, true, true, true, false] ?_
        exact b12_comment_30 E M a1 a2 a3 a4 a5 a6 a7 false
      · refine rv_wk [true, true, true, true, true, true, true, true, false] ?_
        exact b12_comment_29 E M a1 a2 a3 a4 a5 a6 a7
    · refine rv_wk [true, true, true, true, true, true, true, true, false] ?_
      exact b12_comment_29 E M a1 a2 a3 a4 a5 a6 a7
  · refine rv_wk [true, true, true, true, true, true, true, true, false] ?_
    exact b12_comment_29 E M a1 a2 a3 a4 a5 a6 a7
theorem c12_comment {l : Launch} {D : va_G} {cI cZ : ClassId} {ad : Nat → Nat} (hI : rR_I ad) {M : rv_Mem} {a1 : Int32} {a2 : Int32} {a3 : Int32} {a4 : Int32} {a5 : Int32} {a6 : Int32} {a7 : Bool} {r : Int32} {M1 : rv_Mem} (h : f12_comment M a1 a2 a3 a4 a5 a6 a7 = some (r, M1)) : Met l yX12_comment (rv_ws yX12_comment cX12_comment 9 (some .int)) rm12_comment (rR_Pc D cI cZ ad [.ref (ad 67), .int a1, .int a2, .int a3, .int a4, .int a5, .int a6, .int (rv_i a7)] M) (rR_QI D cI cZ ad r M1) 0 0 (rR_A ad) := rR_met hI rfl (rv_cat rfl) (Nat.le_of_ble_eq_true rfl) (fun p e s m args below meth c E => ⟨(rR_qIW D cI cZ ad below args s), rfl, b12_comment E M a1 a2 a3 a4 a5 a6 a7⟩) h
abbrev rm12_isComment : Room := { frames := 1, cells := 0, slots := 0, locals := 22 }
set_option maxRecDepth 100000 in
theorem b12_isComment {p : Program} {l : Launch} {e : Env} {s : State} {m : MethodId} {args : Array Value} {below : List Frame} {meth : Method} {c : Code} {D : va_G} {cI cZ : ClassId} {ad : Nat → Nat} (E : rR_E D cI cZ ad cX12_isComment 2 (some .boolean) p s m args meth c) (M : rv_Mem) (a1 : Int32) : rv_M (rR_G D cI cZ ad) (rR_A ad) p l e rm12_isComment s m args below meth c 0 0  (rR_qZ D cI cZ ad below args s M) (f12_isComment M a1) 0 [some (.ref (ad 67)), some (.int a1)] [] M := by
  unfold f12_isComment
  refine rv_iload_n (q := 1) E.x dX12_isComment_0 rfl rfl ?_
  refine rv_iconst (q := 2) E.x dX12_isComment_1 rv_ki0 rfl ?_
  refine rv_aload_n (q := 3) E.x dX12_isComment_2 rfl rfl ?_
  refine rR_get (q := 6) E 24 wf12_24 rfl (Nat.le_of_ble_eq_true rfl) rfl dX12_isComment_3 rfl ?_
  refine rv_iconst (q := 7) E.x dX12_isComment_6 rv_ki1 rfl ?_
  refine rv_isub (q := 8) E.x dX12_isComment_7 rfl ?_
  refine rv_b1 (fun r2 e1 => ?_)
  refine rR_calls (q := 11) E (c12_isIn e1) gX12_isIn hX12_isIn ⟨rfl, rfl⟩ ⟨Nat.le_of_ble_eq_true rfl, Nat.le_of_ble_eq_true rfl⟩ rfl rfl rfl (Nat.le_of_ble_eq_true rfl) dX12_isComment_8 rfl ?_
  exact rR_zret E r2 rfl dX12_isComment_11
theorem c12_isComment {l : Launch} {D : va_G} {cI cZ : ClassId} {ad : Nat → Nat} (hI : rR_I ad) {M : rv_Mem} {a1 : Int32} {r : Bool} (h : f12_isComment M a1 = some r) : Met l yX12_isComment (rv_ws yX12_isComment cX12_isComment 2 (some .boolean)) rm12_isComment (rR_Pc D cI cZ ad [.ref (ad 67), .int a1] M) (rR_QI D cI cZ ad (rv_i r) M) 0 0 (rR_A ad) := rR_met hI rfl (rv_cat rfl) (Nat.le_of_ble_eq_true rfl) (fun p e s m args below meth c E => ⟨(rR_qZ D cI cZ ad below args s M), rfl, b12_isComment E M a1⟩) h
abbrev rm12_answer : Room := { frames := 2, cells := 0, slots := 0, locals := 47 }
set_option maxRecDepth 100000 in
theorem b12_answer_89 {p : Program} {l : Launch} {e : Env} {s : State} {m : MethodId} {args : Array Value} {below : List Frame} {meth : Method} {c : Code} {D : va_G} {cI cZ : ClassId} {ad : Nat → Nat} (E : rR_E D cI cZ ad cX12_answer 5 (some .int) p s m args meth c)   : ∀ (M : rv_Mem) (x1 : Int32) (x2 : Int32) (x3 : Bool) (s1 : Int32), rv_M (rR_G D cI cZ ad) (rR_A ad) p l e rm12_answer s m args below meth c 0 0 (rR_qIW D cI cZ ad below args s) (f12_answer_89 M x1 x2 x3 s1) 89 [some (.ref (ad 67)), some (.int x1), some (.int x2), some (.int (rv_i x3)), none] [.int s1, .ref (ad 67)] M := by
  intro M x1 x2 x3 s1
  unfold f12_answer_89
  refine rv_b2 (fun r2 M3 e1 => ?_)
  refine rR_calli (q := 92) E (c12_goes E.2.2.1 e1) gX12_goes hX12_goes ⟨rfl, rfl⟩ ⟨Nat.le_of_ble_eq_true rfl, Nat.le_of_ble_eq_true rfl⟩ rfl rfl rfl (Nat.le_of_ble_eq_true rfl) dX12_answer_89 rfl ?_
  refine rv_ifz_ne (q := 95) (tgt := 97) E.x dX12_answer_92 (by decide) rfl ?_ ?_
  · refine rv_iconst (q := 96) E.x dX12_answer_95 rv_ki0 rfl ?_
    exact rR_iret E rfl dX12_answer_96
  · refine rv_aload_n (q := 98) E.x dX12_answer_97 rfl rfl ?_
    refine rv_aload_n (q := 99) E.x dX12_answer_98 rfl rfl ?_
    refine rR_get (q := 102) E 26 wf12_26 rfl (Nat.le_of_ble_eq_true rfl) rfl dX12_answer_99 rfl ?_
    refine rv_iload_n (q := 103) E.x dX12_answer_102 rfl rfl ?_
    refine rR_iald (q := 104) (n := 60) E (Nat.le_of_ble_eq_true rfl) rfl rfl dX12_answer_103 rfl ?_
    refine rv_aload_n (q := 105) E.x dX12_answer_104 rfl rfl ?_
    refine rR_get (q := 108) E 27 wf12_27 rfl (Nat.le_of_ble_eq_true rfl) rfl dX12_answer_105 rfl ?_
    refine rv_iload_n (q := 109) E.x dX12_answer_108 rfl rfl ?_
    refine rR_iald (q := 110) (n := 60) E (Nat.le_of_ble_eq_true rfl) rfl rfl dX12_answer_109 rfl ?_
    refine rv_aload_n (q := 111) E.x dX12_answer_110 rfl rfl ?_
    refine rR_get (q := 114) E 28 wf12_28 rfl (Nat.le_of_ble_eq_true rfl) rfl dX12_answer_111 rfl ?_
    refine rv_iload_n (q := 115) E.x dX12_answer_114 rfl rfl ?_
    refine rR_iald (q := 116) (n := 60) E (Nat.le_of_ble_eq_true rfl) rfl rfl dX12_answer_115 rfl ?_
    refine rv_aload_n (q := 117) E.x dX12_answer_116 rfl rfl ?_
    refine rR_get (q := 120) E 29 wf12_29 rfl (Nat.le_of_ble_eq_true rfl) rfl dX12_answer_117 rfl ?_
    refine rv_iload_n (q := 121) E.x dX12_answer_120 rfl rfl ?_
    refine rR_iald (q := 122) (n := 60) E (Nat.le_of_ble_eq_true rfl) rfl rfl dX12_answer_121 rfl ?_
    refine rv_aload_n (q := 123) E.x dX12_answer_122 rfl rfl ?_
    refine rR_get (q := 126) E 30 wf12_30 rfl (Nat.le_of_ble_eq_true rfl) rfl dX12_answer_123 rfl ?_
    refine rv_iload_n (q := 127) E.x dX12_answer_126 rfl rfl ?_
    refine rR_iald (q := 128) (n := 60) E (Nat.le_of_ble_eq_true rfl) rfl rfl dX12_answer_127 rfl ?_
    refine rv_b1 (fun M5 e4 => ?_)
    refine rR_callv (q := 131) E (c12_lays E.2.2.1 e4) gX12_lays hX12_lays ⟨rfl, rfl⟩ ⟨Nat.le_of_ble_eq_true rfl, Nat.le_of_ble_eq_true rfl⟩ rfl rfl rfl (Nat.le_of_ble_eq_true rfl) dX12_answer_128 rfl ?_
    refine rv_aload_n (q := 132) E.x dX12_answer_131 rfl rfl ?_
    refine rv_iload_n (q := 133) E.x dX12_answer_132 rfl rfl ?_
    refine rv_iload_n (q := 134) E.x dX12_answer_133 rfl rfl ?_
    refine rv_iload_n (q := 135) E.x dX12_answer_134 rfl rfl ?_
    refine rv_b2 (fun r7 M8 e6 => ?_)
    refine rR_calli (q := 138) E (c12_drafts E.2.2.1 e6) gX12_drafts hX12_drafts ⟨rfl, rfl⟩ ⟨Nat.le_of_ble_eq_true rfl, Nat.le_of_ble_eq_true rfl⟩ rfl rfl rfl (Nat.le_of_ble_eq_true rfl) dX12_answer_135 rfl ?_
    exact rR_iret E rfl dX12_answer_138
set_option maxRecDepth 100000 in
theorem b12_answer_84 {p : Program} {l : Launch} {e : Env} {s : State} {m : MethodId} {args : Array Value} {below : List Frame} {meth : Method} {c : Code} {D : va_G} {cI cZ : ClassId} {ad : Nat → Nat} (E : rR_E D cI cZ ad cX12_answer 5 (some .int) p s m args meth c)   : ∀ (M : rv_Mem) (x1 : Int32) (x2 : Int32) (x3 : Bool), rv_M (rR_G D cI cZ ad) (rR_A ad) p l e rm12_answer s m args below meth c 0 0 (rR_qIW D cI cZ ad below args s) (f12_answer_84 M x1 x2 x3) 84 [some (.ref (ad 67)), some (.int x1), some (.int x2), some (.int (rv_i x3)), none] [.ref (ad 67)] M := by
  intro M x1 x2 x3
  unfold f12_answer_84
  refine rv_iconst (q := 85) E.x dX12_answer_84 rv_ki2 rfl ?_
  refine rv_goto (q := 89) E.x dX12_answer_85 (by decide) ?_
  refine rv_wk [true, true, true, true, false] ?_
  exact b12_answer_89 E M x1 x2 x3 2
set_option maxRecDepth 100000 in
theorem b12_answer_67 {p : Program} {l : Launch} {e : Env} {s : State} {m : MethodId} {args : Array Value} {below : List Frame} {meth : Method} {c : Code} {D : va_G} {cI cZ : ClassId} {ad : Nat → Nat} (E : rR_E D cI cZ ad cX12_answer 5 (some .int) p s m args meth c)   : ∀ (M : rv_Mem) (x1 : Int32) (x2 : Int32) (x3 : Bool) (s0 : Bool), rv_M (rR_G D cI cZ ad) (rR_A ad) p l e rm12_answer s m args below meth c 0 0 (rR_qIW D cI cZ ad below args s) (f12_answer_67 M x1 x2 x3 s0) 67 [some (.ref (ad 67)), some (.int x1), some (.int x2), some (.int (rv_i x3)), none] [.int (rv_i s0)] M := by
  intro M x1 x2 x3 s0
  unfold f12_answer_67
  refine rv_istore (q := 69) (lv' := [_, _, _, _, _]) E.x dX12_answer_67 (Nat.le_of_ble_eq_true rfl) rfl rfl rfl ?_
  refine rv_aload_n (q := 70) E.x dX12_answer_69 rfl rfl ?_
  refine rv_iload (q := 72) E.x dX12_answer_70 rfl rfl ?_
  refine rv_ifz_ne (q := 75) (tgt := 84) E.x dX12_answer_72 (by decide) rfl ?_ ?_
  · refine rv_aload_n (q := 76) E.x dX12_answer_75 rfl rfl ?_
    refine rR_get (q := 79) E 24 wf12_24 rfl (Nat.le_of_ble_eq_true rfl) rfl dX12_answer_76 rfl ?_
    refine rv_bipush (q := 81) E.x dX12_answer_79 rv_kb60 rfl ?_
    refine rv_icmp_ne (q := 84) (tgt := 88) E.x dX12_answer_81 (by decide) rfl ?_ ?_
    · refine rv_wk [true, true, true, true, false] ?_
      exact b12_answer_84 E M x1 x2 x3
    · refine rv_iconst (q := 89) E.x dX12_answer_88 rv_ki0 rfl ?_
      refine rv_wk [true, true, true, true, false] ?_
      exact b12_answer_89 E M x1 x2 x3 0
  · refine rv_wk [true, true, true, true, false] ?_
    exact b12_answer_84 E M x1 x2 x3
set_option maxRecDepth 100000 in
theorem b12_answer_62 {p : Program} {l : Launch} {e : Env} {s : State} {m : MethodId} {args : Array Value} {below : List Frame} {meth : Method} {c : Code} {D : va_G} {cI cZ : ClassId} {ad : Nat → Nat} (E : rR_E D cI cZ ad cX12_answer 5 (some .int) p s m args meth c)   : ∀ (M : rv_Mem) (x1 : Int32) (x2 : Int32) (x3 : Bool), rv_M (rR_G D cI cZ ad) (rR_A ad) p l e rm12_answer s m args below meth c 0 0 (rR_qIW D cI cZ ad below args s) (f12_answer_62 M x1 x2 x3) 62 [some (.ref (ad 67)), some (.int x1), some (.int x2), some (.int (rv_i x3)), none] [] M := by
  intro M x1 x2 x3
  unfold f12_answer_62
  refine rv_iconst (q := 63) E.x dX12_answer_62 rv_ki1 rfl ?_
  refine rv_goto (q := 67) E.x dX12_answer_63 (by decide) ?_
  refine rv_wk [true, true, true, true, false] ?_
  exact b12_answer_67 E M x1 x2 x3 true
set_option maxRecDepth 100000 in
theorem b12_answer_21 {p : Program} {l : Launch} {e : Env} {s : State} {m : MethodId} {args : Array Value} {below : List Frame} {meth : Method} {c : Code} {D : va_G} {cI cZ : ClassId} {ad : Nat → Nat} (E : rR_E D cI cZ ad cX12_answer 5 (some .int) p s m args meth c)   : ∀ (M : rv_Mem) (x1 : Int32) (x2 : Int32) (x3 : Bool) (s1 : Bool), rv_M (rR_G D cI cZ ad) (rR_A ad) p l e rm12_answer s m args below meth c 0 0 (rR_qIW D cI cZ ad below args s) (f12_answer_21 M x1 x2 x3 s1) 21 [some (.ref (ad 67)), some (.int x1), some (.int x2), some (.int (rv_i x3)), none] [.int (rv_i s1), .ref (ad 67)] M := by
  intro M x1 x2 x3 s1
  unfold f12_answer_21
  refine rv_b2 (fun r2 M3 e1 => ?_)
  refine rR_calli (q := 24) E (c12_goes E.2.2.1 e1) gX12_goes hX12_goes ⟨rfl, rfl⟩ ⟨Nat.le_of_ble_eq_true rfl, Nat.le_of_ble_eq_true rfl⟩ rfl rfl rfl (Nat.le_of_ble_eq_true rfl) dX12_answer_21 rfl ?_
  refine rv_ifz_ne (q := 27) (tgt := 29) E.x dX12_answer_24 (by decide) rfl ?_ ?_
  · refine rv_iconst (q := 28) E.x dX12_answer_27 rv_ki0 rfl ?_
    exact rR_iret E rfl dX12_answer_28
  · refine rv_aload_n (q := 30) E.x dX12_answer_29 rfl rfl ?_
    refine rR_get (q := 33) E 32 wf12_32 rfl (Nat.le_of_ble_eq_true rfl) rfl dX12_answer_30 rfl ?_
    refine rv_iload_n (q := 34) E.x dX12_answer_33 rfl rfl ?_
    refine rR_zald (q := 35) (n := 60) E (Nat.le_of_ble_eq_true rfl) rfl rfl dX12_answer_34 rfl ?_
    refine rv_ifz_ne (q := 38) (tgt := 62) E.x dX12_answer_35 (by decide) rfl ?_ ?_
    · refine rv_aload_n (q := 39) E.x dX12_answer_38 rfl rfl ?_
      refine rR_get (q := 42) E 31 wf12_31 rfl (Nat.le_of_ble_eq_true rfl) rfl dX12_answer_39 rfl ?_
      refine rv_iload_n (q := 43) E.x dX12_answer_42 rfl rfl ?_
      refine rR_iald (q := 44) (n := 60) E (Nat.le_of_ble_eq_true rfl) rfl rfl dX12_answer_43 rfl ?_
      refine rv_iconst (q := 45) E.x dX12_answer_44 rv_kim1 rfl ?_
      refine rv_icmp_ne (q := 48) (tgt := 62) E.x dX12_answer_45 (by decide) rfl ?_ ?_
      · refine rv_aload_n (q := 49) E.x dX12_answer_48 rfl rfl ?_
        refine rv_iload_n (q := 50) E.x dX12_answer_49 rfl rfl ?_
        refine rv_aload_n (q := 51) E.x dX12_answer_50 rfl rfl ?_
        refine rR_get (q := 54) E 26 wf12_26 rfl (Nat.le_of_ble_eq_true rfl) rfl dX12_answer_51 rfl ?_
        refine rv_iload_n (q := 55) E.x dX12_answer_54 rfl rfl ?_
        refine rR_iald (q := 56) (n := 60) E (Nat.le_of_ble_eq_true rfl) rfl rfl dX12_answer_55 rfl ?_
        refine rv_b1 (fun r5 e4 => ?_)
        refine rR_calli (q := 59) E (c12_canSee E.2.2.1 e4) gX12_canSee hX12_canSee ⟨rfl, rfl⟩ ⟨Nat.le_of_ble_eq_true rfl, Nat.le_of_ble_eq_true rfl⟩ rfl rfl rfl (Nat.le_of_ble_eq_true rfl) dX12_answer_56 rfl ?_
        refine rv_ifz_ne (q := 62) (tgt := 66) E.x dX12_answer_59 (by decide) rfl ?_ ?_
        · refine rv_wk [true, true, true, true, false] ?_
          exact b12_answer_62 E M3 x1 x2 x3
        · refine rv_iconst (q := 67) E.x dX12_answer_66 rv_ki0 rfl ?_
          refine rv_wk [true, true, true, true, false] ?_
          exact b12_answer_67 E M3 x1 x2 x3 false
      · refine rv_wk [true, true, true, true, false] ?_
        exact b12_answer_62 E M3 x1 x2 x3
    · refine rv_wk [true, true, true, true, false] ?_
      exact b12_answer_62 E M3 x1 x2 x3
set_option maxRecDepth 100000 in
theorem b12_answer_20 {p : Program} {l : Launch} {e : Env} {s : State} {m : MethodId} {args : Array Value} {below : List Frame} {meth : Method} {c : Code} {D : va_G} {cI cZ : ClassId} {ad : Nat → Nat} (E : rR_E D cI cZ ad cX12_answer 5 (some .int) p s m args meth c)   : ∀ (M : rv_Mem) (x1 : Int32) (x2 : Int32) (x3 : Bool), rv_M (rR_G D cI cZ ad) (rR_A ad) p l e rm12_answer s m args below meth c 0 0 (rR_qIW D cI cZ ad below args s) (f12_answer_20 M x1 x2 x3) 20 [some (.ref (ad 67)), some (.int x1), some (.int x2), some (.int (rv_i x3)), none] [.ref (ad 67)] M := by
  intro M x1 x2 x3
  unfold f12_answer_20
  refine rv_iconst (q := 21) E.x dX12_answer_20 rv_ki1 rfl ?_
  refine rv_wk [true, true, true, true, false] ?_
  exact b12_answer_21 E M x1 x2 x3 true
set_option maxRecDepth 100000 in
theorem b12_answer {p : Program} {l : Launch} {e : Env} {s : State} {m : MethodId} {args : Array Value} {below : List Frame} {meth : Method} {c : Code} {D : va_G} {cI cZ : ClassId} {ad : Nat → Nat} (E : rR_E D cI cZ ad cX12_answer 5 (some .int) p s m args meth c) (M : rv_Mem) (a1 : Int32) (a2 : Int32) (a3 : Bool) : rv_M (rR_G D cI cZ ad) (rR_A ad) p l e rm12_answer s m args below meth c 0 0  (rR_qIW D cI cZ ad below args s) (f12_answer M a1 a2 a3) 0 [some (.ref (ad 67)), some (.int a1), some (.int a2), some (.int (rv_i a3)), none] [] M := by
  unfold f12_answer
  refine rv_aload_n (q := 1) E.x dX12_answer_0 rfl rfl ?_
  refine rv_iload_n (q := 2) E.x dX12_answer_1 rfl rfl ?_
  refine rv_b1 (fun r2 e1 => ?_)
  refine rR_calls (q := 5) E (c12_isPerson e1) gX12_isPerson hX12_isPerson ⟨rfl, rfl⟩ ⟨Nat.le_of_ble_eq_true rfl, Nat.le_of_ble_eq_true rfl⟩ rfl rfl rfl (Nat.le_of_ble_eq_true rfl) dX12_answer_2 rfl ?_
  refine rv_ifz_eq (q := 8) (tgt := 20) E.x dX12_answer_5 (by decide) rfl ?_ ?_
  · refine rv_aload_n (q := 9) E.x dX12_answer_8 rfl rfl ?_
    refine rv_iload_n (q := 10) E.x dX12_answer_9 rfl rfl ?_
    refine rv_b1 (fun r4 e3 => ?_)
    refine rR_calli (q := 13) E (c12_isComment E.2.2.1 e3) gX12_isComment hX12_isComment ⟨rfl, rfl⟩ ⟨Nat.le_of_ble_eq_true rfl, Nat.le_of_ble_eq_true rfl⟩ rfl rfl rfl (Nat.le_of_ble_eq_true rfl) dX12_answer_10 rfl ?_
    refine rv_ifz_eq (q := 16) (tgt := 20) E.x dX12_answer_13 (by decide) rfl ?_ ?_
    · refine rv_iconst (q := 17) E.x dX12_answer_16 rv_ki0 rfl ?_
      refine rv_goto (q := 21) E.x dX12_answer_17 (by decide) ?_
      refine rv_wk [true, true, true, true, false] ?_
      exact b12_answer_21 E M a1 a2 a3 false
    · refine rv_wk [true, true, true, true, false] ?_
      exact b12_answer_20 E M a1 a2 a3
  · refine rv_wk [true, true, true, true, false] ?_
    exact b12_answer_20 E M a1 a2 a3
theorem c12_answer {l : Launch} {D : va_G} {cI cZ : ClassId} {ad : Nat → Nat} (hI : rR_I ad) {M : rv_Mem} {a1 : Int32} {a2 : Int32} {a3 : Bool} {r : Int32} {M1 : rv_Mem} (h : f12_answer M a1 a2 a3 = some (r, M1)) : Met l yX12_answer (rv_ws yX12_answer cX12_answer 5 (some .int)) rm12_answer (rR_Pc D cI cZ ad [.ref (ad 67), .int a1, .int a2, .int (rv_i a3)] M) (rR_QI D cI cZ ad r M1) 0 0 (rR_A ad) := rR_met hI rfl (rv_cat rfl) (Nat.le_of_ble_eq_true rfl) (fun p e s m args below meth c E => ⟨(rR_qIW D cI cZ ad below args s), rfl, b12_answer E M a1 a2 a3⟩) h
abbrev rm12_draftsOf : Room := { frames := 0, cells := 0, slots := 0, locals := 0 }
set_option maxRecDepth 100000 in
theorem b12_draftsOf_52 {p : Program} {l : Launch} {e : Env} {s : State} {m : MethodId} {args : Array Value} {below : List Frame} {meth : Method} {c : Code} {D : va_G} {cI cZ : ClassId} {ad : Nat → Nat} (E : rR_E D cI cZ ad cX12_draftsOf 5 (some .int) p s m args meth c) (M : rv_Mem) (k5 : Int32 → Int32 → Int32 → Int32 → Option (Int32)) (h5 : ∀ (x1 : Int32) (x2 : Int32) (x3 : Int32) (x4 : Int32), rv_M (rR_G D cI cZ ad) (rR_A ad) p l e rm12_draftsOf s m args below meth c 0 0 (rR_qI D cI cZ ad below args s M) (k5 x1 x2 x3 x4) 5 [some (.ref (ad 67)), some (.int x1), some (.int x2), some (.int x3), some (.int x4)] [] M) : ∀ (x1 : Int32) (x2 : Int32) (x4 : Int32) (s0 : Int32) (s1 : Bool), rv_M (rR_G D cI cZ ad) (rR_A ad) p l e rm12_draftsOf s m args below meth c 0 0 (rR_qI D cI cZ ad below args s M) (f12_draftsOf_52 M k5 x1 x2 x4 s0 s1) 52 [some (.ref (ad 67)), some (.int x1), some (.int x2), none, some (.int x4)] [.int (rv_i s1), .int s0] M := by
  intro x1 x2 x4 s0 s1
  unfold f12_draftsOf_52
  refine rv_iadd (q := 53) E.x dX12_draftsOf_52 rfl ?_
  refine rv_istore_n (q := 54) (lv' := [_, _, _, _, _]) E.x dX12_draftsOf_53 (Nat.le_of_ble_eq_true rfl) rfl rfl rfl ?_
  refine rv_iinc (q := 57) (lv' := [_, _, _, _, _]) E.x dX12_draftsOf_54 rv_ki1 rfl rfl rfl rfl ?_
  refine rv_goto (q := 5) E.x dX12_draftsOf_57 (by decide) ?_
  refine rv_wk [true, true, true, true, true] ?_
  exact h5 x1 x2 (s0 + (rv_i s1)) (x4 + 1)
set_option maxRecDepth 100000 in
theorem b12_draftsOf_51 {p : Program} {l : Launch} {e : Env} {s : State} {m : MethodId} {args : Array Value} {below : List Frame} {meth : Method} {c : Code} {D : va_G} {cI cZ : ClassId} {ad : Nat → Nat} (E : rR_E D cI cZ ad cX12_draftsOf 5 (some .int) p s m args meth c) (M : rv_Mem) (k5 : Int32 → Int32 → Int32 → Int32 → Option (Int32)) (h5 : ∀ (x1 : Int32) (x2 : Int32) (x3 : Int32) (x4 : Int32), rv_M (rR_G D cI cZ ad) (rR_A ad) p l e rm12_draftsOf s m args below meth c 0 0 (rR_qI D cI cZ ad below args s M) (k5 x1 x2 x3 x4) 5 [some (.ref (ad 67)), some (.int x1), some (.int x2), some (.int x3), some (.int x4)] [] M) : ∀ (x1 : Int32) (x2 : Int32) (x4 : Int32) (s0 : Int32), rv_M (rR_G D cI cZ ad) (rR_A ad) p l e rm12_draftsOf s m args below meth c 0 0 (rR_qI D cI cZ ad below args s M) (f12_draftsOf_51 M k5 x1 x2 x4 s0) 51 [some (.ref (ad 67)), some (.int x1), some (.int x2), none, some (.int x4)] [.int s0] M := by
  intro x1 x2 x4 s0
  unfold f12_draftsOf_51
  refine rv_iconst (q := 52) E.x dX12_draftsOf_51 rv_ki0 rfl ?_
  refine rv_wk [true, true, true, false, true] ?_
  exact b12_draftsOf_52 E M k5 h5 x1 x2 x4 s0 false
set_option maxRecDepth 100000 in
theorem b12_draftsOf_5_s {p : Program} {l : Launch} {e : Env} {s : State} {m : MethodId} {args : Array Value} {below : List Frame} {meth : Method} {c : Code} {D : va_G} {cI cZ : ClassId} {ad : Nat → Nat} (E : rR_E D cI cZ ad cX12_draftsOf 5 (some .int) p s m args meth c) (M : rv_Mem)   (k5 : Int32 → Int32 → Int32 → Int32 → Option (Int32)) (h5 : ∀ (x1 : Int32) (x2 : Int32) (x3 : Int32) (x4 : Int32), rv_M (rR_G D cI cZ ad) (rR_A ad) p l e rm12_draftsOf s m args below meth c 0 0 (rR_qI D cI cZ ad below args s M) (k5 x1 x2 x3 x4) 5 [some (.ref (ad 67)), some (.int x1), some (.int x2), some (.int x3), some (.int x4)] [] M) : ∀ (x1 : Int32) (x2 : Int32) (x3 : Int32) (x4 : Int32), rv_M (rR_G D cI cZ ad) (rR_A ad) p l e rm12_draftsOf s m args below meth c 0 0 (rR_qI D cI cZ ad below args s M) (f12_draftsOf_5_s M k5 x1 x2 x3 x4) 5 [some (.ref (ad 67)), some (.int x1), some (.int x2), some (.int x3), some (.int x4)] [] M := by
  intro x1 x2 x3 x4
  unfold f12_draftsOf_5_s
  refine rv_iload (q := 7) E.x dX12_draftsOf_5 rfl rfl ?_
  refine rv_aload_n (q := 8) E.x dX12_draftsOf_7 rfl rfl ?_
  refine rR_get (q := 11) E 24 wf12_24 rfl (Nat.le_of_ble_eq_true rfl) rfl dX12_draftsOf_8 rfl ?_
  refine rv_icmp_ge (q := 14) (tgt := 60) E.x dX12_draftsOf_11 (by decide) rfl ?_ ?_
  · refine rv_iload_n (q := 15) E.x dX12_draftsOf_14 rfl rfl ?_
    refine rv_aload_n (q := 16) E.x dX12_draftsOf_15 rfl rfl ?_
    refine rR_get (q := 19) E 26 wf12_26 rfl (Nat.le_of_ble_eq_true rfl) rfl dX12_draftsOf_16 rfl ?_
    refine rv_iload (q := 21) E.x dX12_draftsOf_19 rfl rfl ?_
    refine rR_iald (q := 22) (n := 60) E (Nat.le_of_ble_eq_true rfl) rfl rfl dX12_draftsOf_21 rfl ?_
    refine rv_iload_n (q := 23) E.x dX12_draftsOf_22 rfl rfl ?_
    refine rv_icmp_ne (q := 26) (tgt := 51) E.x dX12_draftsOf_23 (by decide) rfl ?_ ?_
    · refine rv_aload_n (q := 27) E.x dX12_draftsOf_26 rfl rfl ?_
      refine rR_get (q := 30) E 25 wf12_25 rfl (Nat.le_of_ble_eq_true rfl) rfl dX12_draftsOf_27 rfl ?_
      refine rv_iload (q := 32) E.x dX12_draftsOf_30 rfl rfl ?_
      refine rR_iald (q := 33) (n := 60) E (Nat.le_of_ble_eq_true rfl) rfl rfl dX12_draftsOf_32 rfl ?_
      refine rv_iload_n (q := 34) E.x dX12_draftsOf_33 rfl rfl ?_
      refine rv_icmp_ne (q := 37) (tgt := 51) E.x dX12_draftsOf_34 (by decide) rfl ?_ ?_
      · refine rv_aload_n (q := 38) E.x dX12_draftsOf_37 rfl rfl ?_
        refine rR_get (q := 41) E 32 wf12_32 rfl (Nat.le_of_ble_eq_true rfl) rfl dX12_draftsOf_38 rfl ?_
        refine rv_iload (q := 43) E.x dX12_draftsOf_41 rfl rfl ?_
        refine rR_zald (q := 44) (n := 60) E (Nat.le_of_ble_eq_true rfl) rfl rfl dX12_draftsOf_43 rfl ?_
        refine rv_ifz_eq (q := 47) (tgt := 51) E.x dX12_draftsOf_44 (by decide) rfl ?_ ?_
        · refine rv_iconst (q := 48) E.x dX12_draftsOf_47 rv_ki1 rfl ?_
          refine rv_goto (q := 52) E.x dX12_draftsOf_48 (by decide) ?_
          refine rv_wk [true, true, true, false, true] ?_
          exact b12_draftsOf_52 E M k5 h5 x1 x2 x4 x3 true
        · refine rv_wk [true, true, true, false, true] ?_
          exact b12_draftsOf_51 E M k5 h5 x1 x2 x4 x3
      · refine rv_wk [true, true, true, false, true] ?_
        exact b12_draftsOf_51 E M k5 h5 x1 x2 x4 x3
    · refine rv_wk [true, true, true, false, true] ?_
      exact b12_draftsOf_51 E M k5 h5 x1 x2 x4 x3
  · refine rv_iload_n (q := 61) E.x dX12_draftsOf_60 rfl rfl ?_
    exact rR_iret E rfl dX12_draftsOf_61
theorem b12_draftsOf_5 {p : Program} {l : Launch} {e : Env} {s : State} {m : MethodId} {args : Array Value} {below : List Frame} {meth : Method} {c : Code} {D : va_G} {cI cZ : ClassId} {ad : Nat → Nat} (E : rR_E D cI cZ ad cX12_draftsOf 5 (some .int) p s m args meth c) (M : rv_Mem)   : ∀ (n : Nat), ∀ (x1 : Int32) (x2 : Int32) (x3 : Int32) (x4 : Int32), rv_M (rR_G D cI cZ ad) (rR_A ad) p l e rm12_draftsOf s m args below meth c 0 0 (rR_qI D cI cZ ad below args s M) (f12_draftsOf_5 M n x1 x2 x3 x4) 5 [some (.ref (ad 67)), some (.int x1), some (.int x2), some (.int x3), some (.int x4)] [] M := by
  intro n
  induction n with
  | zero => exact fun _ _ _ _ => rv_stuck
  | succ n ih => exact b12_draftsOf_5_s E M (f12_draftsOf_5 M n) ih
set_option maxRecDepth 100000 in
theorem b12_draftsOf {p : Program} {l : Launch} {e : Env} {s : State} {m : MethodId} {args : Array Value} {below : List Frame} {meth : Method} {c : Code} {D : va_G} {cI cZ : ClassId} {ad : Nat → Nat} (E : rR_E D cI cZ ad cX12_draftsOf 5 (some .int) p s m args meth c) (M : rv_Mem) (a1 : Int32) (a2 : Int32) : rv_M (rR_G D cI cZ ad) (rR_A ad) p l e rm12_draftsOf s m args below meth c 0 0  (rR_qI D cI cZ ad below args s M) (f12_draftsOf M a1 a2) 0 [some (.ref (ad 67)), some (.int a1), some (.int a2), none, none] [] M := by
  unfold f12_draftsOf
  refine rv_iconst (q := 1) E.x dX12_draftsOf_0 rv_ki0 rfl ?_
  refine rv_istore_n (q := 2) (lv' := [_, _, _, _, _]) E.x dX12_draftsOf_1 (Nat.le_of_ble_eq_true rfl) rfl rfl rfl ?_
  refine rv_iconst (q := 3) E.x dX12_draftsOf_2 rv_ki0 rfl ?_
  refine rv_istore (q := 5) (lv' := [_, _, _, _, _]) E.x dX12_draftsOf_3 (Nat.le_of_ble_eq_true rfl) rfl rfl rfl ?_
  refine rv_wk [true, true, true, true, true] ?_
  exact b12_draftsOf_5 E M rv_FU a1 a2 0 0
theorem c12_draftsOf {l : Launch} {D : va_G} {cI cZ : ClassId} {ad : Nat → Nat} (hI : rR_I ad) {M : rv_Mem} {a1 : Int32} {a2 : Int32} {r : Int32} (h : f12_draftsOf M a1 a2 = some r) : Met l yX12_draftsOf (rv_ws yX12_draftsOf cX12_draftsOf 5 (some .int)) rm12_draftsOf (rR_Pc D cI cZ ad [.ref (ad 67), .int a1, .int a2] M) (rR_QI D cI cZ ad r M) 0 0 (rR_A ad) := rR_met hI rfl (rv_cat rfl) (Nat.le_of_ble_eq_true rfl) (fun p e s m args below meth c E => ⟨(rR_qI D cI cZ ad below args s M), rfl, b12_draftsOf E M a1 a2⟩) h
