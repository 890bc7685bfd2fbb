abbrev rm12_addRule : Room := { frames := 2, cells := 0, slots := 0, locals := 50 }
set_option maxRecDepth 100000 in
theorem b12_addRule_154 {p : Program} {l : Launch} {e : Env} {s : State} {m : MethodId} {args : Array Value} {below : List Frame} {meth : Method} {c : Code} {D : va_G} {cI cZ : ClassId} {ad : Nat → Nat} (E : rR_E D cI cZ ad cX12_addRule 5 (some .int) p s m args meth c)   : ∀ (M : rv_Mem) (s1 : Int32), rv_M (rR_G D cI cZ ad) (rR_A ad) p l e rm12_addRule s m args below meth c 0 0 (rR_qIW D cI cZ ad below args s) (f12_addRule_154 M s1) 154 [some (.ref (ad 67)), none, none, none, none] [.int s1, .ref (ad 67)] M := by
  intro M s1
  unfold f12_addRule_154
  refine rv_b2 (fun r2 M3 e1 => ?_)
  refine rR_calli (q := 157) E (c12_goes E.2.2.1 e1) gX12_goes hX12_goes ⟨rfl, rfl⟩ ⟨Nat.le_of_ble_eq_true rfl, Nat.le_of_ble_eq_true rfl⟩ rfl rfl rfl (Nat.le_of_ble_eq_true rfl) dX12_addRule_154 rfl ?_
  refine rv_ifz_eq (q := 160) (tgt := 169) E.x dX12_addRule_157 (by decide) rfl ?_ ?_
  · refine rv_aload_n (q := 161) E.x dX12_addRule_160 rfl rfl ?_
    refine rR_get (q := 164) E 45 wf12_45 rfl (Nat.le_of_ble_eq_true rfl) rfl dX12_addRule_161 rfl ?_
    refine rv_iconst (q := 165) E.x dX12_addRule_164 rv_ki1 rfl ?_
    refine rv_isub (q := 166) E.x dX12_addRule_165 rfl ?_
    refine rv_goto (q := 170) E.x dX12_addRule_166 (by decide) ?_
    exact rR_iret E rfl dX12_addRule_170
  · refine rv_iconst (q := 170) E.x dX12_addRule_169 rv_ki0 rfl ?_
    exact rR_iret E rfl dX12_addRule_170
set_option maxRecDepth 100000 in
theorem b12_addRule_139 {p : Program} {l : Launch} {e : Env} {s : State} {m : MethodId} {args : Array Value} {below : List Frame} {meth : Method} {c : Code} {D : va_G} {cI cZ : ClassId} {ad : Nat → Nat} (E : rR_E D cI cZ ad cX12_addRule 5 (some .int) p s m args meth c)   : ∀ (M : rv_Mem) (x4 : Bool) (s1 : Int32) (s2 : Bool), rv_M (rR_G D cI cZ ad) (rR_A ad) p l e rm12_addRule s m args below meth c 0 0 (rR_qIW D cI cZ ad below args s) (f12_addRule_139 M x4 s1 s2) 139 [some (.ref (ad 67)), none, none, none, some (.int (rv_i x4))] [.int (rv_i s2), .int s1, .ref (ad 67)] M := by
  intro M x4 s1 s2
  unfold f12_addRule_139
  refine rv_isub (q := 140) E.x dX12_addRule_139 rfl ?_
  refine rR_put (q := 143) E 45 wf12_45 rfl (Nat.le_of_ble_eq_true rfl) rfl rfl rfl dX12_addRule_140 rfl ?_
  refine rv_ltm (fun M1 => ?_)
  refine rv_aload_n (q := 144) E.x dX12_addRule_143 rfl rfl ?_
  refine rv_iload (q := 146) E.x dX12_addRule_144 rfl rfl ?_
  refine rv_ifz_eq (q := 149) (tgt := 153) E.x dX12_addRule_146 (by decide) rfl ?_ ?_
  · refine rv_iconst (q := 150) E.x dX12_addRule_149 rv_ki0 rfl ?_
    refine rv_goto (q := 154) E.x dX12_addRule_150 (by decide) ?_
    refine rv_wk [true, false, false, false, false] ?_
    exact b12_addRule_154 E M1 0
  · refine rv_iconst (q := 154) E.x dX12_addRule_153 rv_ki2 rfl ?_
    refine rv_wk [true, false, false, false, false] ?_
    exact b12_addRule_154 E M1 2
set_option maxRecDepth 100000 in
theorem b12_addRule_60 {p : Program} {l : Launch} {e : Env} {s : State} {m : MethodId} {args : Array Value} {below : List Frame} {meth : Method} {c : Code} {D : va_G} {cI cZ : ClassId} {ad : Nat → Nat} (E : rR_E D cI cZ ad cX12_addRule 5 (some .int) p s m args meth c)   : ∀ (M : rv_Mem) (x1 : Int32) (x2 : Int32) (x3 : Int32) (s1 : Int32), rv_M (rR_G D cI cZ ad) (rR_A ad) p l e rm12_addRule s m args below meth c 0 0 (rR_qIW D cI cZ ad below args s) (f12_addRule_60 M x1 x2 x3 s1) 60 [some (.ref (ad 67)), some (.int x1), some (.int x2), some (.int x3), none] [.int s1, .ref (ad 67)] M := by
  intro M x1 x2 x3 s1
  unfold f12_addRule_60
  refine rv_b2 (fun r2 M3 e1 => ?_)
  refine rR_calli (q := 63) E (c12_goes E.2.2.1 e1) gX12_goes hX12_goes ⟨rfl, rfl⟩ ⟨Nat.le_of_ble_eq_true rfl, Nat.le_of_ble_eq_true rfl⟩ rfl rfl rfl (Nat.le_of_ble_eq_true rfl) dX12_addRule_60 rfl ?_
  refine rv_ifz_ne (q := 66) (tgt := 68) E.x dX12_addRule_63 (by decide) rfl ?_ ?_
  · refine rv_iconst (q := 67) E.x dX12_addRule_66 rv_ki0 rfl ?_
    exact rR_iret E rfl dX12_addRule_67
  · refine rv_aload_n (q := 69) E.x dX12_addRule_68 rfl rfl ?_
    refine rR_get (q := 72) E 46 wf12_46 rfl (Nat.le_of_ble_eq_true rfl) rfl dX12_addRule_69 rfl ?_
    refine rv_aload_n (q := 73) E.x dX12_addRule_72 rfl rfl ?_
    refine rR_get (q := 76) E 45 wf12_45 rfl (Nat.le_of_ble_eq_true rfl) rfl dX12_addRule_73 rfl ?_
    refine rv_iload_n (q := 77) E.x dX12_addRule_76 rfl rfl ?_
    refine rR_iast (q := 78) (n := 20) E (Nat.le_of_ble_eq_true rfl) rfl rfl dX12_addRule_77 rfl ?_
    refine rv_ltm (fun M4 => ?_)
    refine rv_aload_n (q := 79) E.x dX12_addRule_78 rfl rfl ?_
    refine rR_get (q := 82) E 47 wf12_47 rfl (Nat.le_of_ble_eq_true rfl) rfl dX12_addRule_79 rfl ?_
    refine rv_aload_n (q := 83) E.x dX12_addRule_82 rfl rfl ?_
    refine rR_get (q := 86) E 45 wf12_45 rfl (Nat.le_of_ble_eq_true rfl) rfl dX12_addRule_83 rfl ?_
    refine rv_iload_n (q := 87) E.x dX12_addRule_86 rfl rfl ?_
    refine rR_iast (q := 88) (n := 20) E (Nat.le_of_ble_eq_true rfl) rfl rfl dX12_addRule_87 rfl ?_
    refine rv_ltm (fun M5 => ?_)
    refine rv_aload_n (q := 89) E.x dX12_addRule_88 rfl rfl ?_
    refine rR_get (q := 92) E 48 wf12_48 rfl (Nat.le_of_ble_eq_true rfl) rfl dX12_addRule_89 rfl ?_
    refine rv_aload_n (q := 93) E.x dX12_addRule_92 rfl rfl ?_
    refine rR_get (q := 96) E 45 wf12_45 rfl (Nat.le_of_ble_eq_true rfl) rfl dX12_addRule_93 rfl ?_
    refine rv_iload_n (q := 97) E.x dX12_addRule_96 rfl rfl ?_
    refine rR_iast (q := 98) (n := 20) E (Nat.le_of_ble_eq_true rfl) rfl rfl dX12_addRule_97 rfl ?_
    refine rv_ltm (fun M6 => ?_)
    refine rv_aload_n (q := 99) E.x dX12_addRule_98 rfl rfl ?_
    refine rR_get (q := 102) E 49 wf12_49 rfl (Nat.le_of_ble_eq_true rfl) rfl dX12_addRule_99 rfl ?_
    refine rv_aload_n (q := 103) E.x dX12_addRule_102 rfl rfl ?_
    refine rR_get (q := 106) E 45 wf12_45 rfl (Nat.le_of_ble_eq_true rfl) rfl dX12_addRule_103 rfl ?_
    refine rv_iconst (q := 107) E.x dX12_addRule_106 rv_ki0 rfl ?_
    refine rR_zast (q := 108) (n := 20) E false (Nat.le_of_ble_eq_true rfl) rfl rfl dX12_addRule_107 rfl ?_
    refine rv_ltm (fun M7 => ?_)
    refine rv_aload_n (q := 109) E.x dX12_addRule_108 rfl rfl ?_
    refine rv_dup (q := 110) E.x dX12_addRule_109 rfl rfl ?_
    refine rR_get (q := 113) E 45 wf12_45 rfl (Nat.le_of_ble_eq_true rfl) rfl dX12_addRule_110 rfl ?_
    refine rv_iconst (q := 114) E.x dX12_addRule_113 rv_ki1 rfl ?_
    refine rv_iadd (q := 115) E.x dX12_addRule_114 rfl ?_
    refine rR_put (q := 118) E 45 wf12_45 rfl (Nat.le_of_ble_eq_true rfl) rfl rfl rfl dX12_addRule_115 rfl ?_
    refine rv_ltm (fun M8 => ?_)
    refine rv_aload_n (q := 119) E.x dX12_addRule_118 rfl rfl ?_
    refine rv_b2 (fun r10 M11 e9 => ?_)
    refine rR_calli (q := 122) E (c12_laysHeights E.2.2.1 e9) gX12_laysHeights hX12_laysHeights ⟨rfl, rfl⟩ ⟨Nat.le_of_ble_eq_true rfl, Nat.le_of_ble_eq_true rfl⟩ rfl rfl rfl (Nat.le_of_ble_eq_true rfl) dX12_addRule_119 rfl ?_
    refine rv_istore (q := 124) (lv' := [_, _, _, _, _]) E.x dX12_addRule_122 (Nat.le_of_ble_eq_true rfl) rfl rfl rfl ?_
    refine rv_aload_n (q := 125) E.x dX12_addRule_124 rfl rfl ?_
    refine rv_dup (q := 126) E.x dX12_addRule_125 rfl rfl ?_
    refine rR_get (q := 129) E 45 wf12_45 rfl (Nat.le_of_ble_eq_true rfl) rfl dX12_addRule_126 rfl ?_
    refine rv_iload (q := 131) E.x dX12_addRule_129 rfl rfl ?_
    refine rv_ifz_eq (q := 134) (tgt := 138) E.x dX12_addRule_131 (by decide) rfl ?_ ?_
    · refine rv_iconst (q := 135) E.x dX12_addRule_134 rv_ki0 rfl ?_
      refine rv_goto (q := 139) E.x dX12_addRule_135 (by decide) ?_
      refine rv_wk [true, false, false, false, true] ?_
      exact b12_addRule_139 E M11 r10 (M11 45 0) false
    · refine rv_iconst (q := 139) E.x dX12_addRule_138 rv_ki1 rfl ?_
      refine rv_wk [true, false, false, false, true] ?_
      exact b12_addRule_139 E M11 r10 (M11 45 0) true
set_option maxRecDepth 100000 in
theorem b12_addRule_39 {p : Program} {l : Launch} {e : Env} {s : State} {m : MethodId} {args : Array Value} {below : List Frame} {meth : Method} {c : Code} {D : va_G} {cI cZ : ClassId} {ad : Nat → Nat} (E : rR_E D cI cZ ad cX12_addRule 5 (some .int) p s m args meth c)   : ∀ (M : rv_Mem) (x1 : Int32) (x2 : Int32) (x3 : Int32) (s1 : Bool), rv_M (rR_G D cI cZ ad) (rR_A ad) p l e rm12_addRule s m args below meth c 0 0 (rR_qIW D cI cZ ad below args s) (f12_addRule_39 M x1 x2 x3 s1) 39 [some (.ref (ad 67)), some (.int x1), some (.int x2), some (.int x3), none] [.int (rv_i s1), .ref (ad 67)] M := by
  intro M x1 x2 x3 s1
  unfold f12_addRule_39
  refine rv_b2 (fun r2 M3 e1 => ?_)
  refine rR_calli (q := 42) E (c12_goes E.2.2.1 e1) gX12_goes hX12_goes ⟨rfl, rfl⟩ ⟨Nat.le_of_ble_eq_true rfl, Nat.le_of_ble_eq_true rfl⟩ rfl rfl rfl (Nat.le_of_ble_eq_true rfl) dX12_addRule_39 rfl ?_
  refine rv_ifz_eq (q := 45) (tgt := 66) E.x dX12_addRule_42 (by decide) rfl ?_ ?_
  · refine rv_aload_n (q := 46) E.x dX12_addRule_45 rfl rfl ?_
    refine rv_aload_n (q := 47) E.x dX12_addRule_46 rfl rfl ?_
    refine rR_get (q := 50) E 45 wf12_45 rfl (Nat.le_of_ble_eq_true rfl) rfl dX12_addRule_47 rfl ?_
    refine rv_bipush (q := 52) E.x dX12_addRule_50 rv_kb20 rfl ?_
    refine rv_icmp_ne (q := 55) (tgt := 59) E.x dX12_addRule_52 (by decide) rfl ?_ ?_
    · refine rv_iconst (q := 56) E.x dX12_addRule_55 rv_ki2 rfl ?_
      refine rv_goto (q := 60) E.x dX12_addRule_56 (by decide) ?_
      refine rv_wk [true, true, true, true, false] ?_
      exact b12_addRule_60 E M3 x1 x2 x3 2
    · refine rv_iconst (q := 60) E.x dX12_addRule_59 rv_ki0 rfl ?_
      refine rv_wk [true, true, true, true, false] ?_
      exact b12_addRule_60 E M3 x1 x2 x3 0
  · refine rv_iconst (q := 67) E.x dX12_addRule_66 rv_ki0 rfl ?_
    exact rR_iret E rfl dX12_addRule_67
set_option maxRecDepth 100000 in
theorem b12_addRule_38 {p : Program} {l : Launch} {e : Env} {s : State} {m : MethodId} {args : Array Value} {below : List Frame} {meth : Method} {c : Code} {D : va_G} {cI cZ : ClassId} {ad : Nat → Nat} (E : rR_E D cI cZ ad cX12_addRule 5 (some .int) p s m args meth c)   : ∀ (M : rv_Mem) (x1 : Int32) (x2 : Int32) (x3 : Int32), rv_M (rR_G D cI cZ ad) (rR_A ad) p l e rm12_addRule s m args below meth c 0 0 (rR_qIW D cI cZ ad below args s) (f12_addRule_38 M x1 x2 x3) 38 [some (.ref (ad 67)), some (.int x1), some (.int x2), some (.int x3), none] [.ref (ad 67)] M := by
  intro M x1 x2 x3
  unfold f12_addRule_38
  refine rv_iconst (q := 39) E.x dX12_addRule_38 rv_ki1 rfl ?_
  refine rv_wk [true, true, true, true, false] ?_
  exact b12_addRule_39 E M x1 x2 x3 true
set_option maxRecDepth 100000 in
theorem b12_addRule {p : Program} {l : Launch} {e : Env} {s : State} {m : MethodId} {args : Array Value} {below : List Frame} {meth : Method} {c : Code} {D : va_G} {cI cZ : ClassId} {ad : Nat → Nat} (E : rR_E D cI cZ ad cX12_addRule 5 (some .int) p s m args meth c) (M : rv_Mem) (a1 : Int32) (a2 : Int32) (a3 : Int32) : rv_M (rR_G D cI cZ ad) (rR_A ad) p l e rm12_addRule s m args below meth c 0 0  (rR_qIW D cI cZ ad below args s) (f12_addRule M a1 a2 a3) 0 [some (.ref (ad 67)), some (.int a1), some (.int a2), some (.int a3), none] [] M := by
  unfold f12_addRule
  refine rv_aload_n (q := 1) E.x dX12_addRule_0 rfl rfl ?_
  refine rv_iload_n (q := 2) E.x dX12_addRule_1 rfl rfl ?_
  refine rv_bipush (q := 4) E.x dX12_addRule_2 rv_kb8 rfl ?_
  refine rv_bipush (q := 6) E.x dX12_addRule_4 rv_kb15 rfl ?_
  refine rv_b1 (fun r2 e1 => ?_)
  refine rR_calls (q := 9) E (c12_isIn e1) gX12_isIn hX12_isIn ⟨rfl, rfl⟩ ⟨Nat.le_of_ble_eq_true rfl, Nat.le_of_ble_eq_true rfl⟩ rfl rfl rfl (Nat.le_of_ble_eq_true rfl) dX12_addRule_6 rfl ?_
  refine rv_ifz_eq (q := 12) (tgt := 38) E.x dX12_addRule_9 (by decide) rfl ?_ ?_
  · refine rv_iload_n (q := 13) E.x dX12_addRule_12 rfl rfl ?_
    refine rv_iconst (q := 14) E.x dX12_addRule_13 rv_ki0 rfl ?_
    refine rR_ldcw (q := 17) E wk12_489 dX12_addRule_14 rfl ?_
    refine rv_b1 (fun r4 e3 => ?_)
    refine rR_calls (q := 20) E (c12_isIn e3) gX12_isIn hX12_isIn ⟨rfl, rfl⟩ ⟨Nat.le_of_ble_eq_true rfl, Nat.le_of_ble_eq_true rfl⟩ rfl rfl rfl (Nat.le_of_ble_eq_true rfl) dX12_addRule_17 rfl ?_
    refine rv_ifz_eq (q := 23) (tgt := 38) E.x dX12_addRule_20 (by decide) rfl ?_ ?_
    · refine rv_iload_n (q := 24) E.x dX12_addRule_23 rfl rfl ?_
      refine rv_iconst (q := 25) E.x dX12_addRule_24 rv_ki0 rfl ?_
      refine rR_ldcw (q := 28) E wk12_489 dX12_addRule_25 rfl ?_
      refine rv_b1 (fun r6 e5 => ?_)
      refine rR_calls (q := 31) E (c12_isIn e5) gX12_isIn hX12_isIn ⟨rfl, rfl⟩ ⟨Nat.le_of_ble_eq_true rfl, Nat.le_of_ble_eq_true rfl⟩ rfl rfl rfl (Nat.le_of_ble_eq_true rfl) dX12_addRule_28 rfl ?_
      refine rv_ifz_eq (q := 34) (tgt := 38) E.x dX12_addRule_31 (by decide) rfl ?_ ?_
      · refine rv_iconst (q := 35) E.x dX12_addRule_34 rv_ki0 rfl ?_
        refine rv_goto (q := 39) E.x dX12_addRule_35 (by decide) ?_
        refine rv_wk [true, true, true, true, false] ?_
        exact b12_addRule_39 E M a1 a2 a3 false
      · refine rv_wk [true, true, true, true, false] ?_
        exact b12_addRule_38 E M a1 a2 a3
    · refine rv_wk [true, true, true, true, false] ?_
      exact b12_addRule_38 E M a1 a2 a3
  · refine rv_wk [true, true, true, true, false] ?_
    exact b12_addRule_38 E M a1 a2 a3
theorem c12_addRule {l : Launch} {D : va_G} {cI cZ : ClassId} {ad : Nat → Nat} (hI : rR_I ad) {M : rv_Mem} {a1 : Int32} {a2 : Int32} {a3 : Int32} {r : Int32} {M1 : rv_Mem} (h : f12_addRule M a1 a2 a3 = some (r, M1)) : Met l yX12_addRule (rv_ws yX12_addRule cX12_addRule 5 (some .int)) rm12_addRule (rR_Pc D cI cZ ad [.ref (ad 67), .int a1, .int a2, .int a3] M) (rR_QI D cI cZ ad r M1) 0 0 (rR_A ad) := rR_met hI rfl (rv_cat rfl) (Nat.le_of_ble_eq_true rfl) (fun p e s m args below meth c E => ⟨(rR_qIW D cI cZ ad below args s), rfl, b12_addRule E M a1 a2 a3⟩) h
abbrev rm12_dropRule : Room := { frames := 1, cells := 0, slots := 0, locals := 22 }
set_option maxRecDepth 100000 in
theorem b12_dropRule_41 {p : Program} {l : Launch} {e : Env} {s : State} {m : MethodId} {args : Array Value} {below : List Frame} {meth : Method} {c : Code} {D : va_G} {cI cZ : ClassId} {ad : Nat → Nat} (E : rR_E D cI cZ ad cX12_dropRule 2 (some .int) p s m args meth c)   : ∀ (M : rv_Mem) (x1 : Int32) (s1 : Bool), rv_M (rR_G D cI cZ ad) (rR_A ad) p l e rm12_dropRule s m args below meth c 0 0 (rR_qIW D cI cZ ad below args s) (f12_dropRule_41 M x1 s1) 41 [some (.ref (ad 67)), some (.int x1)] [.int (rv_i s1), .ref (ad 67)] M := by
  intro M x1 s1
  unfold f12_dropRule_41
  refine rv_b2 (fun r2 M3 e1 => ?_)
  refine rR_calli (q := 44) E (c12_goes E.2.2.1 e1) gX12_goes hX12_goes ⟨rfl, rfl⟩ ⟨Nat.le_of_ble_eq_true rfl, Nat.le_of_ble_eq_true rfl⟩ rfl rfl rfl (Nat.le_of_ble_eq_true rfl) dX12_dropRule_41 rfl ?_
  refine rv_ifz_ne (q := 47) (tgt := 49) E.x dX12_dropRule_44 (by decide) rfl ?_ ?_
  · refine rv_iconst (q := 48) E.x dX12_dropRule_47 rv_ki0 rfl ?_
    exact rR_iret E rfl dX12_dropRule_48
  · refine rv_aload_n (q := 50) E.x dX12_dropRule_49 rfl rfl ?_
    refine rR_get (q := 53) E 49 wf12_49 rfl (Nat.le_of_ble_eq_true rfl) rfl dX12_dropRule_50 rfl ?_
    refine rv_iload_n (q := 54) E.x dX12_dropRule_53 rfl rfl ?_
    refine rv_iconst (q := 55) E.x dX12_dropRule_54 rv_ki1 rfl ?_
    refine rR_zast (q := 56) (n := 20) E true (Nat.le_of_ble_eq_true rfl) rfl rfl dX12_dropRule_55 rfl ?_
    refine rv_ltm (fun M4 => ?_)
    refine rv_aload_n (q := 57) E.x dX12_dropRule_56 rfl rfl ?_
    refine rR_get (q := 60) E 46 wf12_46 rfl (Nat.le_of_ble_eq_true rfl) rfl dX12_dropRule_57 rfl ?_
    refine rv_iload_n (q := 61) E.x dX12_dropRule_60 rfl rfl ?_
    refine rR_iald (q := 62) (n := 20) E (Nat.le_of_ble_eq_true rfl) rfl rfl dX12_dropRule_61 rfl ?_
    exact rR_iret E rfl dX12_dropRule_62
set_option maxRecDepth 100000 in
theorem b12_dropRule_20 {p : Program} {l : Launch} {e : Env} {s : State} {m : MethodId} {args : Array Value} {below : List Frame} {meth : Method} {c : Code} {D : va_G} {cI cZ : ClassId} {ad : Nat → Nat} (E : rR_E D cI cZ ad cX12_dropRule 2 (some .int) p s m args meth c)   : ∀ (M : rv_Mem) (x1 : Int32) (s1 : Bool), rv_M (rR_G D cI cZ ad) (rR_A ad) p l e rm12_dropRule s m args below meth c 0 0 (rR_qIW D cI cZ ad below args s) (f12_dropRule_20 M x1 s1) 20 [some (.ref (ad 67)), some (.int x1)] [.int (rv_i s1), .ref (ad 67)] M := by
  intro M x1 s1
  unfold f12_dropRule_20
  refine rv_b2 (fun r2 M3 e1 => ?_)
  refine rR_calli (q := 23) E (c12_goes E.2.2.1 e1) gX12_goes hX12_goes ⟨rfl, rfl⟩ ⟨Nat.le_of_ble_eq_true rfl, Nat.le_of_ble_eq_true rfl⟩ rfl rfl rfl (Nat.le_of_ble_eq_true rfl) dX12_dropRule_20 rfl ?_
  refine rv_ifz_eq (q := 26) (tgt := 47) E.x dX12_dropRule_23 (by decide) rfl ?_ ?_
  · refine rv_aload_n (q := 27) E.x dX12_dropRule_26 rfl rfl ?_
    refine rv_aload_n (q := 28) E.x dX12_dropRule_27 rfl rfl ?_
    refine rR_get (q := 31) E 49 wf12_49 rfl (Nat.le_of_ble_eq_true rfl) rfl dX12_dropRule_28 rfl ?_
    refine rv_iload_n (q := 32) E.x dX12_dropRule_31 rfl rfl ?_
    refine rR_zald (q := 33) (n := 20) E (Nat.le_of_ble_eq_true rfl) rfl rfl dX12_dropRule_32 rfl ?_
    refine rv_ifz_eq (q := 36) (tgt := 40) E.x dX12_dropRule_33 (by decide) rfl ?_ ?_
    · refine rv_iconst (q := 37) E.x dX12_dropRule_36 rv_ki1 rfl ?_
      refine rv_goto (q := 41) E.x dX12_dropRule_37 (by decide) ?_
      refine rv_wk [true, true] ?_
      exact b12_dropRule_41 E M3 x1 true
    · refine rv_iconst (q := 41) E.x dX12_dropRule_40 rv_ki0 rfl ?_
      refine rv_wk [true, true] ?_
      exact b12_dropRule_41 E M3 x1 false
  · refine rv_iconst (q := 48) E.x dX12_dropRule_47 rv_ki0 rfl ?_
    exact rR_iret E rfl dX12_dropRule_48
set_option maxRecDepth 100000 in
theorem b12_dropRule {p : Program} {l : Launch} {e : Env} {s : State} {m : MethodId} {args : Array Value} {below : List Frame} {meth : Method} {c : Code} {D : va_G} {cI cZ : ClassId} {ad : Nat → Nat} (E : rR_E D cI cZ ad cX12_dropRule 2 (some .int) p s m args meth c) (M : rv_Mem) (a1 : Int32) : rv_M (rR_G D cI cZ ad) (rR_A ad) p l e rm12_dropRule s m args below meth c 0 0  (rR_qIW D cI cZ ad below args s) (f12_dropRule M a1) 0 [some (.ref (ad 67)), some (.int a1)] [] M := by
  unfold f12_dropRule
  refine rv_aload_n (q := 1) E.x dX12_dropRule_0 rfl rfl ?_
  refine rv_iload_n (q := 2) E.x dX12_dropRule_1 rfl rfl ?_
  refine rv_iconst (q := 3) E.x dX12_dropRule_2 rv_ki0 rfl ?_
  refine rv_aload_n (q := 4) E.x dX12_dropRule_3 rfl rfl ?_
  refine rR_get (q := 7) E 45 wf12_45 rfl (Nat.le_of_ble_eq_true rfl) rfl dX12_dropRule_4 rfl ?_
  refine rv_iconst (q := 8) E.x dX12_dropRule_7 rv_ki1 rfl ?_
  refine rv_isub (q := 9) E.x dX12_dropRule_8 rfl ?_
  refine rv_b1 (fun r2 e1 => ?_)
  refine rR_calls (q := 12) E (c12_isIn e1) gX12_isIn hX12_isIn ⟨rfl, rfl⟩ ⟨Nat.le_of_ble_eq_true rfl, Nat.le_of_ble_eq_true rfl⟩ rfl rfl rfl (Nat.le_of_ble_eq_true rfl) dX12_dropRule_9 rfl ?_
  refine rv_ifz_eq (q := 15) (tgt := 19) E.x dX12_dropRule_12 (by decide) rfl ?_ ?_
  · refine rv_iconst (q := 16) E.x dX12_dropRule_15 rv_ki0 rfl ?_
    refine rv_goto (q := 20) E.x dX12_dropRule_16 (by decide) ?_
    refine rv_wk [true, true] ?_
    exact b12_dropRule_20 E M a1 false
  · refine rv_iconst (q := 20) E.x dX12_dropRule_19 rv_ki1 rfl ?_
    refine rv_wk [true, true] ?_
    exact b12_dropRule_20 E M a1 true
theorem c12_dropRule {l : Launch} {D : va_G} {cI cZ : ClassId} {ad : Nat → Nat} (hI : rR_I ad) {M : rv_Mem} {a1 : Int32} {r : Int32} {M1 : rv_Mem} (h : f12_dropRule M a1 = some (r, M1)) : Met l yX12_dropRule (rv_ws yX12_dropRule cX12_dropRule 2 (some .int)) rm12_dropRule (rR_Pc D cI cZ ad [.ref (ad 67), .int a1] M) (rR_QI D cI cZ ad r M1) 0 0 (rR_A ad) := rR_met hI rfl (rv_cat rfl) (Nat.le_of_ble_eq_true rfl) (fun p e s m args below meth c E => ⟨(rR_qIW D cI cZ ad below args s), rfl, b12_dropRule E M a1⟩) h
abbrev rm12_statements : Room := { frames := 9, cells := 0, slots := 0, locals := 239 }
set_option maxRecDepth 100000 in
theorem b12_statements {p : Program} {l : Launch} {e : Env} {s : State} {m : MethodId} {args : Array Value} {below : List Frame} {meth : Method} {c : Code} {D : va_G} {cI cZ : ClassId} {ad : Nat → Nat} (E : rR_E D cI cZ ad cX12_statements 2 (some .int) p s m args meth c) (M : rv_Mem) (a1 : Int32) : rv_M (rR_G D cI cZ ad) (rR_A ad) p l e rm12_statements s m args below meth c 0 0  (rR_qIW D cI cZ ad below args s) (f12_statements M a1) 0 [some (.ref (ad 67)), some (.int a1)] [] M := by
  unfold f12_statements
  refine rv_aload_n (q := 1) E.x dX12_statements_0 rfl rfl ?_
  refine rv_iload_n (q := 2) E.x dX12_statements_1 rfl rfl ?_
  refine rv_b2 (fun r2 M3 e1 => ?_)
  refine rR_calli (q := 5) E (c12_asks E.2.2.1 e1) gX12_asks hX12_asks ⟨rfl, rfl⟩ ⟨Nat.le_of_ble_eq_true rfl, Nat.le_of_ble_eq_true rfl⟩ rfl rfl rfl (Nat.le_of_ble_eq_true rfl) dX12_statements_2 rfl ?_
  refine rv_ifz_eq (q := 8) (tgt := 21) E.x dX12_statements_5 (by decide) rfl ?_ ?_
  · refine rv_aload_n (q := 9) E.x dX12_statements_8 rfl rfl ?_
    refine rv_aload_n (q := 10) E.x dX12_statements_9 rfl rfl ?_
    refine rv_iload_n (q := 11) E.x dX12_statements_10 rfl rfl ?_
    refine rv_iconst (q := 12) E.x dX12_statements_11 rv_ki0 rfl ?_
    refine rv_b2 (fun r5 M6 e4 => ?_)
    refine rR_calli (q := 15) E (c12_factsOf E.2.2.1 e4) gX12_factsOf hX12_factsOf ⟨rfl, rfl⟩ ⟨Nat.le_of_ble_eq_true rfl, Nat.le_of_ble_eq_true rfl⟩ rfl rfl rfl (Nat.le_of_ble_eq_true rfl) dX12_statements_12 rfl ?_
    refine rv_b2 (fun r8 M9 e7 => ?_)
    refine rR_calli (q := 18) E (c12_holding E.2.2.1 e7) gX12_holding hX12_holding ⟨rfl, rfl⟩ ⟨Nat.le_of_ble_eq_true rfl, Nat.le_of_ble_eq_true rfl⟩ rfl rfl rfl (Nat.le_of_ble_eq_true rfl) dX12_statements_15 rfl ?_
    refine rv_goto (q := 22) E.x dX12_statements_18 (by decide) ?_
    exact rR_iret E rfl dX12_statements_22
  · refine rv_iconst (q := 22) E.x dX12_statements_21 rv_ki0 rfl ?_
    exact rR_iret E rfl dX12_statements_22
theorem c12_statements {l : Launch} {D : va_G} {cI cZ : ClassId} {ad : Nat → Nat} (hI : rR_I ad) {M : rv_Mem} {a1 : Int32} {r : Int32} {M1 : rv_Mem} (h : f12_statements M a1 = some (r, M1)) : Met l yX12_statements (rv_ws yX12_statements cX12_statements 2 (some .int)) rm12_statements (rR_Pc D cI cZ ad [.ref (ad 67), .int a1] M) (rR_QI D cI cZ ad r M1) 0 0 (rR_A ad) := rR_met hI rfl (rv_cat rfl) (Nat.le_of_ble_eq_true rfl) (fun p e s m args below meth c E => ⟨(rR_qIW D cI cZ ad below args s), rfl, b12_statements E M a1⟩) h
abbrev rm12_lacks : Room := { frames := 10, cells := 0, slots := 0, locals := 264 }
set_option maxRecDepth 100000 in
theorem b12_lacks {p : Program} {l : Launch} {e : Env} {s : State} {m : MethodId} {args : Array Value} {below : List Frame} {meth : Method} {c : Code} {D : va_G} {cI cZ : ClassId} {ad : Nat → Nat} (E : rR_E D cI cZ ad cX12_lacks 2 (some .int) p s m args meth c) (M : rv_Mem) (a1 : Int32) : rv_M (rR_G D cI cZ ad) (rR_A ad) p l e rm12_lacks s m args below meth c 0 0  (rR_qIW D cI cZ ad below args s) (f12_lacks M a1) 0 [some (.ref (ad 67)), some (.int a1)] [] M := by
  unfold f12_lacks
  refine rv_aload_n (q := 1) E.x dX12_lacks_0 rfl rfl ?_
  refine rv_iload_n (q := 2) E.x dX12_lacks_1 rfl rfl ?_
  refine rv_b2 (fun r2 M3 e1 => ?_)
  refine rR_calli (q := 5) E (c12_asks E.2.2.1 e1) gX12_asks hX12_asks ⟨rfl, rfl⟩ ⟨Nat.le_of_ble_eq_true rfl, Nat.le_of_ble_eq_true rfl⟩ rfl rfl rfl (Nat.le_of_ble_eq_true rfl) dX12_lacks_2 rfl ?_
  refine rv_ifz_eq (q := 8) (tgt := 16) E.x dX12_lacks_5 (by decide) rfl ?_ ?_
  · refine rv_aload_n (q := 9) E.x dX12_lacks_8 rfl rfl ?_
    refine rv_iload_n (q := 10) E.x dX12_lacks_9 rfl rfl ?_
    refine rv_b2 (fun r5 M6 e4 => ?_)
    refine rR_calli (q := 13) E (c12_lacksOf E.2.2.1 e4) gX12_lacksOf hX12_lacksOf ⟨rfl, rfl⟩ ⟨Nat.le_of_ble_eq_true rfl, Nat.le_of_ble_eq_true rfl⟩ rfl rfl rfl (Nat.le_of_ble_eq_true rfl) dX12_lacks_10 rfl ?_
    refine rv_goto (q := 17) E.x dX12_lacks_13 (by decide) ?_
    exact rR_iret E rfl dX12_lacks_17
  · refine rv_iconst (q := 17) E.x dX12_lacks_16 rv_ki0 rfl ?_
    exact rR_iret E rfl dX12_lacks_17
theorem c12_lacks {l : Launch} {D : va_G} {cI cZ : ClassId} {ad : Nat → Nat} (hI : rR_I ad) {M : rv_Mem} {a1 : Int32} {r : Int32} {M1 : rv_Mem} (h : f12_lacks M a1 = some (r, M1)) : Met l yX12_lacks (rv_ws yX12_lacks cX12_lacks 2 (some .int)) rm12_lacks (rR_Pc D cI cZ ad [.ref (ad 67), .int a1] M) (rR_QI D cI cZ ad r M1) 0 0 (rR_A ad) := rR_met hI rfl (rv_cat rfl) (Nat.le_of_ble_eq_true rfl) (fun p e s m args below meth c E => ⟨(rR_qIW D cI cZ ad below args s), rfl, b12_lacks E M a1⟩) h
abbrev rm12_setWay : Room := { frames := 2, cells := 0, slots := 0, locals := 42 }
set_option maxRecDepth 100000 in
theorem b12_setWay_26 {p : Program} {l : Launch} {e : Env} {s : State} {m : MethodId} {args : Array Value} {below : List Frame} {meth : Method} {c : Code} {D : va_G} {cI cZ : ClassId} {ad : Nat → Nat} (E : rR_E D cI cZ ad cX12_setWay 4 (some .int) p s m args meth c)   : ∀ (M : rv_Mem) (x1 : Int32) (x2 : Int32) (s1 : Int32), rv_M (rR_G D cI cZ ad) (rR_A ad) p l e rm12_setWay s m args below meth c 0 0 (rR_qIW D cI cZ ad below args s) (f12_setWay_26 M x1 x2 s1) 26 [some (.ref (ad 67)), some (.int x1), some (.int x2), none] [.int s1, .ref (ad 67)] M := by
  intro M x1 x2 s1
  unfold f12_setWay_26
  refine rv_b2 (fun r2 M3 e1 => ?_)
  refine rR_calli (q := 29) E (c12_goes E.2.2.1 e1) gX12_goes hX12_goes ⟨rfl, rfl⟩ ⟨Nat.le_of_ble_eq_true rfl, Nat.le_of_ble_eq_true rfl⟩ rfl rfl rfl (Nat.le_of_ble_eq_true rfl) dX12_setWay_26 rfl ?_
  refine rv_ifz_ne (q := 32) (tgt := 34) E.x dX12_setWay_29 (by decide) rfl ?_ ?_
  · refine rv_iconst (q := 33) E.x dX12_setWay_32 rv_ki0 rfl ?_
    exact rR_iret E rfl dX12_setWay_33
  · refine rv_aload_n (q := 35) E.x dX12_setWay_34 rfl rfl ?_
    refine rR_get (q := 38) E 10 wf12_10 rfl (Nat.le_of_ble_eq_true rfl) rfl dX12_setWay_35 rfl ?_
    refine rv_iload_n (q := 39) E.x dX12_setWay_38 rfl rfl ?_
    refine rR_iald (q := 40) (n := 2) E (Nat.le_of_ble_eq_true rfl) rfl rfl dX12_setWay_39 rfl ?_
    refine rv_istore_n (q := 41) (lv' := [_, _, _, _]) E.x dX12_setWay_40 (Nat.le_of_ble_eq_true rfl) rfl rfl rfl ?_
    refine rv_aload_n (q := 42) E.x dX12_setWay_41 rfl rfl ?_
    refine rR_get (q := 45) E 10 wf12_10 rfl (Nat.le_of_ble_eq_true rfl) rfl dX12_setWay_42 rfl ?_
    refine rv_iload_n (q := 46) E.x dX12_setWay_45 rfl rfl ?_
    refine rv_iload_n (q := 47) E.x dX12_setWay_46 rfl rfl ?_
    refine rR_iast (q := 48) (n := 2) E (Nat.le_of_ble_eq_true rfl) rfl rfl dX12_setWay_47 rfl ?_
    refine rv_ltm (fun M4 => ?_)
    refine rv_iload_n (q := 49) E.x dX12_setWay_48 rfl rfl ?_
    exact rR_iret E rfl dX12_setWay_49
set_option maxRecDepth 100000 in
theorem b12_setWay {p : Program} {l : Launch} {e : Env} {s : State} {m : MethodId} {args : Array Value} {below : List Frame} {meth : Method} {c : Code} {D : va_G} {cI cZ : ClassId} {ad : Nat → Nat} (E : rR_E D cI cZ ad cX12_setWay 4 (some .int) p s m args meth c) (M : rv_Mem) (a1 : Int32) (a2 : Int32) : rv_M (rR_G D cI cZ ad) (rR_A ad) p l e rm12_setWay s m args below meth c 0 0  (rR_qIW D cI cZ ad below args s) (f12_setWay M a1 a2) 0 [some (.ref (ad 67)), some (.int a1), some (.int a2), none] [] M := by
  unfold f12_setWay
  refine rv_aload_n (q := 1) E.x dX12_setWay_0 rfl rfl ?_
  refine rv_iload_n (q := 2) E.x dX12_setWay_1 rfl rfl ?_
  refine rv_b1 (fun r2 e1 => ?_)
  refine rR_calls (q := 5) E (c12_isRepository e1) gX12_isRepository hX12_isRepository ⟨rfl, rfl⟩ ⟨Nat.le_of_ble_eq_true rfl, Nat.le_of_ble_eq_true rfl⟩ rfl rfl rfl (Nat.le_of_ble_eq_true rfl) dX12_setWay_2 rfl ?_
  refine rv_ifz_ne (q := 8) (tgt := 12) E.x dX12_setWay_5 (by decide) rfl ?_ ?_
  · refine rv_iconst (q := 9) E.x dX12_setWay_8 rv_ki1 rfl ?_
    refine rv_goto (q := 26) E.x dX12_setWay_9 (by decide) ?_
    refine rv_wk [true, true, true, false] ?_
    exact b12_setWay_26 E M a1 a2 1
  · refine rv_iload_n (q := 13) E.x dX12_setWay_12 rfl rfl ?_
    refine rv_iconst (q := 14) E.x dX12_setWay_13 rv_ki0 rfl ?_
    refine rv_iconst (q := 15) E.x dX12_setWay_14 rv_ki2 rfl ?_
    refine rv_b1 (fun r4 e3 => ?_)
    refine rR_calls (q := 18) E (c12_isIn e3) gX12_isIn hX12_isIn ⟨rfl, rfl⟩ ⟨Nat.le_of_ble_eq_true rfl, Nat.le_of_ble_eq_true rfl⟩ rfl rfl rfl (Nat.le_of_ble_eq_true rfl) dX12_setWay_15 rfl ?_
    refine rv_ifz_eq (q := 21) (tgt := 25) E.x dX12_setWay_18 (by decide) rfl ?_ ?_
    · refine rv_iconst (q := 22) E.x dX12_setWay_21 rv_ki0 rfl ?_
      refine rv_goto (q := 26) E.x dX12_setWay_22 (by decide) ?_
      refine rv_wk [true, true, true, false] ?_
      exact b12_setWay_26 E M a1 a2 0
    · refine rv_iconst (q := 26) E.x dX12_setWay_25 rv_ki2 rfl ?_
      refine rv_wk [true, true, true, false] ?_
      exact b12_setWay_26 E M a1 a2 2
theorem c12_setWay {l : Launch} {D : va_G} {cI cZ : ClassId} {ad : Nat → Nat} (hI : rR_I ad) {M : rv_Mem} {a1 : Int32} {a2 : Int32} {r : Int32} {M1 : rv_Mem} (h : f12_setWay M a1 a2 = some (r, M1)) : Met l yX12_setWay (rv_ws yX12_setWay cX12_setWay 4 (some .int)) rm12_setWay (rR_Pc D cI cZ ad [.ref (ad 67), .int a1, .int a2] M) (rR_QI D cI cZ ad r M1) 0 0 (rR_A ad) := rR_met hI rfl (rv_cat rfl) (Nat.le_of_ble_eq_true rfl) (fun p e s m args below meth c E => ⟨(rR_qIW D cI cZ ad below args s), rfl, b12_setWay E M a1 a2⟩) h
abbrev rm12_group : Room := { frames := 4, cells := 0, slots := 0, locals := 92 }
set_option maxRecDepth 100000 in
theorem b12_group_27 {p : Program} {l : Launch} {e : Env} {s : State} {m : MethodId} {args : Array Value} {below : List Frame} {meth : Method} {c : Code} {D : va_G} {cI cZ : ClassId} {ad : Nat → Nat} (E : rR_E D cI cZ ad cX12_group 2 (some .int) p s m args meth c)   : ∀ (M : rv_Mem) (x1 : Int32) (s1 : Int32), rv_M (rR_G D cI cZ ad) (rR_A ad) p l e rm12_group s m args below meth c 0 0 (rR_qIW D cI cZ ad below args s) (f12_group_27 M x1 s1) 27 [some (.ref (ad 67)), some (.int x1)] [.int s1, .ref (ad 67)] M := by
  intro M x1 s1
  unfold f12_group_27
  refine rv_b2 (fun r2 M3 e1 => ?_)
  refine rR_calli (q := 30) E (c12_goes E.2.2.1 e1) gX12_goes hX12_goes ⟨rfl, rfl⟩ ⟨Nat.le_of_ble_eq_true rfl, Nat.le_of_ble_eq_true rfl⟩ rfl rfl rfl (Nat.le_of_ble_eq_true rfl) dX12_group_27 rfl ?_
  refine rv_ifz_eq (q := 33) (tgt := 41) E.x dX12_group_30 (by decide) rfl ?_ ?_
  · refine rv_aload_n (q := 34) E.x dX12_group_33 rfl rfl ?_
    refine rv_iload_n (q := 35) E.x dX12_group_34 rfl rfl ?_
    refine rv_b1 (fun r5 e4 => ?_)
    refine rR_calli (q := 38) E (c12_groupOf E.2.2.1 e4) gX12_groupOf hX12_groupOf ⟨rfl, rfl⟩ ⟨Nat.le_of_ble_eq_true rfl, Nat.le_of_ble_eq_true rfl⟩ rfl rfl rfl (Nat.le_of_ble_eq_true rfl) dX12_group_35 rfl ?_
    refine rv_goto (q := 42) E.x dX12_group_38 (by decide) ?_
    exact rR_iret E rfl dX12_group_42
  · refine rv_iconst (q := 42) E.x dX12_group_41 rv_ki0 rfl ?_
    exact rR_iret E rfl dX12_group_42
set_option maxRecDepth 100000 in
theorem b12_group {p : Program} {l : Launch} {e : Env} {s : State} {m : MethodId} {args : Array Value} {below : List Frame} {meth : Method} {c : Code} {D : va_G} {cI cZ : ClassId} {ad : Nat → Nat} (E : rR_E D cI cZ ad cX12_group 2 (some .int) p s m args meth c) (M : rv_Mem) (a1 : Int32) : rv_M (rR_G D cI cZ ad) (rR_A ad) p l e rm12_group s m args below meth c 0 0  (rR_qIW D cI cZ ad below args s) (f12_group M a1) 0 [some (.ref (ad 67)), some (.int a1)] [] M := by
  unfold f12_group
  refine rv_aload_n (q := 1) E.x dX12_group_0 rfl rfl ?_
  refine rv_aload_n (q := 2) E.x dX12_group_1 rfl rfl ?_
  refine rv_iload_n (q := 3) E.x dX12_group_2 rfl rfl ?_
  refine rv_b1 (fun r2 e1 => ?_)
  refine rR_calli (q := 6) E (c12_isChange E.2.2.1 e1) gX12_isChange hX12_isChange ⟨rfl, rfl⟩ ⟨Nat.le_of_ble_eq_true rfl, Nat.le_of_ble_eq_true rfl⟩ rfl rfl rfl (Nat.le_of_ble_eq_true rfl) dX12_group_3 rfl ?_
  refine rv_ifz_ne (q := 9) (tgt := 13) E.x dX12_group_6 (by decide) rfl ?_ ?_
  · refine rv_iconst (q := 10) E.x dX12_group_9 rv_ki1 rfl ?_
    refine rv_goto (q := 27) E.x dX12_group_10 (by decide) ?_
    refine rv_wk [true, true] ?_
    exact b12_group_27 E M a1 1
  · refine rv_aload_n (q := 14) E.x dX12_group_13 rfl rfl ?_
    refine rR_get (q := 17) E 13 wf12_13 rfl (Nat.le_of_ble_eq_true rfl) rfl dX12_group_14 rfl ?_
    refine rv_iload_n (q := 18) E.x dX12_group_17 rfl rfl ?_
    refine rR_iald (q := 19) (n := 20) E (Nat.le_of_ble_eq_true rfl) rfl rfl dX12_group_18 rfl ?_
    refine rv_if_ne (q := 22) (tgt := 26) E.x dX12_group_19 (by decide) rfl ?_ ?_
    · refine rv_iconst (q := 23) E.x dX12_group_22 rv_ki0 rfl ?_
      refine rv_goto (q := 27) E.x dX12_group_23 (by decide) ?_
      refine rv_wk [true, true] ?_
      exact b12_group_27 E M a1 0
    · refine rv_iconst (q := 27) E.x dX12_group_26 rv_ki2 rfl ?_
      refine rv_wk [true, true] ?_
      exact b12_group_27 E M a1 2
theorem c12_group {l : Launch} {D : va_G} {cI cZ : ClassId} {ad : Nat → Nat} (hI : rR_I ad) {M : rv_Mem} {a1 : Int32} {r : Int32} {M1 : rv_Mem} (h : f12_group M a1 = some (r, M1)) : Met l yX12_group (rv_ws yX12_group cX12_group 2 (some .int)) rm12_group (rR_Pc D cI cZ ad [.ref (ad 67), .int a1] M) (rR_QI D cI cZ ad r M1) 0 0 (rR_A ad) := rR_met hI rfl (rv_cat rfl) (Nat.le_of_ble_eq_true rfl) (fun p e s m args below meth c E => ⟨(rR_qIW D cI cZ ad below args s), rfl, b12_group E M a1⟩) h
abbrev rm12_land : Room := { frames := 12, cells := 0, slots := 0, locals := 317 }
set_option maxRecDepth 100000 in
theorem b12_land_28 {p : Program} {l : Launch} {e : Env} {s : State} {m : MethodId} {args : Array Value} {below : List Frame} {meth : Method} {c : Code} {D : va_G} {cI cZ : ClassId} {ad : Nat → Nat} (E : rR_E D cI cZ ad cX12_land 3 (some .int) p s m args meth c)   : ∀ (M : rv_Mem) (x1 : Int32) (x2 : Int32) (s1 : Int32), rv_M (rR_G D cI cZ ad) (rR_A ad) p l e rm12_land s m args below meth c 0 0 (rR_qIW D cI cZ ad below args s) (f12_land_28 M x1 x2 s1) 28 [some (.ref (ad 67)), some (.int x1), some (.int x2)] [.int s1, .ref (ad 67)] M := by
  intro M x1 x2 s1
  unfold f12_land_28
  refine rv_b2 (fun r2 M3 e1 => ?_)
  refine rR_calli (q := 31) E (c12_goes E.2.2.1 e1) gX12_goes hX12_goes ⟨rfl, rfl⟩ ⟨Nat.le_of_ble_eq_true rfl, Nat.le_of_ble_eq_true rfl⟩ rfl rfl rfl (Nat.le_of_ble_eq_true rfl) dX12_land_28 rfl ?_
  refine rv_ifz_ne (q := 34) (tgt := 36) E.x dX12_land_31 (by decide) rfl ?_ ?_
  · refine rv_iconst (q := 35) E.x dX12_land_34 rv_ki0 rfl ?_
    exact rR_iret E rfl dX12_land_35
  · refine rv_aload_n (q := 37) E.x dX12_land_36 rfl rfl ?_
    refine rv_iload_n (q := 38) E.x dX12_land_37 rfl rfl ?_
    refine rv_iload_n (q := 39) E.x dX12_land_38 rfl rfl ?_
    refine rv_b2 (fun r5 M6 e4 => ?_)
    refine rR_calli (q := 42) E (c12_lands E.2.2.1 e4) gX12_lands hX12_lands ⟨rfl, rfl⟩ ⟨Nat.le_of_ble_eq_true rfl, Nat.le_of_ble_eq_true rfl⟩ rfl rfl rfl (Nat.le_of_ble_eq_true rfl) dX12_land_39 rfl ?_
    exact rR_iret E rfl dX12_land_42
set_option maxRecDepth 100000 in
theorem b12_land {p : Program} {l : Launch} {e : Env} {s : State} {m : MethodId} {args : Array Value} {below : List Frame} {meth : Method} {c : Code} {D : va_G} {cI cZ : ClassId} {ad : Nat → Nat} (E : rR_E D cI cZ ad cX12_land 3 (some .int) p s m args meth c) (M : rv_Mem) (a1 : Int32) (a2 : Int32) : rv_M (rR_G D cI cZ ad) (rR_A ad) p l e rm12_land s m args below meth c 0 0  (rR_qIW D cI cZ ad below args s) (f12_land M a1 a2) 0 [some (.ref (ad 67)), some (.int a1), some (.int a2)] [] M := by
  unfold f12_land
  refine rv_aload_n (q := 1) E.x dX12_land_0 rfl rfl ?_
  refine rv_aload_n (q := 2) E.x dX12_land_1 rfl rfl ?_
  refine rv_iload_n (q := 3) E.x dX12_land_2 rfl rfl ?_
  refine rv_iload_n (q := 4) E.x dX12_land_3 rfl rfl ?_
  refine rv_b1 (fun r2 e1 => ?_)
  refine rR_calli (q := 7) E (c12_wrong E.2.2.1 e1) gX12_wrong hX12_wrong ⟨rfl, rfl⟩ ⟨Nat.le_of_ble_eq_true rfl, Nat.le_of_ble_eq_true rfl⟩ rfl rfl rfl (Nat.le_of_ble_eq_true rfl) dX12_land_4 rfl ?_
  refine rv_b2 (fun r4 M5 e3 => ?_)
  refine rR_calli (q := 10) E (c12_goes E.2.2.1 e3) gX12_goes hX12_goes ⟨rfl, rfl⟩ ⟨Nat.le_of_ble_eq_true rfl, Nat.le_of_ble_eq_true rfl⟩ rfl rfl rfl (Nat.le_of_ble_eq_true rfl) dX12_land_7 rfl ?_
  refine rv_ifz_eq (q := 13) (tgt := 34) E.x dX12_land_10 (by decide) rfl ?_ ?_
  · refine rv_aload_n (q := 14) E.x dX12_land_13 rfl rfl ?_
    refine rv_aload_n (q := 15) E.x dX12_land_14 rfl rfl ?_
    refine rv_iload_n (q := 16) E.x dX12_land_15 rfl rfl ?_
    refine rv_iload_n (q := 17) E.x dX12_land_16 rfl rfl ?_
    refine rv_b1 (fun r7 e6 => ?_)
    refine rR_calli (q := 20) E (c12_isShut E.2.2.1 e6) gX12_isShut hX12_isShut ⟨rfl, rfl⟩ ⟨Nat.le_of_ble_eq_true rfl, Nat.le_of_ble_eq_true rfl⟩ rfl rfl rfl (Nat.le_of_ble_eq_true rfl) dX12_land_17 rfl ?_
    refine rv_ifz_eq (q := 23) (tgt := 27) E.x dX12_land_20 (by decide) rfl ?_ ?_
    · refine rv_iconst (q := 24) E.x dX12_land_23 rv_ki2 rfl ?_
      refine rv_goto (q := 28) E.x dX12_land_24 (by decide) ?_
      refine rv_wk [true, true, true] ?_
      exact b12_land_28 E M5 a1 a2 2
    · refine rv_iconst (q := 28) E.x dX12_land_27 rv_ki0 rfl ?_
      refine rv_wk [true, true, true] ?_
      exact b12_land_28 E M5 a1 a2 0
  · refine rv_iconst (q := 35) E.x dX12_land_34 rv_ki0 rfl ?_
    exact rR_iret E rfl dX12_land_35
theorem c12_land {l : Launch} {D : va_G} {cI cZ : ClassId} {ad : Nat → Nat} (hI : rR_I ad) {M : rv_Mem} {a1 : Int32} {a2 : Int32} {r : Int32} {M1 : rv_Mem} (h : f12_land M a1 a2 = some (r, M1)) : Met l yX12_land (rv_ws yX12_land cX12_land 3 (some .int)) rm12_land (rR_Pc D cI cZ ad [.ref (ad 67), .int a1, .int a2] M) (rR_QI D cI cZ ad r M1) 0 0 (rR_A ad) := rR_met hI rfl (rv_cat rfl) (Nat.le_of_ble_eq_true rfl) (fun p e s m args below meth c E => ⟨(rR_qIW D cI cZ ad below args s), rfl, b12_land E M a1 a2⟩) h
abbrev rm12_addReviewer : Room := { frames := 3, cells := 0, slots := 0, locals := 65 }
set_option maxRecDepth 100000 in
theorem b12_addReviewer_38 {p : Program} {l : Launch} {e : Env} {s : State} {m : MethodId} {args : Array Value} {below : List Frame} {meth : Method} {c : Code} {D : va_G} {cI cZ : ClassId} {ad : Nat → Nat} (E : rR_E D cI cZ ad cX12_addReviewer 4 (some .boolean) p s m args meth c)   : ∀ (M : rv_Mem) (x1 : Int32) (x2 : Int32) (s1 : Int32), rv_M (rR_G D cI cZ ad) (rR_A ad) p l e rm12_addReviewer s m args below meth c 0 0 (rR_qZW D cI cZ ad below args s) (f12_addReviewer_38 M x1 x2 s1) 38 [some (.ref (ad 67)), some (.int x1), some (.int x2), none] [.int s1, .ref (ad 67)] M := by
  intro M x1 x2 s1
  unfold f12_addReviewer_38
  refine rv_b2 (fun r2 M3 e1 => ?_)
  refine rR_calli (q := 41) E (c12_goes E.2.2.1 e1) gX12_goes hX12_goes ⟨rfl, rfl⟩ ⟨Nat.le_of_ble_eq_true rfl, Nat.le_of_ble_eq_true rfl⟩ rfl rfl rfl (Nat.le_of_ble_eq_true rfl) dX12_addReviewer_38 rfl ?_
  refine rv_ifz_ne (q := 44) (tgt := 46) E.x dX12_addReviewer_41 (by decide) rfl ?_ ?_
  · refine rv_iconst (q := 45) E.x dX12_addReviewer_44 rv_ki0 rfl ?_
    exact rR_zret E false rfl dX12_addReviewer_45
  · refine rv_aload_n (q := 47) E.x dX12_addReviewer_46 rfl rfl ?_
    refine rv_iload_n (q := 48) E.x dX12_addReviewer_47 rfl rfl ?_
    refine rv_b1 (fun r5 e4 => ?_)
    refine rR_calli (q := 51) E (c12_reviewersOf E.2.2.1 e4) gX12_reviewersOf hX12_reviewersOf ⟨rfl, rfl⟩ ⟨Nat.le_of_ble_eq_true rfl, Nat.le_of_ble_eq_true rfl⟩ rfl rfl rfl (Nat.le_of_ble_eq_true rfl) dX12_addReviewer_48 rfl ?_
    refine rv_iload_n (q := 52) E.x dX12_addReviewer_51 rfl rfl ?_
    refine rv_b1 (fun r7 e6 => ?_)
    refine rR_calls (q := 55) E (c12_isOf e6) gX12_isOf hX12_isOf ⟨rfl, rfl⟩ ⟨Nat.le_of_ble_eq_true rfl, Nat.le_of_ble_eq_true rfl⟩ rfl rfl rfl (Nat.le_of_ble_eq_true rfl) dX12_addReviewer_52 rfl ?_
    refine rv_istore_n (q := 56) (lv' := [_, _, _, _]) E.x dX12_addReviewer_55 (Nat.le_of_ble_eq_true rfl) rfl rfl rfl ?_
    refine rv_aload_n (q := 57) E.x dX12_addReviewer_56 rfl rfl ?_
    refine rR_get (q := 60) E 19 wf12_19 rfl (Nat.le_of_ble_eq_true rfl) rfl dX12_addReviewer_57 rfl ?_
    refine rv_iload_n (q := 61) E.x dX12_addReviewer_60 rfl rfl ?_
    refine rv_dup2 (q := 62) E.x dX12_addReviewer_61 rfl rfl rfl ?_
    refine rR_iald (q := 63) (n := 20) E (Nat.le_of_ble_eq_true rfl) rfl rfl dX12_addReviewer_62 rfl ?_
    refine rv_iconst (q := 64) E.x dX12_addReviewer_63 rv_ki1 rfl ?_
    refine rv_iload_n (q := 65) E.x dX12_addReviewer_64 rfl rfl ?_
    refine rv_ishl (q := 66) E.x dX12_addReviewer_65 rfl ?_
    refine rv_ior (q := 67) E.x dX12_addReviewer_66 rfl ?_
    refine rR_iast (q := 68) (n := 20) E (Nat.le_of_ble_eq_true rfl) rfl rfl dX12_addReviewer_67 rfl ?_
    refine rv_ltm (fun M8 => ?_)
    refine rv_aload_n (q := 69) E.x dX12_addReviewer_68 rfl rfl ?_
    refine rv_iload_n (q := 70) E.x dX12_addReviewer_69 rfl rfl ?_
    refine rv_iconst (q := 71) E.x dX12_addReviewer_70 rv_ki1 rfl ?_
    refine rv_iload_n (q := 72) E.x dX12_addReviewer_71 rfl rfl ?_
    refine rv_ishl (q := 73) E.x dX12_addReviewer_72 rfl ?_
    refine rv_b1 (fun M10 e9 => ?_)
    refine rR_callv (q := 76) E (c12_givesTurns E.2.2.1 e9) gX12_givesTurns hX12_givesTurns ⟨rfl, rfl⟩ ⟨Nat.le_of_ble_eq_true rfl, Nat.le_of_ble_eq_true rfl⟩ rfl rfl rfl (Nat.le_of_ble_eq_true rfl) dX12_addReviewer_73 rfl ?_
    refine rv_iload_n (q := 77) E.x dX12_addReviewer_76 rfl rfl ?_
    refine rv_ifz_ne (q := 80) (tgt := 84) E.x dX12_addReviewer_77 (by decide) rfl ?_ ?_
    · refine rv_iconst (q := 81) E.x dX12_addReviewer_80 rv_ki1 rfl ?_
      refine rv_goto (q := 85) E.x dX12_addReviewer_81 (by decide) ?_
      exact rR_zret E true rfl dX12_addReviewer_85
    · refine rv_iconst (q := 85) E.x dX12_addReviewer_84 rv_ki0 rfl ?_
      exact rR_zret E false rfl dX12_addReviewer_85
set_option maxRecDepth 100000 in
theorem b12_addReviewer_33 {p : Program} {l : Launch} {e : Env} {s : State} {m : MethodId} {args : Array Value} {below : List Frame} {meth : Method} {c : Code} {D : va_G} {cI cZ : ClassId} {ad : Nat → Nat} (E : rR_E D cI cZ ad cX12_addReviewer 4 (some .boolean) p s m args meth c)   : ∀ (M : rv_Mem) (x1 : Int32) (x2 : Int32), rv_M (rR_G D cI cZ ad) (rR_A ad) p l e rm12_addReviewer s m args below meth c 0 0 (rR_qZW D cI cZ ad below args s) (f12_addReviewer_33 M x1 x2) 33 [some (.ref (ad 67)), some (.int x1), some (.int x2), none] [.ref (ad 67)] M := by
  intro M x1 x2
  unfold f12_addReviewer_33
  refine rv_iconst (q := 34) E.x dX12_addReviewer_33 rv_ki2 rfl ?_
  refine rv_goto (q := 38) E.x dX12_addReviewer_34 (by decide) ?_
  refine rv_wk [true, true, true, false] ?_
  exact b12_addReviewer_38 E M x1 x2 2
set_option maxRecDepth 100000 in
theorem b12_addReviewer {p : Program} {l : Launch} {e : Env} {s : State} {m : MethodId} {args : Array Value} {below : List Frame} {meth : Method} {c : Code} {D : va_G} {cI cZ : ClassId} {ad : Nat → Nat} (E : rR_E D cI cZ ad cX12_addReviewer 4 (some .boolean) p s m args meth c) (M : rv_Mem) (a1 : Int32) (a2 : Int32) : rv_M (rR_G D cI cZ ad) (rR_A ad) p l e rm12_addReviewer s m args below meth c 0 0  (rR_qZW D cI cZ ad below args s) (f12_addReviewer M a1 a2) 0 [some (.ref (ad 67)), some (.int a1), some (.int a2), none] [] M := by
  unfold f12_addReviewer
  refine rv_aload_n (q := 1) E.x dX12_addReviewer_0 rfl rfl ?_
  refine rv_aload_n (q := 2) E.x dX12_addReviewer_1 rfl rfl ?_
  refine rv_iload_n (q := 3) E.x dX12_addReviewer_2 rfl rfl ?_
  refine rv_iload_n (q := 4) E.x dX12_addReviewer_3 rfl rfl ?_
  refine rv_b1 (fun r2 e1 => ?_)
  refine rR_calli (q := 7) E (c12_wrong E.2.2.1 e1) gX12_wrong hX12_wrong ⟨rfl, rfl⟩ ⟨Nat.le_of_ble_eq_true rfl, Nat.le_of_ble_eq_true rfl⟩ rfl rfl rfl (Nat.le_of_ble_eq_true rfl) dX12_addReviewer_4 rfl ?_
  refine rv_b2 (fun r4 M5 e3 => ?_)
  refine rR_calli (q := 10) E (c12_goes E.2.2.1 e3) gX12_goes hX12_goes ⟨rfl, rfl⟩ ⟨Nat.le_of_ble_eq_true rfl, Nat.le_of_ble_eq_true rfl⟩ rfl rfl rfl (Nat.le_of_ble_eq_true rfl) dX12_addReviewer_7 rfl ?_
  refine rv_ifz_eq (q := 13) (tgt := 44) E.x dX12_addReviewer_10 (by decide) rfl ?_ ?_
  · refine rv_aload_n (q := 14) E.x dX12_addReviewer_13 rfl rfl ?_
    refine rv_aload_n (q := 15) E.x dX12_addReviewer_14 rfl rfl ?_
    refine rR_get (q := 18) E 13 wf12_13 rfl (Nat.le_of_ble_eq_true rfl) rfl dX12_addReviewer_15 rfl ?_
    refine rv_iload_n (q := 19) E.x dX12_addReviewer_18 rfl rfl ?_
    refine rR_iald (q := 20) (n := 20) E (Nat.le_of_ble_eq_true rfl) rfl rfl dX12_addReviewer_19 rfl ?_
    refine rv_if_ne (q := 23) (tgt := 33) E.x dX12_addReviewer_20 (by decide) rfl ?_ ?_
    · refine rv_aload_n (q := 24) E.x dX12_addReviewer_23 rfl rfl ?_
      refine rR_get (q := 27) E 12 wf12_12 rfl (Nat.le_of_ble_eq_true rfl) rfl dX12_addReviewer_24 rfl ?_
      refine rv_iload_n (q := 28) E.x dX12_addReviewer_27 rfl rfl ?_
      refine rR_iald (q := 29) (n := 20) E (Nat.le_of_ble_eq_true rfl) rfl rfl dX12_addReviewer_28 rfl ?_
      refine rv_iload_n (q := 30) E.x dX12_addReviewer_29 rfl rfl ?_
      refine rv_icmp_ne (q := 33) (tgt := 37) E.x dX12_addReviewer_30 (by decide) rfl ?_ ?_
      · refine rv_wk [true, true, true, false] ?_
        exact b12_addReviewer_33 E M5 a1 a2
      · refine rv_iconst (q := 38) E.x dX12_addReviewer_37 rv_ki0 rfl ?_
        refine rv_wk [true, true, true, false] ?_
        exact b12_addReviewer_38 E M5 a1 a2 0
    · refine rv_wk [true, true, true, false] ?_
      exact b12_addReviewer_33 E M5 a1 a2
  · refine rv_iconst (q := 45) E.x dX12_addReviewer_44 rv_ki0 rfl ?_
    exact rR_zret E false rfl dX12_addReviewer_45
theorem c12_addReviewer {l : Launch} {D : va_G} {cI cZ : ClassId} {ad : Nat → Nat} (hI : rR_I ad) {M : rv_Mem} {a1 : Int32} {a2 : Int32} {r : Bool} {M1 : rv_Mem} (h : f12_addReviewer M a1 a2 = some (r, M1)) : Met l yX12_addReviewer (rv_ws yX12_addReviewer cX12_addReviewer 4 (some .boolean)) rm12_addReviewer (rR_Pc D cI cZ ad [.ref (ad 67), .int a1, .int a2] M) (rR_QI D cI cZ ad (rv_i r) M1) 0 0 (rR_A ad) := rR_met hI rfl (rv_cat rfl) (Nat.le_of_ble_eq_true rfl) (fun p e s m args below meth c E => ⟨(rR_qZW D cI cZ ad below args s), rfl, b12_addReviewer E M a1 a2⟩) h
abbrev rm12_reviewers : Room := { frames := 3, cells := 0, slots := 0, locals := 64 }
set_option maxRecDepth 100000 in
theorem b12_reviewers {p : Program} {l : Launch} {e : Env} {s : State} {m : MethodId} {args : Array Value} {below : List Frame} {meth : Method} {c : Code} {D : va_G} {cI cZ : ClassId} {ad : Nat → Nat} (E : rR_E D cI cZ ad cX12_reviewers 2 (some .int) p s m args meth c) (M : rv_Mem) (a1 : Int32) : rv_M (rR_G D cI cZ ad) (rR_A ad) p l e rm12_reviewers s m args below meth c 0 0  (rR_qIW D cI cZ ad below args s) (f12_reviewers M a1) 0 [some (.ref (ad 67)), some (.int a1)] [] M := by
  unfold f12_reviewers
  refine rv_aload_n (q := 1) E.x dX12_reviewers_0 rfl rfl ?_
  refine rv_iload_n (q := 2) E.x dX12_reviewers_1 rfl rfl ?_
  refine rv_b2 (fun r2 M3 e1 => ?_)
  refine rR_calli (q := 5) E (c12_asks E.2.2.1 e1) gX12_asks hX12_asks ⟨rfl, rfl⟩ ⟨Nat.le_of_ble_eq_true rfl, Nat.le_of_ble_eq_true rfl⟩ rfl rfl rfl (Nat.le_of_ble_eq_true rfl) dX12_reviewers_2 rfl ?_
  refine rv_ifz_eq (q := 8) (tgt := 16) E.x dX12_reviewers_5 (by decide) rfl ?_ ?_
  · refine rv_aload_n (q := 9) E.x dX12_reviewers_8 rfl rfl ?_
    refine rv_iload_n (q := 10) E.x dX12_reviewers_9 rfl rfl ?_
    refine rv_b1 (fun r5 e4 => ?_)
    refine rR_calli (q := 13) E (c12_reviewersOf E.2.2.1 e4) gX12_reviewersOf hX12_reviewersOf ⟨rfl, rfl⟩ ⟨Nat.le_of_ble_eq_true rfl, Nat.le_of_ble_eq_true rfl⟩ rfl rfl rfl (Nat.le_of_ble_eq_true rfl) dX12_reviewers_10 rfl ?_
    refine rv_goto (q := 17) E.x dX12_reviewers_13 (by decide) ?_
    exact rR_iret E rfl dX12_reviewers_17
  · refine rv_iconst (q := 17) E.x dX12_reviewers_16 rv_ki0 rfl ?_
    exact rR_iret E rfl dX12_reviewers_17
theorem c12_reviewers {l : Launch} {D : va_G} {cI cZ : ClassId} {ad : Nat → Nat} (hI : rR_I ad) {M : rv_Mem} {a1 : Int32} {r : Int32} {M1 : rv_Mem} (h : f12_reviewers M a1 = some (r, M1)) : Met l yX12_reviewers (rv_ws yX12_reviewers cX12_reviewers 2 (some .int)) rm12_reviewers (rR_Pc D cI cZ ad [.ref (ad 67), .int a1] M) (rR_QI D cI cZ ad r M1) 0 0 (rR_A ad) := rR_met hI rfl (rv_cat rfl) (Nat.le_of_ble_eq_true rfl) (fun p e s m args below meth c E => ⟨(rR_qIW D cI cZ ad below args s), rfl, b12_reviewers E M a1⟩) h
abbrev rm12_whoseTurn : Room := { frames := 3, cells := 0, slots := 0, locals := 64 }
set_option maxRecDepth 100000 in
theorem b12_whoseTurn {p : Program} {l : Launch} {e : Env} {s : State} {m : MethodId} {args : Array Value} {below : List Frame} {meth : Method} {c : Code} {D : va_G} {cI cZ : ClassId} {ad : Nat → Nat} (E : rR_E D cI cZ ad cX12_whoseTurn 2 (some .int) p s m args meth c) (M : rv_Mem) (a1 : Int32) : rv_M (rR_G D cI cZ ad) (rR_A ad) p l e rm12_whoseTurn s m args below meth c 0 0  (rR_qIW D cI cZ ad below args s) (f12_whoseTurn M a1) 0 [some (.ref (ad 67)), some (.int a1)] [] M := by
  unfold f12_whoseTurn
  refine rv_aload_n (q := 1) E.x dX12_whoseTurn_0 rfl rfl ?_
  refine rv_iload_n (q := 2) E.x dX12_whoseTurn_1 rfl rfl ?_
  refine rv_b2 (fun r2 M3 e1 => ?_)
  refine rR_calli (q := 5) E (c12_asks E.2.2.1 e1) gX12_asks hX12_asks ⟨rfl, rfl⟩ ⟨Nat.le_of_ble_eq_true rfl, Nat.le_of_ble_eq_true rfl⟩ rfl rfl rfl (Nat.le_of_ble_eq_true rfl) dX12_whoseTurn_2 rfl ?_
  refine rv_ifz_eq (q := 8) (tgt := 17) E.x dX12_whoseTurn_5 (by decide) rfl ?_ ?_
  · refine rv_aload_n (q := 9) E.x dX12_whoseTurn_8 rfl rfl ?_
    refine rR_get (q := 12) E 20 wf12_20 rfl (Nat.le_of_ble_eq_true rfl) rfl dX12_whoseTurn_9 rfl ?_
    refine rv_iload_n (q := 13) E.x dX12_whoseTurn_12 rfl rfl ?_
    refine rR_iald (q := 14) (n := 20) E (Nat.le_of_ble_eq_true rfl) rfl rfl dX12_whoseTurn_13 rfl ?_
    refine rv_goto (q := 18) E.x dX12_whoseTurn_14 (by decide) ?_
    exact rR_iret E rfl dX12_whoseTurn_18
  · refine rv_iconst (q := 18) E.x dX12_whoseTurn_17 rv_ki0 rfl ?_
    exact rR_iret E rfl dX12_whoseTurn_18
theorem c12_whoseTurn {l : Launch} {D : va_G} {cI cZ : ClassId} {ad : Nat → Nat} (hI : rR_I ad) {M : rv_Mem} {a1 : Int32} {r : Int32} {M1 : rv_Mem} (h : f12_whoseTurn M a1 = some (r, M1)) : Met l yX12_whoseTurn (rv_ws yX12_whoseTurn cX12_whoseTurn 2 (some .int)) rm12_whoseTurn (rR_Pc D cI cZ ad [.ref (ad 67), .int a1] M) (rR_QI D cI cZ ad r M1) 0 0 (rR_A ad) := rR_met hI rfl (rv_cat rfl) (Nat.le_of_ble_eq_true rfl) (fun p e s m args below meth c E => ⟨(rR_qIW D cI cZ ad below args s), rfl, b12_whoseTurn E M a1⟩) h
abbrev rm12_watch : Room := { frames := 2, cells := 0, slots := 0, locals := 42 }
set_option maxRecDepth 100000 in
theorem b12_watch_74 {p : Program} {l : Launch} {e : Env} {s : State} {m : MethodId} {args : Array Value} {below : List Frame} {meth : Method} {c : Code} {D : va_G} {cI cZ : ClassId} {ad : Nat → Nat} (E : rR_E D cI cZ ad cX12_watch 5 (some .boolean) p s m args meth c)   : ∀ (M : rv_Mem) (x4 : Bool) (s1 : Int32) (s2 : Int32), rv_M (rR_G D cI cZ ad) (rR_A ad) p l e rm12_watch s m args below meth c 0 0 (rR_qZW D cI cZ ad below args s) (f12_watch_74 M x4 s1 s2) 74 [some (.ref (ad 67)), none, none, none, some (.int (rv_i x4))] [.int s2, .int s1, .ref (ad 50)] M := by
  intro M x4 s1 s2
  unfold f12_watch_74
  refine rR_iast (q := 75) (n := 2) E (Nat.le_of_ble_eq_true rfl) rfl rfl dX12_watch_74 rfl ?_
  refine rv_ltm (fun M1 => ?_)
  refine rv_iload (q := 77) E.x dX12_watch_75 rfl rfl ?_
  exact rR_zret E x4 rfl dX12_watch_77
set_option maxRecDepth 100000 in
theorem b12_watch_20 {p : Program} {l : Launch} {e : Env} {s : State} {m : MethodId} {args : Array Value} {below : List Frame} {meth : Method} {c : Code} {D : va_G} {cI cZ : ClassId} {ad : Nat → Nat} (E : rR_E D cI cZ ad cX12_watch 5 (some .boolean) p s m args meth c)   : ∀ (M : rv_Mem) (x1 : Int32) (x2 : Int32) (x3 : Bool) (s1 : Bool), rv_M (rR_G D cI cZ ad) (rR_A ad) p l e rm12_watch s m args below meth c 0 0 (rR_qZW D cI cZ ad below args s) (f12_watch_20 M x1 x2 x3 s1) 20 [some (.ref (ad 67)), some (.int x1), some (.int x2), some (.int (rv_i x3)), none] [.int (rv_i s1), .ref (ad 67)] M := by
  intro M x1 x2 x3 s1
  unfold f12_watch_20
  refine rv_b2 (fun r2 M3 e1 => ?_)
  refine rR_calli (q := 23) E (c12_goes E.2.2.1 e1) gX12_goes hX12_goes ⟨rfl, rfl⟩ ⟨Nat.le_of_ble_eq_true rfl, Nat.le_of_ble_eq_true rfl⟩ rfl rfl rfl (Nat.le_of_ble_eq_true rfl) dX12_watch_20 rfl ?_
  refine rv_ifz_ne (q := 26) (tgt := 28) E.x dX12_watch_23 (by decide) rfl ?_ ?_
  · refine rv_iconst (q := 27) E.x dX12_watch_26 rv_ki0 rfl ?_
    exact rR_zret E false rfl dX12_watch_27
  · refine rv_aload_n (q := 29) E.x dX12_watch_28 rfl rfl ?_
    refine rR_get (q := 32) E 50 wf12_50 rfl (Nat.le_of_ble_eq_true rfl) rfl dX12_watch_29 rfl ?_
    refine rv_iload_n (q := 33) E.x dX12_watch_32 rfl rfl ?_
    refine rR_iald (q := 34) (n := 2) E (Nat.le_of_ble_eq_true rfl) rfl rfl dX12_watch_33 rfl ?_
    refine rv_iload_n (q := 35) E.x dX12_watch_34 rfl rfl ?_
    refine rv_b1 (fun r5 e4 => ?_)
    refine rR_calls (q := 38) E (c12_isOf e4) gX12_isOf hX12_isOf ⟨rfl, rfl⟩ ⟨Nat.le_of_ble_eq_true rfl, Nat.le_of_ble_eq_true rfl⟩ rfl rfl rfl (Nat.le_of_ble_eq_true rfl) dX12_watch_35 rfl ?_
    refine rv_istore (q := 40) (lv' := [_, _, _, _, _]) E.x dX12_watch_38 (Nat.le_of_ble_eq_true rfl) rfl rfl rfl ?_
    refine rv_aload_n (q := 41) E.x dX12_watch_40 rfl rfl ?_
    refine rR_get (q := 44) E 50 wf12_50 rfl (Nat.le_of_ble_eq_true rfl) rfl dX12_watch_41 rfl ?_
    refine rv_iload_n (q := 45) E.x dX12_watch_44 rfl rfl ?_
    refine rv_iload_n (q := 46) E.x dX12_watch_45 rfl rfl ?_
    refine rv_ifz_eq (q := 49) (tgt := 62) E.x dX12_watch_46 (by decide) rfl ?_ ?_
    · refine rv_aload_n (q := 50) E.x dX12_watch_49 rfl rfl ?_
      refine rR_get (q := 53) E 50 wf12_50 rfl (Nat.le_of_ble_eq_true rfl) rfl dX12_watch_50 rfl ?_
      refine rv_iload_n (q := 54) E.x dX12_watch_53 rfl rfl ?_
      refine rR_iald (q := 55) (n := 2) E (Nat.le_of_ble_eq_true rfl) rfl rfl dX12_watch_54 rfl ?_
      refine rv_iconst (q := 56) E.x dX12_watch_55 rv_ki1 rfl ?_
      refine rv_iload_n (q := 57) E.x dX12_watch_56 rfl rfl ?_
      refine rv_ishl (q := 58) E.x dX12_watch_57 rfl ?_
      refine rv_ior (q := 59) E.x dX12_watch_58 rfl ?_
      refine rv_goto (q := 74) E.x dX12_watch_59 (by decide) ?_
      refine rv_wk [true, false, false, false, true] ?_
      exact b12_watch_74 E M3 r5 x2 ((M3 50 (x2).toNatClampNeg) ||| (1 <<< (x1 &&& 31)))
    · refine rv_aload_n (q := 63) E.x dX12_watch_62 rfl rfl ?_
      refine rR_get (q := 66) E 50 wf12_50 rfl (Nat.le_of_ble_eq_true rfl) rfl dX12_watch_63 rfl ?_
      refine rv_iload_n (q := 67) E.x dX12_watch_66 rfl rfl ?_
      refine rR_iald (q := 68) (n := 2) E (Nat.le_of_ble_eq_true rfl) rfl rfl dX12_watch_67 rfl ?_
      refine rv_iconst (q := 69) E.x dX12_watch_68 rv_ki1 rfl ?_
      refine rv_iload_n (q := 70) E.x dX12_watch_69 rfl rfl ?_
      refine rv_ishl (q := 71) E.x dX12_watch_70 rfl ?_
      refine rv_iconst (q := 72) E.x dX12_watch_71 rv_kim1 rfl ?_
      refine rv_ixor (q := 73) E.x dX12_watch_72 rfl ?_
      refine rv_iand (q := 74) E.x dX12_watch_73 rfl ?_
      refine rv_wk [true, false, false, false, true] ?_
      exact b12_watch_74 E M3 r5 x2 ((M3 50 (x2).toNatClampNeg) &&& ((1 <<< (x1 &&& 31)) ^^^ (-1)))
set_option maxRecDepth 100000 in
theorem b12_watch_19 {p : Program} {l : Launch} {e : Env} {s : State} {m : MethodId} {args : Array Value} {below : List Frame} {meth : Method} {c : Code} {D : va_G} {cI cZ : ClassId} {ad : Nat → Nat} (E : rR_E D cI cZ ad cX12_watch 5 (some .boolean) p s m args meth c)   : ∀ (M : rv_Mem) (x1 : Int32) (x2 : Int32) (x3 : Bool), rv_M (rR_G D cI cZ ad) (rR_A ad) p l e rm12_watch s m args below meth c 0 0 (rR_qZW D cI cZ ad below args s) (f12_watch_19 M x1 x2 x3) 19 [some (.ref (ad 67)), some (.int x1), some (.int x2), some (.int (rv_i x3)), none] [.ref (ad 67)] M := by
  intro M x1 x2 x3
  unfold f12_watch_19
  refine rv_iconst (q := 20) E.x dX12_watch_19 rv_ki1 rfl ?_
  refine rv_wk [true, true, true, true, false] ?_
  exact b12_watch_20 E M x1 x2 x3 true
set_option maxRecDepth 100000 in
theorem b12_watch {p : Program} {l : Launch} {e : Env} {s : State} {m : MethodId} {args : Array Value} {below : List Frame} {meth : Method} {c : Code} {D : va_G} {cI cZ : ClassId} {ad : Nat → Nat} (E : rR_E D cI cZ ad cX12_watch 5 (some .boolean) p s m args meth c) (M : rv_Mem) (a1 : Int32) (a2 : Int32) (a3 : Bool) : rv_M (rR_G D cI cZ ad) (rR_A ad) p l e rm12_watch s m args below meth c 0 0  (rR_qZW D cI cZ ad below args s) (f12_watch M a1 a2 a3) 0 [some (.ref (ad 67)), some (.int a1), some (.int a2), some (.int (rv_i a3)), none] [] M := by
  unfold f12_watch
  refine rv_aload_n (q := 1) E.x dX12_watch_0 rfl rfl ?_
  refine rv_iload_n (q := 2) E.x dX12_watch_1 rfl rfl ?_
  refine rv_b1 (fun r2 e1 => ?_)
  refine rR_calls (q := 5) E (c12_isPerson e1) gX12_isPerson hX12_isPerson ⟨rfl, rfl⟩ ⟨Nat.le_of_ble_eq_true rfl, Nat.le_of_ble_eq_true rfl⟩ rfl rfl rfl (Nat.le_of_ble_eq_true rfl) dX12_watch_2 rfl ?_
  refine rv_ifz_eq (q := 8) (tgt := 19) E.x dX12_watch_5 (by decide) rfl ?_ ?_
  · refine rv_iload_n (q := 9) E.x dX12_watch_8 rfl rfl ?_
    refine rv_b1 (fun r4 e3 => ?_)
    refine rR_calls (q := 12) E (c12_isRepository e3) gX12_isRepository hX12_isRepository ⟨rfl, rfl⟩ ⟨Nat.le_of_ble_eq_true rfl, Nat.le_of_ble_eq_true rfl⟩ rfl rfl rfl (Nat.le_of_ble_eq_true rfl) dX12_watch_9 rfl ?_
    refine rv_ifz_eq (q := 15) (tgt := 19) E.x dX12_watch_12 (by decide) rfl ?_ ?_
    · refine rv_iconst (q := 16) E.x dX12_watch_15 rv_ki0 rfl ?_
      refine rv_goto (q := 20) E.x dX12_watch_16 (by decide) ?_
      refine rv_wk [true, true, true, true, false] ?_
      exact b12_watch_20 E M a1 a2 a3 false
    · refine rv_wk [true, true, true, true, false] ?_
      exact b12_watch_19 E M a1 a2 a3
  · refine rv_wk [true, true, true, true, false] ?_
    exact b12_watch_19 E M a1 a2 a3
theorem c12_watch {l : Launch} {D : va_G} {cI cZ : ClassId} {ad : Nat → Nat} (hI : rR_I ad) {M : rv_Mem} {a1 : Int32} {a2 : Int32} {a3 : Bool} {r : Bool} {M1 : rv_Mem} (h : f12_watch M a1 a2 a3 = some (r, M1)) : Met l yX12_watch (rv_ws yX12_watch cX12_watch 5 (some .boolean)) rm12_watch (rR_Pc D cI cZ ad [.ref (ad 67), .int a1, .int a2, .int (rv_i a3)] M) (rR_QI D cI cZ ad (rv_i r) M1) 0 0 (rR_A ad) := rR_met hI rfl (rv_cat rfl) (Nat.le_of_ble_eq_true rfl) (fun p e s m args below meth c E => ⟨(rR_qZW D cI cZ ad below args s), rfl, b12_watch E M a1 a2 a3⟩) h
abbrev rm12_mails : Room := { frames := 2, cells := 0, slots := 0, locals := 42 }
set_option maxRecDepth 100000 in
theorem b12_mails_13 {p : Program} {l : Launch} {e : Env} {s : State} {m : MethodId} {args : Array Value} {below : List Frame} {meth : Method} {c : Code} {D : va_G} {cI cZ : ClassId} {ad : Nat → Nat} (E : rR_E D cI cZ ad cX12_mails 2 (some .int) p s m args meth c)   : ∀ (M : rv_Mem) (x1 : Int32) (s1 : Bool), rv_M (rR_G D cI cZ ad) (rR_A ad) p l e rm12_mails s m args below meth c 0 0 (rR_qIW D cI cZ ad below args s) (f12_mails_13 M x1 s1) 13 [some (.ref (ad 67)), some (.int x1)] [.int (rv_i s1), .ref (ad 67)] M := by
  intro M x1 s1
  unfold f12_mails_13
  refine rv_b2 (fun r2 M3 e1 => ?_)
  refine rR_calli (q := 16) E (c12_goes E.2.2.1 e1) gX12_goes hX12_goes ⟨rfl, rfl⟩ ⟨Nat.le_of_ble_eq_true rfl, Nat.le_of_ble_eq_true rfl⟩ rfl rfl rfl (Nat.le_of_ble_eq_true rfl) dX12_mails_13 rfl ?_
  refine rv_ifz_eq (q := 19) (tgt := 28) E.x dX12_mails_16 (by decide) rfl ?_ ?_
  · refine rv_aload_n (q := 20) E.x dX12_mails_19 rfl rfl ?_
    refine rR_get (q := 23) E 51 wf12_51 rfl (Nat.le_of_ble_eq_true rfl) rfl dX12_mails_20 rfl ?_
    refine rv_iload_n (q := 24) E.x dX12_mails_23 rfl rfl ?_
    refine rR_iald (q := 25) (n := 6) E (Nat.le_of_ble_eq_true rfl) rfl rfl dX12_mails_24 rfl ?_
    refine rv_goto (q := 29) E.x dX12_mails_25 (by decide) ?_
    exact rR_iret E rfl dX12_mails_29
  · refine rv_iconst (q := 29) E.x dX12_mails_28 rv_ki0 rfl ?_
    exact rR_iret E rfl dX12_mails_29
set_option maxRecDepth 100000 in
theorem b12_mails {p : Program} {l : Launch} {e : Env} {s : State} {m : MethodId} {args : Array Value} {below : List Frame} {meth : Method} {c : Code} {D : va_G} {cI cZ : ClassId} {ad : Nat → Nat} (E : rR_E D cI cZ ad cX12_mails 2 (some .int) p s m args meth c) (M : rv_Mem) (a1 : Int32) : rv_M (rR_G D cI cZ ad) (rR_A ad) p l e rm12_mails s m args below meth c 0 0  (rR_qIW D cI cZ ad below args s) (f12_mails M a1) 0 [some (.ref (ad 67)), some (.int a1)] [] M := by
  unfold f12_mails
  refine rv_aload_n (q := 1) E.x dX12_mails_0 rfl rfl ?_
  refine rv_iload_n (q := 2) E.x dX12_mails_1 rfl rfl ?_
  refine rv_b1 (fun r2 e1 => ?_)
  refine rR_calls (q := 5) E (c12_isPerson e1) gX12_isPerson hX12_isPerson ⟨rfl, rfl⟩ ⟨Nat.le_of_ble_eq_true rfl, Nat.le_of_ble_eq_true rfl⟩ rfl rfl rfl (Nat.le_of_ble_eq_true rfl) dX12_mails_2 rfl ?_
  refine rv_ifz_eq (q := 8) (tgt := 12) E.x dX12_mails_5 (by decide) rfl ?_ ?_
  · refine rv_iconst (q := 9) E.x dX12_mails_8 rv_ki0 rfl ?_
    refine rv_goto (q := 13) E.x dX12_mails_9 (by decide) ?_
    refine rv_wk [true, true] ?_
    exact b12_mails_13 E M a1 false
  · refine rv_iconst (q := 13) E.x dX12_mails_12 rv_ki1 rfl ?_
    refine rv_wk [true, true] ?_
    exact b12_mails_13 E M a1 true
theorem c12_mails {l : Launch} {D : va_G} {cI cZ : ClassId} {ad : Nat → Nat} (hI : rR_I ad) {M : rv_Mem} {a1 : Int32} {r : Int32} {M1 : rv_Mem} (h : f12_mails M a1 = some (r, M1)) : Met l yX12_mails (rv_ws yX12_mails cX12_mails 2 (some .int)) rm12_mails (rR_Pc D cI cZ ad [.ref (ad 67), .int a1] M) (rR_QI D cI cZ ad r M1) 0 0 (rR_A ad) := rR_met hI rfl (rv_cat rfl) (Nat.le_of_ble_eq_true rfl) (fun p e s m args below meth c E => ⟨(rR_qIW D cI cZ ad below args s), rfl, b12_mails E M a1⟩) h
abbrev rm12_advance : Room := { frames := 5, cells := 0, slots := 0, locals := 112 }
set_option maxRecDepth 100000 in
theorem b12_advance_108 {p : Program} {l : Launch} {e : Env} {s : State} {m : MethodId} {args : Array Value} {below : List Frame} {meth : Method} {c : Code} {D : va_G} {cI cZ : ClassId} {ad : Nat → Nat} (E : rR_E D cI cZ ad cX12_advance 5 (some .int) p s m args meth c) (k44 : rv_Mem → Int32 → Int32 → Int32 → Option (Int32 × rv_Mem)) (k62 : rv_Mem → Int32 → Int32 → Int32 → Int32 → Option (Int32 × rv_Mem)) (h44 : ∀ (M : rv_Mem) (x1 : Int32) (x2 : Int32) (x3 : Int32), rv_M (rR_G D cI cZ ad) (rR_A ad) p l e rm12_advance s m args below meth c 0 0 (rR_qIW D cI cZ ad below args s) (k44 M x1 x2 x3) 44 [some (.ref (ad 67)), some (.int x1), some (.int x2), some (.int x3), none] [] M) (h62 : ∀ (M : rv_Mem) (x1 : Int32) (x2 : Int32) (x3 : Int32) (x4 : Int32), rv_M (rR_G D cI cZ ad) (rR_A ad) p l e rm12_advance s m args below meth c 0 0 (rR_qIW D cI cZ ad below args s) (k62 M x1 x2 x3 x4) 62 [some (.ref (ad 67)), some (.int x1), some (.int x2), some (.int x3), some (.int x4)] [] M) : ∀ (M : rv_Mem) (x1 : Int32) (x2 : Int32) (x3 : Int32) (x4 : Int32), rv_M (rR_G D cI cZ ad) (rR_A ad) p l e rm12_advance s m args below meth c 0 0 (rR_qIW D cI cZ ad below args s) (f12_advance_108 k44 k62 M x1 x2 x3 x4) 108 [some (.ref (ad 67)), some (.int x1), some (.int x2), some (.int x3), some (.int x4)] [] M := by
  intro M x1 x2 x3 x4
  unfold f12_advance_108
  refine rv_iinc (q := 111) (lv' := [_, _, _, _, _]) E.x dX12_advance_108 rv_ki1 rfl rfl rfl rfl ?_
  refine rv_goto (q := 62) E.x dX12_advance_111 (by decide) ?_
  refine rv_wk [true, true, true, true, true] ?_
  exact h62 M x1 x2 x3 (x4 + 1)
set_option maxRecDepth 100000 in
theorem b12_advance_62_s {p : Program} {l : Launch} {e : Env} {s : State} {m : MethodId} {args : Array Value} {below : List Frame} {meth : Method} {c : Code} {D : va_G} {cI cZ : ClassId} {ad : Nat → Nat} (E : rR_E D cI cZ ad cX12_advance 5 (some .int) p s m args meth c) (k44 : rv_Mem → Int32 → Int32 → Int32 → Option (Int32 × rv_Mem)) (h44 : ∀ (M : rv_Mem) (x1 : Int32) (x2 : Int32) (x3 : Int32), rv_M (rR_G D cI cZ ad) (rR_A ad) p l e rm12_advance s m args below meth c 0 0 (rR_qIW D cI cZ ad below args s) (k44 M x1 x2 x3) 44 [some (.ref (ad 67)), some (.int x1), some (.int x2), some (.int x3), none] [] M) (k62 : rv_Mem → Int32 → Int32 → Int32 → Int32 → Option (Int32 × rv_Mem)) (h62 : ∀ (M : rv_Mem) (x1 : Int32) (x2 : Int32) (x3 : Int32) (x4 : Int32), rv_M (rR_G D cI cZ ad) (rR_A ad) p l e rm12_advance s m args below meth c 0 0 (rR_qIW D cI cZ ad below args s) (k62 M x1 x2 x3 x4) 62 [some (.ref (ad 67)), some (.int x1), some (.int x2), some (.int x3), some (.int x4)] [] M) : ∀ (M : rv_Mem) (x1 : Int32) (x2 : Int32) (x3 : Int32) (x4 : Int32), rv_M (rR_G D cI cZ ad) (rR_A ad) p l e rm12_advance s m args below meth c 0 0 (rR_qIW D cI cZ ad below args s) (f12_advance_62_s k44 k62 M x1 x2 x3 x4) 62 [some (.ref (ad 67)), some (.int x1), some (.int x2), some (.int x3), some (.int x4)] [] M := by
  intro M x1 x2 x3 x4
  unfold f12_advance_62_s
  refine rv_iload (q := 64) E.x dX12_advance_62 rfl rfl ?_
  refine rv_aload_n (q := 65) E.x dX12_advance_64 rfl rfl ?_
  refine rR_get (q := 68) E 11 wf12_11 rfl (Nat.le_of_ble_eq_true rfl) rfl dX12_advance_65 rfl ?_
  refine rv_icmp_ge (q := 71) (tgt := 114) E.x dX12_advance_68 (by decide) rfl ?_ ?_
  · refine rv_aload_n (q := 72) E.x dX12_advance_71 rfl rfl ?_
    refine rR_get (q := 75) E 13 wf12_13 rfl (Nat.le_of_ble_eq_true rfl) rfl dX12_advance_72 rfl ?_
    refine rv_iload (q := 77) E.x dX12_advance_75 rfl rfl ?_
    refine rR_iald (q := 78) (n := 20) E (Nat.le_of_ble_eq_true rfl) rfl rfl dX12_advance_77 rfl ?_
    refine rv_if_ne (q := 81) (tgt := 108) E.x dX12_advance_78 (by decide) rfl ?_ ?_
    · refine rv_aload_n (q := 82) E.x dX12_advance_81 rfl rfl ?_
      refine rR_get (q := 85) E 52 wf12_52 rfl (Nat.le_of_ble_eq_true rfl) rfl dX12_advance_82 rfl ?_
      refine rv_aload_n (q := 86) E.x dX12_advance_85 rfl rfl ?_
      refine rR_get (q := 89) E 21 wf12_21 rfl (Nat.le_of_ble_eq_true rfl) rfl dX12_advance_86 rfl ?_
      refine rv_iload (q := 91) E.x dX12_advance_89 rfl rfl ?_
      refine rR_iald (q := 92) (n := 20) E (Nat.le_of_ble_eq_true rfl) rfl rfl dX12_advance_91 rfl ?_
      refine rv_isub (q := 93) E.x dX12_advance_92 rfl ?_
      refine rv_bipush (q := 95) E.x dX12_advance_93 rv_kb30 rfl ?_
      refine rv_icmp_lt (q := 98) (tgt := 108) E.x dX12_advance_95 (by decide) rfl ?_ ?_
      · refine rv_aload_n (q := 99) E.x dX12_advance_98 rfl rfl ?_
        refine rv_iload (q := 101) E.x dX12_advance_99 rfl rfl ?_
        refine rv_iconst (q := 102) E.x dX12_advance_101 rv_kim1 rfl ?_
        refine rv_b1 (fun M2 e1 => ?_)
        refine rR_callv (q := 105) E (c12_abandons E.2.2.1 e1) gX12_abandons hX12_abandons ⟨rfl, rfl⟩ ⟨Nat.le_of_ble_eq_true rfl, Nat.le_of_ble_eq_true rfl⟩ rfl rfl rfl (Nat.le_of_ble_eq_true rfl) dX12_advance_102 rfl ?_
        refine rv_iinc (q := 108) (lv' := [_, _, _, _, _]) E.x dX12_advance_105 rv_ki1 rfl rfl rfl rfl ?_
        refine rv_wk [true, true, true, true, true] ?_
        exact b12_advance_108 E k44 k62 h44 h62 M2 x1 (x2 + 1) x3 x4
      · refine rv_wk [true, true, true, true, true] ?_
        exact b12_advance_108 E k44 k62 h44 h62 M x1 x2 x3 x4
    · refine rv_wk [true, true, true, true, true] ?_
      exact b12_advance_108 E k44 k62 h44 h62 M x1 x2 x3 x4
  · refine rv_iinc (q := 117) (lv' := [_, _, _, _, _]) E.x dX12_advance_114 rv_ki1 rfl rfl rfl rfl ?_
    refine rv_goto (q := 44) E.x dX12_advance_117 (by decide) ?_
    refine rv_wk [true, true, true, true, false] ?_
    exact h44 M x1 x2 (x3 + 1)
theorem b12_advance_62 {p : Program} {l : Launch} {e : Env} {s : State} {m : MethodId} {args : Array Value} {below : List Frame} {meth : Method} {c : Code} {D : va_G} {cI cZ : ClassId} {ad : Nat → Nat} (E : rR_E D cI cZ ad cX12_advance 5 (some .int) p s m args meth c) (k44 : rv_Mem → Int32 → Int32 → Int32 → Option (Int32 × rv_Mem)) (h44 : ∀ (M : rv_Mem) (x1 : Int32) (x2 : Int32) (x3 : Int32), rv_M (rR_G D cI cZ ad) (rR_A ad) p l e rm12_advance s m args below meth c 0 0 (rR_qIW D cI cZ ad below args s) (k44 M x1 x2 x3) 44 [some (.ref (ad 67)), some (.int x1), some (.int x2), some (.int x3), none] [] M) : ∀ (n : Nat), ∀ (M : rv_Mem) (x1 : Int32) (x2 : Int32) (x3 : Int32) (x4 : Int32), rv_M (rR_G D cI cZ ad) (rR_A ad) p l e rm12_advance s m args below meth c 0 0 (rR_qIW D cI cZ ad below args s) (f12_advance_62 k44 n M x1 x2 x3 x4) 62 [some (.ref (ad 67)), some (.int x1), some (.int x2), some (.int x3), some (.int x4)] [] M := by
  intro n
  induction n with
  | zero => exact fun _ _ _ _ _ => rv_stuck
  | succ n ih => exact b12_advance_62_s E k44 h44 (f12_advance_62 k44 n) ih
set_option maxRecDepth 100000 in
theorem b12_advance_44_s {p : Program} {l : Launch} {e : Env} {s : State} {m : MethodId} {args : Array Value} {below : List Frame} {meth : Method} {c : Code} {D : va_G} {cI cZ : ClassId} {ad : Nat → Nat} (E : rR_E D cI cZ ad cX12_advance 5 (some .int) p s m args meth c)   (k44 : rv_Mem → Int32 → Int32 → Int32 → Option (Int32 × rv_Mem)) (h44 : ∀ (M : rv_Mem) (x1 : Int32) (x2 : Int32) (x3 : Int32), rv_M (rR_G D cI cZ ad) (rR_A ad) p l e rm12_advance s m args below meth c 0 0 (rR_qIW D cI cZ ad below args s) (k44 M x1 x2 x3) 44 [some (.ref (ad 67)), some (.int x1), some (.int x2), some (.int x3), none] [] M) : ∀ (M : rv_Mem) (x1 : Int32) (x2 : Int32) (x3 : Int32), rv_M (rR_G D cI cZ ad) (rR_A ad) p l e rm12_advance s m args below meth c 0 0 (rR_qIW D cI cZ ad below args s) (f12_advance_44_s k44 M x1 x2 x3) 44 [some (.ref (ad 67)), some (.int x1), some (.int x2), some (.int x3), none] [] M := by
  intro M x1 x2 x3
  unfold f12_advance_44_s
  refine rv_iload_n (q := 45) E.x dX12_advance_44 rfl rfl ?_
  refine rv_iload_n (q := 46) E.x dX12_advance_45 rfl rfl ?_
  refine rv_icmp_ge (q := 49) (tgt := 120) E.x dX12_advance_46 (by decide) rfl ?_ ?_
  · refine rv_aload_n (q := 50) E.x dX12_advance_49 rfl rfl ?_
    refine rv_dup (q := 51) E.x dX12_advance_50 rfl rfl ?_
    refine rR_get (q := 54) E 52 wf12_52 rfl (Nat.le_of_ble_eq_true rfl) rfl dX12_advance_51 rfl ?_
    refine rv_iconst (q := 55) E.x dX12_advance_54 rv_ki1 rfl ?_
    refine rv_iadd (q := 56) E.x dX12_advance_55 rfl ?_
    refine rR_put (q := 59) E 52 wf12_52 rfl (Nat.le_of_ble_eq_true rfl) rfl rfl rfl dX12_advance_56 rfl ?_
    refine rv_ltm (fun M1 => ?_)
    refine rv_iconst (q := 60) E.x dX12_advance_59 rv_ki0 rfl ?_
    refine rv_istore (q := 62) (lv' := [_, _, _, _, _]) E.x dX12_advance_60 (Nat.le_of_ble_eq_true rfl) rfl rfl rfl ?_
    refine rv_wk [true, true, true, true, true] ?_
    exact b12_advance_62 E k44 h44 rv_FU M1 x1 x2 x3 0
  · refine rv_iload_n (q := 121) E.x dX12_advance_120 rfl rfl ?_
    exact rR_iret E rfl dX12_advance_121
theorem b12_advance_44 {p : Program} {l : Launch} {e : Env} {s : State} {m : MethodId} {args : Array Value} {below : List Frame} {meth : Method} {c : Code} {D : va_G} {cI cZ : ClassId} {ad : Nat → Nat} (E : rR_E D cI cZ ad cX12_advance 5 (some .int) p s m args meth c)   : ∀ (n : Nat), ∀ (M : rv_Mem) (x1 : Int32) (x2 : Int32) (x3 : Int32), rv_M (rR_G D cI cZ ad) (rR_A ad) p l e rm12_advance s m args below meth c 0 0 (rR_qIW D cI cZ ad below args s) (f12_advance_44 n M x1 x2 x3) 44 [some (.ref (ad 67)), some (.int x1), some (.int x2), some (.int x3), none] [] M := by
  intro n
  induction n with
  | zero => exact fun _ _ _ _ => rv_stuck
  | succ n ih => exact b12_advance_44_s E  (f12_advance_44 n) ih
set_option maxRecDepth 100000 in
theorem b12_advance_32 {p : Program} {l : Launch} {e : Env} {s : State} {m : MethodId} {args : Array Value} {below : List Frame} {meth : Method} {c : Code} {D : va_G} {cI cZ : ClassId} {ad : Nat → Nat} (E : rR_E D cI cZ ad cX12_advance 5 (some .int) p s m args meth c)   : ∀ (M : rv_Mem) (x1 : Int32) (s1 : Int32), rv_M (rR_G D cI cZ ad) (rR_A ad) p l e rm12_advance s m args below meth c 0 0 (rR_qIW D cI cZ ad below args s) (f12_advance_32 M x1 s1) 32 [some (.ref (ad 67)), some (.int x1), none, none, none] [.int s1, .ref (ad 67)] M := by
  intro M x1 s1
  unfold f12_advance_32
  refine rv_b2 (fun r2 M3 e1 => ?_)
  refine rR_calli (q := 35) E (c12_goes E.2.2.1 e1) gX12_goes hX12_goes ⟨rfl, rfl⟩ ⟨Nat.le_of_ble_eq_true rfl, Nat.le_of_ble_eq_true rfl⟩ rfl rfl rfl (Nat.le_of_ble_eq_true rfl) dX12_advance_32 rfl ?_
  refine rv_ifz_ne (q := 38) (tgt := 40) E.x dX12_advance_35 (by decide) rfl ?_ ?_
  · refine rv_iconst (q := 39) E.x dX12_advance_38 rv_ki0 rfl ?_
    exact rR_iret E rfl dX12_advance_39
  · refine rv_iconst (q := 41) E.x dX12_advance_40 rv_ki0 rfl ?_
    refine rv_istore_n (q := 42) (lv' := [_, _, _, _, _]) E.x dX12_advance_41 (Nat.le_of_ble_eq_true rfl) rfl rfl rfl ?_
    refine rv_iconst (q := 43) E.x dX12_advance_42 rv_ki0 rfl ?_
    refine rv_istore_n (q := 44) (lv' := [_, _, _, _, _]) E.x dX12_advance_43 (Nat.le_of_ble_eq_true rfl) rfl rfl rfl ?_
    refine rv_wk [true, true, true, true, false] ?_
    exact b12_advance_44 E rv_FU M3 x1 0 0
set_option maxRecDepth 100000 in
theorem b12_advance {p : Program} {l : Launch} {e : Env} {s : State} {m : MethodId} {args : Array Value} {below : List Frame} {meth : Method} {c : Code} {D : va_G} {cI cZ : ClassId} {ad : Nat → Nat} (E : rR_E D cI cZ ad cX12_advance 5 (some .int) p s m args meth c) (M : rv_Mem) (a1 : Int32) : rv_M (rR_G D cI cZ ad) (rR_A ad) p l e rm12_advance s m args below meth c 0 0  (rR_qIW D cI cZ ad below args s) (f12_advance M a1) 0 [some (.ref (ad 67)), some (.int a1), none, none, none] [] M := by
  unfold f12_advance
  refine rv_aload_n (q := 1) E.x dX12_advance_0 rfl rfl ?_
  refine rv_iload_n (q := 2) E.x dX12_advance_1 rfl rfl ?_
  refine rv_iconst (q := 3) E.x dX12_advance_2 rv_ki1 rfl ?_
  refine rv_bipush (q := 5) E.x dX12_advance_3 rv_kb100 rfl ?_
  refine rv_b1 (fun r2 e1 => ?_)
  refine rR_calls (q := 8) E (c12_isIn e1) gX12_isIn hX12_isIn ⟨rfl, rfl⟩ ⟨Nat.le_of_ble_eq_true rfl, Nat.le_of_ble_eq_true rfl⟩ rfl rfl rfl (Nat.le_of_ble_eq_true rfl) dX12_advance_5 rfl ?_
  refine rv_ifz_ne (q := 11) (tgt := 15) E.x dX12_advance_8 (by decide) rfl ?_ ?_
  · refine rv_iconst (q := 12) E.x dX12_advance_11 rv_ki1 rfl ?_
    refine rv_goto (q := 32) E.x dX12_advance_12 (by decide) ?_
    refine rv_wk [true, true, false, false, false] ?_
    exact b12_advance_32 E M a1 1
  · refine rv_aload_n (q := 16) E.x dX12_advance_15 rfl rfl ?_
    refine rR_get (q := 19) E 52 wf12_52 rfl (Nat.le_of_ble_eq_true rfl) rfl dX12_advance_16 rfl ?_
    refine rv_iload_n (q := 20) E.x dX12_advance_19 rfl rfl ?_
    refine rv_iadd (q := 21) E.x dX12_advance_20 rfl ?_
    refine rv_sipush (q := 24) E.x dX12_advance_21 rv_ks10000 rfl ?_
    refine rv_icmp_le (q := 27) (tgt := 31) E.x dX12_advance_24 (by decide) rfl ?_ ?_
    · refine rv_iconst (q := 28) E.x dX12_advance_27 rv_ki2 rfl ?_
      refine rv_goto (q := 32) E.x dX12_advance_28 (by decide) ?_
      refine rv_wk [true, true, false, false, false] ?_
      exact b12_advance_32 E M a1 2
    · refine rv_iconst (q := 32) E.x dX12_advance_31 rv_ki0 rfl ?_
      refine rv_wk [true, true, false, false, false] ?_
      exact b12_advance_32 E M a1 0
theorem c12_advance {l : Launch} {D : va_G} {cI cZ : ClassId} {ad : Nat → Nat} (hI : rR_I ad) {M : rv_Mem} {a1 : Int32} {r : Int32} {M1 : rv_Mem} (h : f12_advance M a1 = some (r, M1)) : Met l yX12_advance (rv_ws yX12_advance cX12_advance 5 (some .int)) rm12_advance (rR_Pc D cI cZ ad [.ref (ad 67), .int a1] M) (rR_QI D cI cZ ad r M1) 0 0 (rR_A ad) := rR_met hI rfl (rv_cat rfl) (Nat.le_of_ble_eq_true rfl) (fun p e s m args below meth c E => ⟨(rR_qIW D cI cZ ad below args s), rfl, b12_advance E M a1⟩) h
abbrev rm12_day : Room := { frames := 0, cells := 0, slots := 0, locals := 0 }
set_option maxRecDepth 100000 in
theorem b12_day {p : Program} {l : Launch} {e : Env} {s : State} {m : MethodId} {args : Array Value} {below : List Frame} {meth : Method} {c : Code} {D : va_G} {cI cZ : ClassId} {ad : Nat → Nat} (E : rR_E D cI cZ ad cX12_day 1 (some .int) p s m args meth c) (M : rv_Mem)  : rv_M (rR_G D cI cZ ad) (rR_A ad) p l e rm12_day s m args below meth c 0 0  (rR_qIW D cI cZ ad below args s) (f12_day M) 0 [some (.ref (ad 67))] [] M := by
  unfold f12_day
  refine rv_aload_n (q := 1) E.x dX12_day_0 rfl rfl ?_
  refine rv_iconst (q := 2) E.x dX12_day_1 rv_ki0 rfl ?_
  refine rR_put (q := 5) E 66 wf12_66 rfl (Nat.le_of_ble_eq_true rfl) rfl rfl rfl dX12_day_2 rfl ?_
  refine rv_ltm (fun M1 => ?_)
  refine rv_aload_n (q := 6) E.x dX12_day_5 rfl rfl ?_
  refine rR_get (q := 9) E 52 wf12_52 rfl (Nat.le_of_ble_eq_true rfl) rfl dX12_day_6 rfl ?_
  exact rR_iret E rfl dX12_day_9
theorem c12_day {l : Launch} {D : va_G} {cI cZ : ClassId} {ad : Nat → Nat} (hI : rR_I ad) {M : rv_Mem} {r : Int32} {M1 : rv_Mem} (h : f12_day M = some (r, M1)) : Met l yX12_day (rv_ws yX12_day cX12_day 1 (some .int)) rm12_day (rR_Pc D cI cZ ad [.ref (ad 67)] M) (rR_QI D cI cZ ad r M1) 0 0 (rR_A ad) := rR_met hI rfl (rv_cat rfl) (Nat.le_of_ble_eq_true rfl) (fun p e s m args below meth c E => ⟨(rR_qIW D cI cZ ad below args s), rfl, b12_day E M ⟩) h

