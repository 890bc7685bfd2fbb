abbrev rm12_worthOf : Room := { frames := 6, cells := 0, slots := 0, locals := 161 }
set_option maxRecDepth 100000 in
theorem b12_worthOf_155 {p : Program} {l : Launch} {e : Env} {s : State} {m : MethodId} {args : Array Value} {below : List Frame} {meth : Method} {c : Code} {D : va_G} {cI cZ : ClassId} {ad : Nat → Nat} (E : rR_E D cI cZ ad cX12_worthOf 10 (some .int) p s m args meth c) (k97 : rv_Mem → Int32 → Int32 → Int32 → Int32 → Int32 → Option (Int32 × rv_Mem)) (h97 : ∀ (M : rv_Mem) (x2 : Int32) (x3 : Int32) (x4 : Int32) (x7 : Int32) (x8 : Int32), rv_M (rR_G D cI cZ ad) (rR_A ad) p l e rm12_worthOf s m args below meth c 0 0 (rR_qIW D cI cZ ad below args s) (k97 M x2 x3 x4 x7 x8) 97 [some (.ref (ad 67)), none, some (.int x2), some (.int x3), some (.int x4), none, none, some (.int x7), some (.int x8), none] [] M) : ∀ (M : rv_Mem) (x2 : Int32) (x3 : Int32) (x4 : Int32) (x8 : Int32) (s0 : Int32), rv_M (rR_G D cI cZ ad) (rR_A ad) p l e rm12_worthOf s m args below meth c 0 0 (rR_qIW D cI cZ ad below args s) (f12_worthOf_155 k97 M x2 x3 x4 x8 s0) 155 [some (.ref (ad 67)), none, some (.int x2), some (.int x3), some (.int x4), none, none, none, some (.int x8), none] [.int s0] M := by
  intro M x2 x3 x4 x8 s0
  unfold f12_worthOf_155
  refine rv_istore (q := 157) (lv' := [_, _, _, _, _, _, _, _, _, _]) E.x dX12_worthOf_155 (Nat.le_of_ble_eq_true rfl) rfl rfl rfl ?_
  refine rv_iinc (q := 160) (lv' := [_, _, _, _, _, _, _, _, _, _]) E.x dX12_worthOf_157 rv_ki1 rfl rfl rfl rfl ?_
  refine rv_goto (q := 97) E.x dX12_worthOf_160 (by decide) ?_
  refine rv_wk [true, false, true, true, true, false, false, true, true, false] ?_
  exact h97 M x2 x3 x4 s0 (x8 + 1)
set_option maxRecDepth 100000 in
theorem b12_worthOf_97_s {p : Program} {l : Launch} {e : Env} {s : State} {m : MethodId} {args : Array Value} {below : List Frame} {meth : Method} {c : Code} {D : va_G} {cI cZ : ClassId} {ad : Nat → Nat} (E : rR_E D cI cZ ad cX12_worthOf 10 (some .int) p s m args meth c)   (k97 : rv_Mem → Int32 → Int32 → Int32 → Int32 → Int32 → Option (Int32 × rv_Mem)) (h97 : ∀ (M : rv_Mem) (x2 : Int32) (x3 : Int32) (x4 : Int32) (x7 : Int32) (x8 : Int32), rv_M (rR_G D cI cZ ad) (rR_A ad) p l e rm12_worthOf s m args below meth c 0 0 (rR_qIW D cI cZ ad below args s) (k97 M x2 x3 x4 x7 x8) 97 [some (.ref (ad 67)), none, some (.int x2), some (.int x3), some (.int x4), none, none, some (.int x7), some (.int x8), none] [] M) : ∀ (M : rv_Mem) (x2 : Int32) (x3 : Int32) (x4 : Int32) (x7 : Int32) (x8 : Int32), rv_M (rR_G D cI cZ ad) (rR_A ad) p l e rm12_worthOf s m args below meth c 0 0 (rR_qIW D cI cZ ad below args s) (f12_worthOf_97_s k97 M x2 x3 x4 x7 x8) 97 [some (.ref (ad 67)), none, some (.int x2), some (.int x3), some (.int x4), none, none, some (.int x7), some (.int x8), none] [] M := by
  intro M x2 x3 x4 x7 x8
  unfold f12_worthOf_97_s
  refine rv_iload (q := 99) E.x dX12_worthOf_97 rfl rfl ?_
  refine rv_aload_n (q := 100) E.x dX12_worthOf_99 rfl rfl ?_
  refine rR_get (q := 103) E 6 wf12_6 rfl (Nat.le_of_ble_eq_true rfl) rfl dX12_worthOf_100 rfl ?_
  refine rv_iload_n (q := 104) E.x dX12_worthOf_103 rfl rfl ?_
  refine rR_iald (q := 105) (n := 82) E (Nat.le_of_ble_eq_true rfl) rfl rfl dX12_worthOf_104 rfl ?_
  refine rv_icmp_gt (q := 108) (tgt := 163) E.x dX12_worthOf_105 (by decide) rfl ?_ ?_
  · refine rv_iload (q := 110) E.x dX12_worthOf_108 rfl rfl ?_
    refine rv_if_eq (q := 113) (tgt := 163) E.x dX12_worthOf_110 (by decide) rfl ?_ ?_
    · refine rv_aload_n (q := 114) E.x dX12_worthOf_113 rfl rfl ?_
      refine rv_aload_n (q := 115) E.x dX12_worthOf_114 rfl rfl ?_
      refine rv_iload (q := 117) E.x dX12_worthOf_115 rfl rfl ?_
      refine rv_iload (q := 119) E.x dX12_worthOf_117 rfl rfl ?_
      refine rv_b1 (fun r2 e1 => ?_)
      refine rR_calli (q := 122) E (c12_commitAt E.2.2.1 e1) gX12_commitAt hX12_commitAt ⟨rfl, rfl⟩ ⟨Nat.le_of_ble_eq_true rfl, Nat.le_of_ble_eq_true rfl⟩ rfl rfl rfl (Nat.le_of_ble_eq_true rfl) dX12_worthOf_119 rfl ?_
      refine rv_b2 (fun r4 M5 e3 => ?_)
      refine rR_calli (q := 125) E (c12_kindAt E.2.2.1 e3) gX12_kindAt hX12_kindAt ⟨rfl, rfl⟩ ⟨Nat.le_of_ble_eq_true rfl, Nat.le_of_ble_eq_true rfl⟩ rfl rfl rfl (Nat.le_of_ble_eq_true rfl) dX12_worthOf_122 rfl ?_
      refine rv_istore (q := 127) (lv' := [_, _, _, _, _, _, _, _, _, _]) E.x dX12_worthOf_125 (Nat.le_of_ble_eq_true rfl) rfl rfl rfl ?_
      refine rv_aload_n (q := 128) E.x dX12_worthOf_127 rfl rfl ?_
      refine rR_get (q := 131) E 23 wf12_23 rfl (Nat.le_of_ble_eq_true rfl) rfl dX12_worthOf_128 rfl ?_
      refine rv_iconst (q := 132) E.x dX12_worthOf_131 rv_ki3 rfl ?_
      refine rv_iload_n (q := 133) E.x dX12_worthOf_132 rfl rfl ?_
      refine rv_imul (q := 134) E.x dX12_worthOf_133 rfl ?_
      refine rv_iload (q := 136) E.x dX12_worthOf_134 rfl rfl ?_
      refine rv_iadd (q := 137) E.x dX12_worthOf_136 rfl ?_
      refine rR_iald (q := 138) (n := 6) E (Nat.le_of_ble_eq_true rfl) rfl rfl dX12_worthOf_137 rfl ?_
      refine rv_iload (q := 140) E.x dX12_worthOf_138 rfl rfl ?_
      refine rv_iconst (q := 141) E.x dX12_worthOf_140 rv_ki2 rfl ?_
      refine rv_iadd (q := 142) E.x dX12_worthOf_141 rfl ?_
      refine rv_ishr (q := 143) E.x dX12_worthOf_142 rfl ?_
      refine rv_iconst (q := 144) E.x dX12_worthOf_143 rv_ki1 rfl ?_
      refine rv_iand (q := 145) E.x dX12_worthOf_144 rfl ?_
      refine rv_iconst (q := 146) E.x dX12_worthOf_145 rv_ki1 rfl ?_
      refine rv_icmp_ne (q := 149) (tgt := 154) E.x dX12_worthOf_146 (by decide) rfl ?_ ?_
      · refine rv_iload (q := 151) E.x dX12_worthOf_149 rfl rfl ?_
        refine rv_goto (q := 155) E.x dX12_worthOf_151 (by decide) ?_
        refine rv_wk [true, false, true, true, true, false, false, false, true, false] ?_
        exact b12_worthOf_155 E k97 h97 M5 x2 x3 x4 x8 x7
      · refine rv_iconst (q := 155) E.x dX12_worthOf_154 rv_ki0 rfl ?_
        refine rv_wk [true, false, true, true, true, false, false, false, true, false] ?_
        exact b12_worthOf_155 E k97 h97 M5 x2 x3 x4 x8 0
    · refine rv_iload (q := 165) E.x dX12_worthOf_163 rfl rfl ?_
      exact rR_iret E rfl dX12_worthOf_165
  · refine rv_iload (q := 165) E.x dX12_worthOf_163 rfl rfl ?_
    exact rR_iret E rfl dX12_worthOf_165
theorem b12_worthOf_97 {p : Program} {l : Launch} {e : Env} {s : State} {m : MethodId} {args : Array Value} {below : List Frame} {meth : Method} {c : Code} {D : va_G} {cI cZ : ClassId} {ad : Nat → Nat} (E : rR_E D cI cZ ad cX12_worthOf 10 (some .int) p s m args meth c)   : ∀ (n : Nat), ∀ (M : rv_Mem) (x2 : Int32) (x3 : Int32) (x4 : Int32) (x7 : Int32) (x8 : Int32), rv_M (rR_G D cI cZ ad) (rR_A ad) p l e rm12_worthOf s m args below meth c 0 0 (rR_qIW D cI cZ ad below args s) (f12_worthOf_97 n M x2 x3 x4 x7 x8) 97 [some (.ref (ad 67)), none, some (.int x2), some (.int x3), some (.int x4), none, none, some (.int x7), some (.int x8), none] [] M := by
  intro n
  induction n with
  | zero => exact fun _ _ _ _ _ _ => rv_stuck
  | succ n ih => exact b12_worthOf_97_s E  (f12_worthOf_97 n) ih
set_option maxRecDepth 100000 in
theorem b12_worthOf_89 {p : Program} {l : Launch} {e : Env} {s : State} {m : MethodId} {args : Array Value} {below : List Frame} {meth : Method} {c : Code} {D : va_G} {cI cZ : ClassId} {ad : Nat → Nat} (E : rR_E D cI cZ ad cX12_worthOf 10 (some .int) p s m args meth c)   : ∀ (M : rv_Mem) (x2 : Int32) (x3 : Int32) (x4 : Int32) (x5 : Int32) (s0 : Int32), rv_M (rR_G D cI cZ ad) (rR_A ad) p l e rm12_worthOf s m args below meth c 0 0 (rR_qIW D cI cZ ad below args s) (f12_worthOf_89 M x2 x3 x4 x5 s0) 89 [some (.ref (ad 67)), none, some (.int x2), some (.int x3), some (.int x4), some (.int x5), none, none, none, none] [.int s0] M := by
  intro M x2 x3 x4 x5 s0
  unfold f12_worthOf_89
  refine rv_istore (q := 91) (lv' := [_, _, _, _, _, _, _, _, _, _]) E.x dX12_worthOf_89 (Nat.le_of_ble_eq_true rfl) rfl rfl rfl ?_
  refine rv_iload (q := 93) E.x dX12_worthOf_91 rfl rfl ?_
  refine rv_iconst (q := 94) E.x dX12_worthOf_93 rv_ki1 rfl ?_
  refine rv_iadd (q := 95) E.x dX12_worthOf_94 rfl ?_
  refine rv_istore (q := 97) (lv' := [_, _, _, _, _, _, _, _, _, _]) E.x dX12_worthOf_95 (Nat.le_of_ble_eq_true rfl) rfl rfl rfl ?_
  refine rv_wk [true, false, true, true, true, false, false, true, true, false] ?_
  exact b12_worthOf_97 E rv_FU M x2 x3 x4 s0 (x5 + 1)
set_option maxRecDepth 100000 in
theorem b12_worthOf_52 {p : Program} {l : Launch} {e : Env} {s : State} {m : MethodId} {args : Array Value} {below : List Frame} {meth : Method} {c : Code} {D : va_G} {cI cZ : ClassId} {ad : Nat → Nat} (E : rR_E D cI cZ ad cX12_worthOf 10 (some .int) p s m args meth c)   : ∀ (M : rv_Mem) (x1 : Int32) (x2 : Int32) (x3 : Int32) (x4 : Int32) (x5 : Int32), rv_M (rR_G D cI cZ ad) (rR_A ad) p l e rm12_worthOf s m args below meth c 0 0 (rR_qIW D cI cZ ad below args s) (f12_worthOf_52 M x1 x2 x3 x4 x5) 52 [some (.ref (ad 67)), some (.int x1), some (.int x2), some (.int x3), some (.int x4), some (.int x5), none, none, none, none] [] M := by
  intro M x1 x2 x3 x4 x5
  unfold f12_worthOf_52
  refine rv_aload_n (q := 53) E.x dX12_worthOf_52 rfl rfl ?_
  refine rR_get (q := 56) E 22 wf12_22 rfl (Nat.le_of_ble_eq_true rfl) rfl dX12_worthOf_53 rfl ?_
  refine rv_bipush (q := 58) E.x dX12_worthOf_56 rv_kb12 rfl ?_
  refine rv_aload_n (q := 59) E.x dX12_worthOf_58 rfl rfl ?_
  refine rv_iload (q := 61) E.x dX12_worthOf_59 rfl rfl ?_
  refine rv_iload (q := 63) E.x dX12_worthOf_61 rfl rfl ?_
  refine rv_b1 (fun r2 e1 => ?_)
  refine rR_calli (q := 66) E (c12_commitAt E.2.2.1 e1) gX12_commitAt hX12_commitAt ⟨rfl, rfl⟩ ⟨Nat.le_of_ble_eq_true rfl, Nat.le_of_ble_eq_true rfl⟩ rfl rfl rfl (Nat.le_of_ble_eq_true rfl) dX12_worthOf_63 rfl ?_
  refine rv_imul (q := 67) E.x dX12_worthOf_66 rfl ?_
  refine rv_iconst (q := 68) E.x dX12_worthOf_67 rv_ki2 rfl ?_
  refine rv_iload_n (q := 69) E.x dX12_worthOf_68 rfl rfl ?_
  refine rv_imul (q := 70) E.x dX12_worthOf_69 rfl ?_
  refine rv_iadd (q := 71) E.x dX12_worthOf_70 rfl ?_
  refine rv_iload_n (q := 72) E.x dX12_worthOf_71 rfl rfl ?_
  refine rv_iadd (q := 73) E.x dX12_worthOf_72 rfl ?_
  refine rR_iald (q := 74) (n := 960) E (Nat.le_of_ble_eq_true rfl) rfl rfl dX12_worthOf_73 rfl ?_
  refine rv_istore (q := 76) (lv' := [_, _, _, _, _, _, _, _, _, _]) E.x dX12_worthOf_74 (Nat.le_of_ble_eq_true rfl) rfl rfl rfl ?_
  refine rv_iload (q := 78) E.x dX12_worthOf_76 rfl rfl ?_
  refine rv_if_ne (q := 81) (tgt := 85) E.x dX12_worthOf_78 (by decide) rfl ?_ ?_
  · refine rv_iconst (q := 82) E.x dX12_worthOf_81 rv_ki0 rfl ?_
    refine rv_goto (q := 89) E.x dX12_worthOf_82 (by decide) ?_
    refine rv_wk [true, false, true, true, true, true, false, false, false, false] ?_
    exact b12_worthOf_89 E M x2 x3 x4 x5 0
  · refine rv_iload (q := 87) E.x dX12_worthOf_85 rfl rfl ?_
    refine rv_iconst (q := 88) E.x dX12_worthOf_87 rv_ki3 rfl ?_
    refine rv_isub (q := 89) E.x dX12_worthOf_88 rfl ?_
    refine rv_wk [true, false, true, true, true, true, false, false, false, false] ?_
    exact b12_worthOf_89 E M x2 x3 x4 x5 ((M 22 ((((12 * r2) + (2 * x1)) + x3)).toNatClampNeg) - 3)
set_option maxRecDepth 100000 in
theorem b12_worthOf_16_s {p : Program} {l : Launch} {e : Env} {s : State} {m : MethodId} {args : Array Value} {below : List Frame} {meth : Method} {c : Code} {D : va_G} {cI cZ : ClassId} {ad : Nat → Nat} (E : rR_E D cI cZ ad cX12_worthOf 10 (some .int) p s m args meth c)   (k16 : rv_Mem → Int32 → Int32 → Int32 → Int32 → Int32 → Option (Int32 × rv_Mem)) (h16 : ∀ (M : rv_Mem) (x1 : Int32) (x2 : Int32) (x3 : Int32) (x4 : Int32) (x5 : Int32), rv_M (rR_G D cI cZ ad) (rR_A ad) p l e rm12_worthOf s m args below meth c 0 0 (rR_qIW D cI cZ ad below args s) (k16 M x1 x2 x3 x4 x5) 16 [some (.ref (ad 67)), some (.int x1), some (.int x2), some (.int x3), some (.int x4), some (.int x5), none, none, none, none] [] M) : ∀ (M : rv_Mem) (x1 : Int32) (x2 : Int32) (x3 : Int32) (x4 : Int32) (x5 : Int32), rv_M (rR_G D cI cZ ad) (rR_A ad) p l e rm12_worthOf s m args below meth c 0 0 (rR_qIW D cI cZ ad below args s) (f12_worthOf_16_s k16 M x1 x2 x3 x4 x5) 16 [some (.ref (ad 67)), some (.int x1), some (.int x2), some (.int x3), some (.int x4), some (.int x5), none, none, none, none] [] M := by
  intro M x1 x2 x3 x4 x5
  unfold f12_worthOf_16_s
  refine rv_iload (q := 18) E.x dX12_worthOf_16 rfl rfl ?_
  refine rv_if_le (q := 21) (tgt := 52) E.x dX12_worthOf_18 (by decide) rfl ?_ ?_
  · refine rv_aload_n (q := 22) E.x dX12_worthOf_21 rfl rfl ?_
    refine rR_get (q := 25) E 22 wf12_22 rfl (Nat.le_of_ble_eq_true rfl) rfl dX12_worthOf_22 rfl ?_
    refine rv_bipush (q := 27) E.x dX12_worthOf_25 rv_kb12 rfl ?_
    refine rv_aload_n (q := 28) E.x dX12_worthOf_27 rfl rfl ?_
    refine rv_iload (q := 30) E.x dX12_worthOf_28 rfl rfl ?_
    refine rv_iload (q := 32) E.x dX12_worthOf_30 rfl rfl ?_
    refine rv_b1 (fun r2 e1 => ?_)
    refine rR_calli (q := 35) E (c12_commitAt E.2.2.1 e1) gX12_commitAt hX12_commitAt ⟨rfl, rfl⟩ ⟨Nat.le_of_ble_eq_true rfl, Nat.le_of_ble_eq_true rfl⟩ rfl rfl rfl (Nat.le_of_ble_eq_true rfl) dX12_worthOf_32 rfl ?_
    refine rv_imul (q := 36) E.x dX12_worthOf_35 rfl ?_
    refine rv_iconst (q := 37) E.x dX12_worthOf_36 rv_ki2 rfl ?_
    refine rv_iload_n (q := 38) E.x dX12_worthOf_37 rfl rfl ?_
    refine rv_imul (q := 39) E.x dX12_worthOf_38 rfl ?_
    refine rv_iadd (q := 40) E.x dX12_worthOf_39 rfl ?_
    refine rv_iload_n (q := 41) E.x dX12_worthOf_40 rfl rfl ?_
    refine rv_iadd (q := 42) E.x dX12_worthOf_41 rfl ?_
    refine rR_iald (q := 43) (n := 960) E (Nat.le_of_ble_eq_true rfl) rfl rfl dX12_worthOf_42 rfl ?_
    refine rv_if_ne (q := 46) (tgt := 52) E.x dX12_worthOf_43 (by decide) rfl ?_ ?_
    · refine rv_iinc (q := 49) (lv' := [_, _, _, _, _, _, _, _, _, _]) E.x dX12_worthOf_46 rv_kim1 rfl rfl rfl rfl ?_
      refine rv_goto (q := 16) E.x dX12_worthOf_49 (by decide) ?_
      refine rv_wk [true, true, true, true, true, true, false, false, false, false] ?_
      exact h16 M x1 x2 x3 x4 (x5 + (-1))
    · refine rv_wk [true, true, true, true, true, true, false, false, false, false] ?_
      exact b12_worthOf_52 E M x1 x2 x3 x4 x5
  · refine rv_wk [true, true, true, true, true, true, false, false, false, false] ?_
    exact b12_worthOf_52 E M x1 x2 x3 x4 x5
theorem b12_worthOf_16 {p : Program} {l : Launch} {e : Env} {s : State} {m : MethodId} {args : Array Value} {below : List Frame} {meth : Method} {c : Code} {D : va_G} {cI cZ : ClassId} {ad : Nat → Nat} (E : rR_E D cI cZ ad cX12_worthOf 10 (some .int) p s m args meth c)   : ∀ (n : Nat), ∀ (M : rv_Mem) (x1 : Int32) (x2 : Int32) (x3 : Int32) (x4 : Int32) (x5 : Int32), rv_M (rR_G D cI cZ ad) (rR_A ad) p l e rm12_worthOf s m args below meth c 0 0 (rR_qIW D cI cZ ad below args s) (f12_worthOf_16 n M x1 x2 x3 x4 x5) 16 [some (.ref (ad 67)), some (.int x1), some (.int x2), some (.int x3), some (.int x4), some (.int x5), none, none, none, none] [] M := by
  intro n
  induction n with
  | zero => exact fun _ _ _ _ _ _ => rv_stuck
  | succ n ih => exact b12_worthOf_16_s E  (f12_worthOf_16 n) ih
set_option maxRecDepth 100000 in
theorem b12_worthOf {p : Program} {l : Launch} {e : Env} {s : State} {m : MethodId} {args : Array Value} {below : List Frame} {meth : Method} {c : Code} {D : va_G} {cI cZ : ClassId} {ad : Nat → Nat} (E : rR_E D cI cZ ad cX12_worthOf 10 (some .int) p s m args meth c) (M : rv_Mem) (a1 : Int32) (a2 : Int32) (a3 : Int32) : rv_M (rR_G D cI cZ ad) (rR_A ad) p l e rm12_worthOf s m args below meth c 0 0  (rR_qIW D cI cZ ad below args s) (f12_worthOf M a1 a2 a3) 0 [some (.ref (ad 67)), some (.int a1), some (.int a2), some (.int a3), none, none, none, none, none, none] [] M := by
  unfold f12_worthOf
  refine rv_aload_n (q := 1) E.x dX12_worthOf_0 rfl rfl ?_
  refine rR_get (q := 4) E 5 wf12_5 rfl (Nat.le_of_ble_eq_true rfl) rfl dX12_worthOf_1 rfl ?_
  refine rv_iload_n (q := 5) E.x dX12_worthOf_4 rfl rfl ?_
  refine rR_iald (q := 6) (n := 82) E (Nat.le_of_ble_eq_true rfl) rfl rfl dX12_worthOf_5 rfl ?_
  refine rv_istore (q := 8) (lv' := [_, _, _, _, _, _, _, _, _, _]) E.x dX12_worthOf_6 (Nat.le_of_ble_eq_true rfl) rfl rfl rfl ?_
  refine rv_aload_n (q := 9) E.x dX12_worthOf_8 rfl rfl ?_
  refine rR_get (q := 12) E 6 wf12_6 rfl (Nat.le_of_ble_eq_true rfl) rfl dX12_worthOf_9 rfl ?_
  refine rv_iload_n (q := 13) E.x dX12_worthOf_12 rfl rfl ?_
  refine rR_iald (q := 14) (n := 82) E (Nat.le_of_ble_eq_true rfl) rfl rfl dX12_worthOf_13 rfl ?_
  refine rv_istore (q := 16) (lv' := [_, _, _, _, _, _, _, _, _, _]) E.x dX12_worthOf_14 (Nat.le_of_ble_eq_true rfl) rfl rfl rfl ?_
  refine rv_wk [true, true, true, true, true, true, false, false, false, false] ?_
  exact b12_worthOf_16 E rv_FU M a1 a2 a3 (M 5 (a2).toNatClampNeg) (M 6 (a2).toNatClampNeg)
theorem c12_worthOf {l : Launch} {D : va_G} {cI cZ : ClassId} {ad : Nat → Nat} (hI : rR_I ad) {M : rv_Mem} {a1 : Int32} {a2 : Int32} {a3 : Int32} {r : Int32} {M1 : rv_Mem} (h : f12_worthOf M a1 a2 a3 = some (r, M1)) : Met l yX12_worthOf (rv_ws yX12_worthOf cX12_worthOf 10 (some .int)) rm12_worthOf (rR_Pc D cI cZ ad [.ref (ad 67), .int a1, .int a2, .int a3] M) (rR_QI D cI cZ ad r M1) 0 0 (rR_A ad) := rR_met hI rfl (rv_cat rfl) (Nat.le_of_ble_eq_true rfl) (fun p e s m args below meth c E => ⟨(rR_qIW D cI cZ ad below args s), rfl, b12_worthOf E M a1 a2 a3⟩) h
abbrev rm12_askedOf : Room := { frames := 7, cells := 0, slots := 0, locals := 190 }
set_option maxRecDepth 100000 in
theorem b12_askedOf_39 {p : Program} {l : Launch} {e : Env} {s : State} {m : MethodId} {args : Array Value} {below : List Frame} {meth : Method} {c : Code} {D : va_G} {cI cZ : ClassId} {ad : Nat → Nat} (E : rR_E D cI cZ ad cX12_askedOf 4 (some .int) p s m args meth c) (k8 : rv_Mem → Int32 → Int32 → Int32 → Option (Int32 × rv_Mem)) (h8 : ∀ (M : rv_Mem) (x1 : Int32) (x2 : Int32) (x3 : Int32), rv_M (rR_G D cI cZ ad) (rR_A ad) p l e rm12_askedOf s m args below meth c 0 0 (rR_qIW D cI cZ ad below args s) (k8 M x1 x2 x3) 8 [some (.ref (ad 67)), some (.int x1), some (.int x2), some (.int x3)] [] M) : ∀ (M : rv_Mem) (x1 : Int32) (x3 : Int32) (s0 : Int32) (s1 : Int32), rv_M (rR_G D cI cZ ad) (rR_A ad) p l e rm12_askedOf s m args below meth c 0 0 (rR_qIW D cI cZ ad below args s) (f12_askedOf_39 k8 M x1 x3 s0 s1) 39 [some (.ref (ad 67)), some (.int x1), none, some (.int x3)] [.int s1, .int s0] M := by
  intro M x1 x3 s0 s1
  unfold f12_askedOf_39
  refine rv_iand (q := 40) E.x dX12_askedOf_39 rfl ?_
  refine rv_istore_n (q := 41) (lv' := [_, _, _, _]) E.x dX12_askedOf_40 (Nat.le_of_ble_eq_true rfl) rfl rfl rfl ?_
  refine rv_iinc (q := 44) (lv' := [_, _, _, _]) E.x dX12_askedOf_41 rv_ki1 rfl rfl rfl rfl ?_
  refine rv_goto (q := 8) E.x dX12_askedOf_44 (by decide) ?_
  refine rv_wk [true, true, true, true] ?_
  exact h8 M x1 (s0 &&& s1) (x3 + 1)
set_option maxRecDepth 100000 in
theorem b12_askedOf_8_s {p : Program} {l : Launch} {e : Env} {s : State} {m : MethodId} {args : Array Value} {below : List Frame} {meth : Method} {c : Code} {D : va_G} {cI cZ : ClassId} {ad : Nat → Nat} (E : rR_E D cI cZ ad cX12_askedOf 4 (some .int) p s m args meth c)   (k8 : rv_Mem → Int32 → Int32 → Int32 → Option (Int32 × rv_Mem)) (h8 : ∀ (M : rv_Mem) (x1 : Int32) (x2 : Int32) (x3 : Int32), rv_M (rR_G D cI cZ ad) (rR_A ad) p l e rm12_askedOf s m args below meth c 0 0 (rR_qIW D cI cZ ad below args s) (k8 M x1 x2 x3) 8 [some (.ref (ad 67)), some (.int x1), some (.int x2), some (.int x3)] [] M) : ∀ (M : rv_Mem) (x1 : Int32) (x2 : Int32) (x3 : Int32), rv_M (rR_G D cI cZ ad) (rR_A ad) p l e rm12_askedOf s m args below meth c 0 0 (rR_qIW D cI cZ ad below args s) (f12_askedOf_8_s k8 M x1 x2 x3) 8 [some (.ref (ad 67)), some (.int x1), some (.int x2), some (.int x3)] [] M := by
  intro M x1 x2 x3
  unfold f12_askedOf_8_s
  refine rv_iload_n (q := 9) E.x dX12_askedOf_8 rfl rfl ?_
  refine rv_bipush (q := 11) E.x dX12_askedOf_9 rv_kb6 rfl ?_
  refine rv_icmp_ge (q := 14) (tgt := 47) E.x dX12_askedOf_11 (by decide) rfl ?_ ?_
  · refine rv_iload_n (q := 15) E.x dX12_askedOf_14 rfl rfl ?_
    refine rv_aload_n (q := 16) E.x dX12_askedOf_15 rfl rfl ?_
    refine rv_iload_n (q := 17) E.x dX12_askedOf_16 rfl rfl ?_
    refine rv_aload_n (q := 18) E.x dX12_askedOf_17 rfl rfl ?_
    refine rv_iload_n (q := 19) E.x dX12_askedOf_18 rfl rfl ?_
    refine rv_b1 (fun r2 e1 => ?_)
    refine rR_calli (q := 22) E (c12_current E.2.2.1 e1) gX12_current hX12_current ⟨rfl, rfl⟩ ⟨Nat.le_of_ble_eq_true rfl, Nat.le_of_ble_eq_true rfl⟩ rfl rfl rfl (Nat.le_of_ble_eq_true rfl) dX12_askedOf_19 rfl ?_
    refine rv_iconst (q := 23) E.x dX12_askedOf_22 rv_ki0 rfl ?_
    refine rv_b2 (fun r4 M5 e3 => ?_)
    refine rR_calli (q := 26) E (c12_worthOf E.2.2.1 e3) gX12_worthOf hX12_worthOf ⟨rfl, rfl⟩ ⟨Nat.le_of_ble_eq_true rfl, Nat.le_of_ble_eq_true rfl⟩ rfl rfl rfl (Nat.le_of_ble_eq_true rfl) dX12_askedOf_23 rfl ?_
    refine rv_iconst (q := 27) E.x dX12_askedOf_26 rv_ki2 rfl ?_
    refine rv_icmp_ne (q := 30) (tgt := 38) E.x dX12_askedOf_27 (by decide) rfl ?_ ?_
    · refine rv_iconst (q := 31) E.x dX12_askedOf_30 rv_ki1 rfl ?_
      refine rv_iload_n (q := 32) E.x dX12_askedOf_31 rfl rfl ?_
      refine rv_ishl (q := 33) E.x dX12_askedOf_32 rfl ?_
      refine rv_iconst (q := 34) E.x dX12_askedOf_33 rv_kim1 rfl ?_
      refine rv_ixor (q := 35) E.x dX12_askedOf_34 rfl ?_
      refine rv_goto (q := 39) E.x dX12_askedOf_35 (by decide) ?_
      refine rv_wk [true, true, false, true] ?_
      exact b12_askedOf_39 E k8 h8 M5 x1 x3 x2 ((1 <<< (x3 &&& 31)) ^^^ (-1))
    · refine rv_iconst (q := 39) E.x dX12_askedOf_38 rv_kim1 rfl ?_
      refine rv_wk [true, true, false, true] ?_
      exact b12_askedOf_39 E k8 h8 M5 x1 x3 x2 (-1)
  · refine rv_iload_n (q := 48) E.x dX12_askedOf_47 rfl rfl ?_
    exact rR_iret E rfl dX12_askedOf_48
theorem b12_askedOf_8 {p : Program} {l : Launch} {e : Env} {s : State} {m : MethodId} {args : Array Value} {below : List Frame} {meth : Method} {c : Code} {D : va_G} {cI cZ : ClassId} {ad : Nat → Nat} (E : rR_E D cI cZ ad cX12_askedOf 4 (some .int) p s m args meth c)   : ∀ (n : Nat), ∀ (M : rv_Mem) (x1 : Int32) (x2 : Int32) (x3 : Int32), rv_M (rR_G D cI cZ ad) (rR_A ad) p l e rm12_askedOf s m args below meth c 0 0 (rR_qIW D cI cZ ad below args s) (f12_askedOf_8 n M x1 x2 x3) 8 [some (.ref (ad 67)), some (.int x1), some (.int x2), some (.int x3)] [] M := by
  intro n
  induction n with
  | zero => exact fun _ _ _ _ => rv_stuck
  | succ n ih => exact b12_askedOf_8_s E  (f12_askedOf_8 n) ih
set_option maxRecDepth 100000 in
theorem b12_askedOf {p : Program} {l : Launch} {e : Env} {s : State} {m : MethodId} {args : Array Value} {below : List Frame} {meth : Method} {c : Code} {D : va_G} {cI cZ : ClassId} {ad : Nat → Nat} (E : rR_E D cI cZ ad cX12_askedOf 4 (some .int) p s m args meth c) (M : rv_Mem) (a1 : Int32) : rv_M (rR_G D cI cZ ad) (rR_A ad) p l e rm12_askedOf s m args below meth c 0 0  (rR_qIW D cI cZ ad below args s) (f12_askedOf M a1) 0 [some (.ref (ad 67)), some (.int a1), none, none] [] M := by
  unfold f12_askedOf
  refine rv_aload_n (q := 1) E.x dX12_askedOf_0 rfl rfl ?_
  refine rv_iload_n (q := 2) E.x dX12_askedOf_1 rfl rfl ?_
  refine rv_b1 (fun r2 e1 => ?_)
  refine rR_calli (q := 5) E (c12_reviewersOf E.2.2.1 e1) gX12_reviewersOf hX12_reviewersOf ⟨rfl, rfl⟩ ⟨Nat.le_of_ble_eq_true rfl, Nat.le_of_ble_eq_true rfl⟩ rfl rfl rfl (Nat.le_of_ble_eq_true rfl) dX12_askedOf_2 rfl ?_
  refine rv_istore_n (q := 6) (lv' := [_, _, _, _]) E.x dX12_askedOf_5 (Nat.le_of_ble_eq_true rfl) rfl rfl rfl ?_
  refine rv_iconst (q := 7) E.x dX12_askedOf_6 rv_ki0 rfl ?_
  refine rv_istore_n (q := 8) (lv' := [_, _, _, _]) E.x dX12_askedOf_7 (Nat.le_of_ble_eq_true rfl) rfl rfl rfl ?_
  refine rv_wk [true, true, true, true] ?_
  exact b12_askedOf_8 E rv_FU M a1 r2 0
theorem c12_askedOf {l : Launch} {D : va_G} {cI cZ : ClassId} {ad : Nat → Nat} (hI : rR_I ad) {M : rv_Mem} {a1 : Int32} {r : Int32} {M1 : rv_Mem} (h : f12_askedOf M a1 = some (r, M1)) : Met l yX12_askedOf (rv_ws yX12_askedOf cX12_askedOf 4 (some .int)) rm12_askedOf (rR_Pc D cI cZ ad [.ref (ad 67), .int a1] M) (rR_QI D cI cZ ad r M1) 0 0 (rR_A ad) := rR_met hI rfl (rv_cat rfl) (Nat.le_of_ble_eq_true rfl) (fun p e s m args below meth c E => ⟨(rR_qIW D cI cZ ad below args s), rfl, b12_askedOf E M a1⟩) h
abbrev rm12_turnsOn : Room := { frames := 8, cells := 0, slots := 0, locals := 213 }
set_option maxRecDepth 100000 in
theorem b12_turnsOn {p : Program} {l : Launch} {e : Env} {s : State} {m : MethodId} {args : Array Value} {below : List Frame} {meth : Method} {c : Code} {D : va_G} {cI cZ : ClassId} {ad : Nat → Nat} (E : rR_E D cI cZ ad cX12_turnsOn 4 none p s m args meth c) (M : rv_Mem) (a1 : Int32) (a2 : Int32) (a3 : Bool) : rv_M (rR_G D cI cZ ad) (rR_A ad) p l e rm12_turnsOn s m args below meth c 0 0  (rR_qV D cI cZ ad below args s) (f12_turnsOn M a1 a2 a3) 0 [some (.ref (ad 67)), some (.int a1), some (.int a2), some (.int (rv_i a3))] [] M := by
  unfold f12_turnsOn
  refine rv_aload_n (q := 1) E.x dX12_turnsOn_0 rfl rfl ?_
  refine rR_get (q := 4) E 20 wf12_20 rfl (Nat.le_of_ble_eq_true rfl) rfl dX12_turnsOn_1 rfl ?_
  refine rv_iload_n (q := 5) E.x dX12_turnsOn_4 rfl rfl ?_
  refine rv_dup2 (q := 6) E.x dX12_turnsOn_5 rfl rfl rfl ?_
  refine rR_iald (q := 7) (n := 20) E (Nat.le_of_ble_eq_true rfl) rfl rfl dX12_turnsOn_6 rfl ?_
  refine rv_iconst (q := 8) E.x dX12_turnsOn_7 rv_ki1 rfl ?_
  refine rv_iload_n (q := 9) E.x dX12_turnsOn_8 rfl rfl ?_
  refine rv_ishl (q := 10) E.x dX12_turnsOn_9 rfl ?_
  refine rv_iconst (q := 11) E.x dX12_turnsOn_10 rv_kim1 rfl ?_
  refine rv_ixor (q := 12) E.x dX12_turnsOn_11 rfl ?_
  refine rv_iand (q := 13) E.x dX12_turnsOn_12 rfl ?_
  refine rR_iast (q := 14) (n := 20) E (Nat.le_of_ble_eq_true rfl) rfl rfl dX12_turnsOn_13 rfl ?_
  refine rv_ltm (fun M1 => ?_)
  refine rv_iload_n (q := 15) E.x dX12_turnsOn_14 rfl rfl ?_
  refine rv_aload_n (q := 16) E.x dX12_turnsOn_15 rfl rfl ?_
  refine rR_get (q := 19) E 12 wf12_12 rfl (Nat.le_of_ble_eq_true rfl) rfl dX12_turnsOn_16 rfl ?_
  refine rv_iload_n (q := 20) E.x dX12_turnsOn_19 rfl rfl ?_
  refine rR_iald (q := 21) (n := 20) E (Nat.le_of_ble_eq_true rfl) rfl rfl dX12_turnsOn_20 rfl ?_
  refine rv_icmp_eq (q := 24) (tgt := 40) E.x dX12_turnsOn_21 (by decide) rfl ?_ ?_
  · refine rv_aload_n (q := 25) E.x dX12_turnsOn_24 rfl rfl ?_
    refine rv_iload_n (q := 26) E.x dX12_turnsOn_25 rfl rfl ?_
    refine rv_iconst (q := 27) E.x dX12_turnsOn_26 rv_ki1 rfl ?_
    refine rv_aload_n (q := 28) E.x dX12_turnsOn_27 rfl rfl ?_
    refine rR_get (q := 31) E 12 wf12_12 rfl (Nat.le_of_ble_eq_true rfl) rfl dX12_turnsOn_28 rfl ?_
    refine rv_iload_n (q := 32) E.x dX12_turnsOn_31 rfl rfl ?_
    refine rR_iald (q := 33) (n := 20) E (Nat.le_of_ble_eq_true rfl) rfl rfl dX12_turnsOn_32 rfl ?_
    refine rv_ishl (q := 34) E.x dX12_turnsOn_33 rfl ?_
    refine rv_b1 (fun M3 e2 => ?_)
    refine rR_callv (q := 37) E (c12_givesTurns E.2.2.1 e2) gX12_givesTurns hX12_givesTurns ⟨rfl, rfl⟩ ⟨Nat.le_of_ble_eq_true rfl, Nat.le_of_ble_eq_true rfl⟩ rfl rfl rfl (Nat.le_of_ble_eq_true rfl) dX12_turnsOn_34 rfl ?_
    refine rv_goto (q := 54) E.x dX12_turnsOn_37 (by decide) ?_
    exact rR_vret E rfl dX12_turnsOn_54
  · refine rv_iload_n (q := 41) E.x dX12_turnsOn_40 rfl rfl ?_
    refine rv_ifz_ne (q := 44) (tgt := 54) E.x dX12_turnsOn_41 (by decide) rfl ?_ ?_
    · refine rv_aload_n (q := 45) E.x dX12_turnsOn_44 rfl rfl ?_
      refine rv_iload_n (q := 46) E.x dX12_turnsOn_45 rfl rfl ?_
      refine rv_aload_n (q := 47) E.x dX12_turnsOn_46 rfl rfl ?_
      refine rv_iload_n (q := 48) E.x dX12_turnsOn_47 rfl rfl ?_
      refine rv_b2 (fun r5 M6 e4 => ?_)
      refine rR_calli (q := 51) E (c12_askedOf E.2.2.1 e4) gX12_askedOf hX12_askedOf ⟨rfl, rfl⟩ ⟨Nat.le_of_ble_eq_true rfl, Nat.le_of_ble_eq_true rfl⟩ rfl rfl rfl (Nat.le_of_ble_eq_true rfl) dX12_turnsOn_48 rfl ?_
      refine rv_b1 (fun M8 e7 => ?_)
      refine rR_callv (q := 54) E (c12_givesTurns E.2.2.1 e7) gX12_givesTurns hX12_givesTurns ⟨rfl, rfl⟩ ⟨Nat.le_of_ble_eq_true rfl, Nat.le_of_ble_eq_true rfl⟩ rfl rfl rfl (Nat.le_of_ble_eq_true rfl) dX12_turnsOn_51 rfl ?_
      exact rR_vret E rfl dX12_turnsOn_54
    · exact rR_vret E rfl dX12_turnsOn_54
theorem c12_turnsOn {l : Launch} {D : va_G} {cI cZ : ClassId} {ad : Nat → Nat} (hI : rR_I ad) {M : rv_Mem} {a1 : Int32} {a2 : Int32} {a3 : Bool} {M1 : rv_Mem} (h : f12_turnsOn M a1 a2 a3 = some M1) : Met l yX12_turnsOn (rv_ws yX12_turnsOn cX12_turnsOn 4 none) rm12_turnsOn (rR_Pc D cI cZ ad [.ref (ad 67), .int a1, .int a2, .int (rv_i a3)] M) (rR_QV D cI cZ ad M1) 0 0 (rR_A ad) := rR_met hI rfl (rv_cat rfl) (Nat.le_of_ble_eq_true rfl) (fun p e s m args below meth c E => ⟨(rR_qV D cI cZ ad below args s), rfl, b12_turnsOn E M a1 a2 a3⟩) h
abbrev rm12_isVoted : Room := { frames := 7, cells := 0, slots := 0, locals := 190 }
set_option maxRecDepth 100000 in
theorem b12_isVoted_46 {p : Program} {l : Launch} {e : Env} {s : State} {m : MethodId} {args : Array Value} {below : List Frame} {meth : Method} {c : Code} {D : va_G} {cI cZ : ClassId} {ad : Nat → Nat} (E : rR_E D cI cZ ad cX12_isVoted 7 (some .boolean) p s m args meth c) (k6 : rv_Mem → Int32 → Int32 → Int32 → Int32 → Bool → Int32 → Option (Bool × rv_Mem)) (h6 : ∀ (M : rv_Mem) (x1 : Int32) (x2 : Int32) (x3 : Int32) (x4 : Int32) (x5 : Bool) (x6 : Int32), rv_M (rR_G D cI cZ ad) (rR_A ad) p l e rm12_isVoted s m args below meth c 0 0 (rR_qZW D cI cZ ad below args s) (k6 M x1 x2 x3 x4 x5 x6) 6 [some (.ref (ad 67)), some (.int x1), some (.int x2), some (.int x3), some (.int x4), some (.int (rv_i x5)), some (.int x6)] [] M) : ∀ (M : rv_Mem) (x1 : Int32) (x2 : Int32) (x3 : Int32) (x4 : Int32) (x6 : Int32) (s0 : Bool), rv_M (rR_G D cI cZ ad) (rR_A ad) p l e rm12_isVoted s m args below meth c 0 0 (rR_qZW D cI cZ ad below args s) (f12_isVoted_46 k6 M x1 x2 x3 x4 x6 s0) 46 [some (.ref (ad 67)), some (.int x1), some (.int x2), some (.int x3), some (.int x4), none, some (.int x6)] [.int (rv_i s0)] M := by
  intro M x1 x2 x3 x4 x6 s0
  unfold f12_isVoted_46
  refine rv_istore (q := 48) (lv' := [_, _, _, _, _, _, _]) E.x dX12_isVoted_46 (Nat.le_of_ble_eq_true rfl) rfl rfl rfl ?_
  refine rv_iinc (q := 51) (lv' := [_, _, _, _, _, _, _]) E.x dX12_isVoted_48 rv_ki1 rfl rfl rfl rfl ?_
  refine rv_goto (q := 6) E.x dX12_isVoted_51 (by decide) ?_
  refine rv_wk [true, true, true, true, true, true, true] ?_
  exact h6 M x1 x2 x3 x4 s0 (x6 + 1)
set_option maxRecDepth 100000 in
theorem b12_isVoted_41 {p : Program} {l : Launch} {e : Env} {s : State} {m : MethodId} {args : Array Value} {below : List Frame} {meth : Method} {c : Code} {D : va_G} {cI cZ : ClassId} {ad : Nat → Nat} (E : rR_E D cI cZ ad cX12_isVoted 7 (some .boolean) p s m args meth c) (k6 : rv_Mem → Int32 → Int32 → Int32 → Int32 → Bool → Int32 → Option (Bool × rv_Mem)) (h6 : ∀ (M : rv_Mem) (x1 : Int32) (x2 : Int32) (x3 : Int32) (x4 : Int32) (x5 : Bool) (x6 : Int32), rv_M (rR_G D cI cZ ad) (rR_A ad) p l e rm12_isVoted s m args below meth c 0 0 (rR_qZW D cI cZ ad below args s) (k6 M x1 x2 x3 x4 x5 x6) 6 [some (.ref (ad 67)), some (.int x1), some (.int x2), some (.int x3), some (.int x4), some (.int (rv_i x5)), some (.int x6)] [] M) : ∀ (M : rv_Mem) (x1 : Int32) (x2 : Int32) (x3 : Int32) (x4 : Int32) (x6 : Int32), rv_M (rR_G D cI cZ ad) (rR_A ad) p l e rm12_isVoted s m args below meth c 0 0 (rR_qZW D cI cZ ad below args s) (f12_isVoted_41 k6 M x1 x2 x3 x4 x6) 41 [some (.ref (ad 67)), some (.int x1), some (.int x2), some (.int x3), some (.int x4), none, some (.int x6)] [] M := by
  intro M x1 x2 x3 x4 x6
  unfold f12_isVoted_41
  refine rv_iconst (q := 42) E.x dX12_isVoted_41 rv_ki1 rfl ?_
  refine rv_goto (q := 46) E.x dX12_isVoted_42 (by decide) ?_
  refine rv_wk [true, true, true, true, true, false, true] ?_
  exact b12_isVoted_46 E k6 h6 M x1 x2 x3 x4 x6 true
set_option maxRecDepth 100000 in
theorem b12_isVoted_45 {p : Program} {l : Launch} {e : Env} {s : State} {m : MethodId} {args : Array Value} {below : List Frame} {meth : Method} {c : Code} {D : va_G} {cI cZ : ClassId} {ad : Nat → Nat} (E : rR_E D cI cZ ad cX12_isVoted 7 (some .boolean) p s m args meth c) (k6 : rv_Mem → Int32 → Int32 → Int32 → Int32 → Bool → Int32 → Option (Bool × rv_Mem)) (h6 : ∀ (M : rv_Mem) (x1 : Int32) (x2 : Int32) (x3 : Int32) (x4 : Int32) (x5 : Bool) (x6 : Int32), rv_M (rR_G D cI cZ ad) (rR_A ad) p l e rm12_isVoted s m args below meth c 0 0 (rR_qZW D cI cZ ad below args s) (k6 M x1 x2 x3 x4 x5 x6) 6 [some (.ref (ad 67)), some (.int x1), some (.int x2), some (.int x3), some (.int x4), some (.int (rv_i x5)), some (.int x6)] [] M) : ∀ (M : rv_Mem) (x1 : Int32) (x2 : Int32) (x3 : Int32) (x4 : Int32) (x6 : Int32), rv_M (rR_G D cI cZ ad) (rR_A ad) p l e rm12_isVoted s m args below meth c 0 0 (rR_qZW D cI cZ ad below args s) (f12_isVoted_45 k6 M x1 x2 x3 x4 x6) 45 [some (.ref (ad 67)), some (.int x1), some (.int x2), some (.int x3), some (.int x4), none, some (.int x6)] [] M := by
  intro M x1 x2 x3 x4 x6
  unfold f12_isVoted_45
  refine rv_iconst (q := 46) E.x dX12_isVoted_45 rv_ki0 rfl ?_
  refine rv_wk [true, true, true, true, true, false, true] ?_
  exact b12_isVoted_46 E k6 h6 M x1 x2 x3 x4 x6 false
set_option maxRecDepth 100000 in
theorem b12_isVoted_6_s {p : Program} {l : Launch} {e : Env} {s : State} {m : MethodId} {args : Array Value} {below : List Frame} {meth : Method} {c : Code} {D : va_G} {cI cZ : ClassId} {ad : Nat → Nat} (E : rR_E D cI cZ ad cX12_isVoted 7 (some .boolean) p s m args meth c)   (k6 : rv_Mem → Int32 → Int32 → Int32 → Int32 → Bool → Int32 → Option (Bool × rv_Mem)) (h6 : ∀ (M : rv_Mem) (x1 : Int32) (x2 : Int32) (x3 : Int32) (x4 : Int32) (x5 : Bool) (x6 : Int32), rv_M (rR_G D cI cZ ad) (rR_A ad) p l e rm12_isVoted s m args below meth c 0 0 (rR_qZW D cI cZ ad below args s) (k6 M x1 x2 x3 x4 x5 x6) 6 [some (.ref (ad 67)), some (.int x1), some (.int x2), some (.int x3), some (.int x4), some (.int (rv_i x5)), some (.int x6)] [] M) : ∀ (M : rv_Mem) (x1 : Int32) (x2 : Int32) (x3 : Int32) (x4 : Int32) (x5 : Bool) (x6 : Int32), rv_M (rR_G D cI cZ ad) (rR_A ad) p l e rm12_isVoted s m args below meth c 0 0 (rR_qZW D cI cZ ad below args s) (f12_isVoted_6_s k6 M x1 x2 x3 x4 x5 x6) 6 [some (.ref (ad 67)), some (.int x1), some (.int x2), some (.int x3), some (.int x4), some (.int (rv_i x5)), some (.int x6)] [] M := by
  intro M x1 x2 x3 x4 x5 x6
  unfold f12_isVoted_6_s
  refine rv_iload (q := 8) E.x dX12_isVoted_6 rfl rfl ?_
  refine rv_bipush (q := 10) E.x dX12_isVoted_8 rv_kb6 rfl ?_
  refine rv_icmp_ge (q := 13) (tgt := 54) E.x dX12_isVoted_10 (by decide) rfl ?_ ?_
  · refine rv_iload (q := 15) E.x dX12_isVoted_13 rfl rfl ?_
    refine rv_ifz_ne (q := 18) (tgt := 41) E.x dX12_isVoted_15 (by decide) rfl ?_ ?_
    · refine rv_iload (q := 20) E.x dX12_isVoted_18 rfl rfl ?_
      refine rv_iload (q := 22) E.x dX12_isVoted_20 rfl rfl ?_
      refine rv_icmp_eq (q := 25) (tgt := 45) E.x dX12_isVoted_22 (by decide) rfl ?_ ?_
      · refine rv_aload_n (q := 26) E.x dX12_isVoted_25 rfl rfl ?_
        refine rv_iload (q := 28) E.x dX12_isVoted_26 rfl rfl ?_
        refine rv_aload_n (q := 29) E.x dX12_isVoted_28 rfl rfl ?_
        refine rv_iload_n (q := 30) E.x dX12_isVoted_29 rfl rfl ?_
        refine rv_b1 (fun r2 e1 => ?_)
        refine rR_calli (q := 33) E (c12_current E.2.2.1 e1) gX12_current hX12_current ⟨rfl, rfl⟩ ⟨Nat.le_of_ble_eq_true rfl, Nat.le_of_ble_eq_true rfl⟩ rfl rfl rfl (Nat.le_of_ble_eq_true rfl) dX12_isVoted_30 rfl ?_
        refine rv_iload_n (q := 34) E.x dX12_isVoted_33 rfl rfl ?_
        refine rv_b2 (fun r4 M5 e3 => ?_)
        refine rR_calli (q := 37) E (c12_worthOf E.2.2.1 e3) gX12_worthOf hX12_worthOf ⟨rfl, rfl⟩ ⟨Nat.le_of_ble_eq_true rfl, Nat.le_of_ble_eq_true rfl⟩ rfl rfl rfl (Nat.le_of_ble_eq_true rfl) dX12_isVoted_34 rfl ?_
        refine rv_iload_n (q := 38) E.x dX12_isVoted_37 rfl rfl ?_
        refine rv_icmp_ne (q := 41) (tgt := 45) E.x dX12_isVoted_38 (by decide) rfl ?_ ?_
        · refine rv_wk [true, true, true, true, true, false, true] ?_
          exact b12_isVoted_41 E k6 h6 M5 x1 x2 x3 x4 x6
        · refine rv_wk [true, true, true, true, true, false, true] ?_
          exact b12_isVoted_45 E k6 h6 M5 x1 x2 x3 x4 x6
      · refine rv_wk [true, true, true, true, true, false, true] ?_
        exact b12_isVoted_45 E k6 h6 M x1 x2 x3 x4 x6
    · refine rv_wk [true, true, true, true, true, false, true] ?_
      exact b12_isVoted_41 E k6 h6 M x1 x2 x3 x4 x6
  · refine rv_iload (q := 56) E.x dX12_isVoted_54 rfl rfl ?_
    exact rR_zret E x5 rfl dX12_isVoted_56
theorem b12_isVoted_6 {p : Program} {l : Launch} {e : Env} {s : State} {m : MethodId} {args : Array Value} {below : List Frame} {meth : Method} {c : Code} {D : va_G} {cI cZ : ClassId} {ad : Nat → Nat} (E : rR_E D cI cZ ad cX12_isVoted 7 (some .boolean) p s m args meth c)   : ∀ (n : Nat), ∀ (M : rv_Mem) (x1 : Int32) (x2 : Int32) (x3 : Int32) (x4 : Int32) (x5 : Bool) (x6 : Int32), rv_M (rR_G D cI cZ ad) (rR_A ad) p l e rm12_isVoted s m args below meth c 0 0 (rR_qZW D cI cZ ad below args s) (f12_isVoted_6 n M x1 x2 x3 x4 x5 x6) 6 [some (.ref (ad 67)), some (.int x1), some (.int x2), some (.int x3), some (.int x4), some (.int (rv_i x5)), some (.int x6)] [] M := by
  intro n
  induction n with
  | zero => exact fun _ _ _ _ _ _ _ => rv_stuck
  | succ n ih => exact b12_isVoted_6_s E  (f12_isVoted_6 n) ih
set_option maxRecDepth 100000 in
theorem b12_isVoted {p : Program} {l : Launch} {e : Env} {s : State} {m : MethodId} {args : Array Value} {below : List Frame} {meth : Method} {c : Code} {D : va_G} {cI cZ : ClassId} {ad : Nat → Nat} (E : rR_E D cI cZ ad cX12_isVoted 7 (some .boolean) p s m args meth c) (M : rv_Mem) (a1 : Int32) (a2 : Int32) (a3 : Int32) (a4 : Int32) : rv_M (rR_G D cI cZ ad) (rR_A ad) p l e rm12_isVoted s m args below meth c 0 0  (rR_qZW D cI cZ ad below args s) (f12_isVoted M a1 a2 a3 a4) 0 [some (.ref (ad 67)), some (.int a1), some (.int a2), some (.int a3), some (.int a4), none, none] [] M := by
  unfold f12_isVoted
  refine rv_iconst (q := 1) E.x dX12_isVoted_0 rv_ki0 rfl ?_
  refine rv_istore (q := 3) (lv' := [_, _, _, _, _, _, _]) E.x dX12_isVoted_1 (Nat.le_of_ble_eq_true rfl) rfl rfl rfl ?_
  refine rv_iconst (q := 4) E.x dX12_isVoted_3 rv_ki0 rfl ?_
  refine rv_istore (q := 6) (lv' := [_, _, _, _, _, _, _]) E.x dX12_isVoted_4 (Nat.le_of_ble_eq_true rfl) rfl rfl rfl ?_
  refine rv_wk [true, true, true, true, true, true, true] ?_
  exact b12_isVoted_6 E rv_FU M a1 a2 a3 a4 false 0
theorem c12_isVoted {l : Launch} {D : va_G} {cI cZ : ClassId} {ad : Nat → Nat} (hI : rR_I ad) {M : rv_Mem} {a1 : Int32} {a2 : Int32} {a3 : Int32} {a4 : Int32} {r : Bool} {M1 : rv_Mem} (h : f12_isVoted M a1 a2 a3 a4 = some (r, M1)) : Met l yX12_isVoted (rv_ws yX12_isVoted cX12_isVoted 7 (some .boolean)) rm12_isVoted (rR_Pc D cI cZ ad [.ref (ad 67), .int a1, .int a2, .int a3, .int a4] M) (rR_QI D cI cZ ad (rv_i r) M1) 0 0 (rR_A ad) := rR_met hI rfl (rv_cat rfl) (Nat.le_of_ble_eq_true rfl) (fun p e s m args below meth c E => ⟨(rR_qZW D cI cZ ad below args s), rfl, b12_isVoted E M a1 a2 a3 a4⟩) h
abbrev rm12_ownersOf : Room := { frames := 0, cells := 0, slots := 0, locals := 0 }
set_option maxRecDepth 100000 in
theorem b12_ownersOf_113 {p : Program} {l : Launch} {e : Env} {s : State} {m : MethodId} {args : Array Value} {below : List Frame} {meth : Method} {c : Code} {D : va_G} {cI cZ : ClassId} {ad : Nat → Nat} (E : rR_E D cI cZ ad cX12_ownersOf 6 (some .int) p s m args meth c) (M : rv_Mem)   : ∀ (x5 : Int32), rv_M (rR_G D cI cZ ad) (rR_A ad) p l e rm12_ownersOf s m args below meth c 0 0 (rR_qI D cI cZ ad below args s M) (f12_ownersOf_113 M x5) 113 [some (.ref (ad 67)), none, none, none, none, some (.int x5)] [] M := by
  intro x5
  unfold f12_ownersOf_113
  refine rv_iload (q := 115) E.x dX12_ownersOf_113 rfl rfl ?_
  refine rv_if_ne (q := 118) (tgt := 127) E.x dX12_ownersOf_115 (by decide) rfl ?_ ?_
  · refine rv_iconst (q := 119) E.x dX12_ownersOf_118 rv_ki1 rfl ?_
    refine rv_aload_n (q := 120) E.x dX12_ownersOf_119 rfl rfl ?_
    refine rR_get (q := 123) E 44 wf12_44 rfl (Nat.le_of_ble_eq_true rfl) rfl dX12_ownersOf_120 rfl ?_
    refine rv_ishl (q := 124) E.x dX12_ownersOf_123 rfl ?_
    refine rv_goto (q := 129) E.x dX12_ownersOf_124 (by decide) ?_
    exact rR_iret E rfl dX12_ownersOf_129
  · refine rv_iload (q := 129) E.x dX12_ownersOf_127 rfl rfl ?_
    exact rR_iret E rfl dX12_ownersOf_129
set_option maxRecDepth 100000 in
theorem b12_ownersOf_110 {p : Program} {l : Launch} {e : Env} {s : State} {m : MethodId} {args : Array Value} {below : List Frame} {meth : Method} {c : Code} {D : va_G} {cI cZ : ClassId} {ad : Nat → Nat} (E : rR_E D cI cZ ad cX12_ownersOf 6 (some .int) p s m args meth c) (M : rv_Mem)   : ∀ (s0 : Int32) (s1 : Int32), rv_M (rR_G D cI cZ ad) (rR_A ad) p l e rm12_ownersOf s m args below meth c 0 0 (rR_qI D cI cZ ad below args s M) (f12_ownersOf_110 M s0 s1) 110 [some (.ref (ad 67)), none, none, none, none, none] [.int s1, .int s0] M := by
  intro s0 s1
  unfold f12_ownersOf_110
  refine rv_ior (q := 111) E.x dX12_ownersOf_110 rfl ?_
  refine rv_istore (q := 113) (lv' := [_, _, _, _, _, _]) E.x dX12_ownersOf_111 (Nat.le_of_ble_eq_true rfl) rfl rfl rfl ?_
  refine rv_wk [true, false, false, false, false, true] ?_
  exact b12_ownersOf_113 E M (s0 ||| s1)
set_option maxRecDepth 100000 in
theorem b12_ownersOf_78 {p : Program} {l : Launch} {e : Env} {s : State} {m : MethodId} {args : Array Value} {below : List Frame} {meth : Method} {c : Code} {D : va_G} {cI cZ : ClassId} {ad : Nat → Nat} (E : rR_E D cI cZ ad cX12_ownersOf 6 (some .int) p s m args meth c) (M : rv_Mem)   : ∀ (x3 : Int32) (x4 : Int32) (s0 : Int32) (s1 : Int32), rv_M (rR_G D cI cZ ad) (rR_A ad) p l e rm12_ownersOf s m args below meth c 0 0 (rR_qI D cI cZ ad below args s M) (f12_ownersOf_78 M x3 x4 s0 s1) 78 [some (.ref (ad 67)), none, none, some (.int x3), some (.int x4), none] [.int s1, .int s0] M := by
  intro x3 x4 s0 s1
  unfold f12_ownersOf_78
  refine rv_ior (q := 79) E.x dX12_ownersOf_78 rfl ?_
  refine rv_istore (q := 81) (lv' := [_, _, _, _, _, _]) E.x dX12_ownersOf_79 (Nat.le_of_ble_eq_true rfl) rfl rfl rfl ?_
  refine rv_iload (q := 83) E.x dX12_ownersOf_81 rfl rfl ?_
  refine rv_aload_n (q := 84) E.x dX12_ownersOf_83 rfl rfl ?_
  refine rR_get (q := 87) E 42 wf12_42 rfl (Nat.le_of_ble_eq_true rfl) rfl dX12_ownersOf_84 rfl ?_
  refine rv_iload_n (q := 88) E.x dX12_ownersOf_87 rfl rfl ?_
  refine rv_iconst (q := 89) E.x dX12_ownersOf_88 rv_ki4 rfl ?_
  refine rv_iadd (q := 90) E.x dX12_ownersOf_89 rfl ?_
  refine rv_iload (q := 92) E.x dX12_ownersOf_90 rfl rfl ?_
  refine rv_iadd (q := 93) E.x dX12_ownersOf_92 rfl ?_
  refine rR_zald (q := 94) (n := 14) E (Nat.le_of_ble_eq_true rfl) rfl rfl dX12_ownersOf_93 rfl ?_
  refine rv_ifz_eq (q := 97) (tgt := 101) E.x dX12_ownersOf_94 (by decide) rfl ?_ ?_
  · refine rv_iconst (q := 98) E.x dX12_ownersOf_97 rv_ki0 rfl ?_
    refine rv_goto (q := 110) E.x dX12_ownersOf_98 (by decide) ?_
    refine rv_wk [true, false, false, false, false, false] ?_
    exact b12_ownersOf_110 E M (s0 ||| s1) 0
  · refine rv_aload_n (q := 102) E.x dX12_ownersOf_101 rfl rfl ?_
    refine rR_get (q := 105) E 41 wf12_41 rfl (Nat.le_of_ble_eq_true rfl) rfl dX12_ownersOf_102 rfl ?_
    refine rv_iload_n (q := 106) E.x dX12_ownersOf_105 rfl rfl ?_
    refine rv_bipush (q := 108) E.x dX12_ownersOf_106 rv_kb6 rfl ?_
    refine rv_iadd (q := 109) E.x dX12_ownersOf_108 rfl ?_
    refine rR_iald (q := 110) (n := 14) E (Nat.le_of_ble_eq_true rfl) rfl rfl dX12_ownersOf_109 rfl ?_
    refine rv_wk [true, false, false, false, false, false] ?_
    exact b12_ownersOf_110 E M (s0 ||| s1) (M 41 ((x3 + 6)).toNatClampNeg)
set_option maxRecDepth 100000 in
theorem b12_ownersOf {p : Program} {l : Launch} {e : Env} {s : State} {m : MethodId} {args : Array Value} {below : List Frame} {meth : Method} {c : Code} {D : va_G} {cI cZ : ClassId} {ad : Nat → Nat} (E : rR_E D cI cZ ad cX12_ownersOf 6 (some .int) p s m args meth c) (M : rv_Mem) (a1 : Int32) (a2 : Int32) : rv_M (rR_G D cI cZ ad) (rR_A ad) p l e rm12_ownersOf s m args below meth c 0 0  (rR_qI D cI cZ ad below args s M) (f12_ownersOf M a1 a2) 0 [some (.ref (ad 67)), some (.int a1), some (.int a2), none, none, none] [] M := by
  unfold f12_ownersOf
  refine rv_bipush (q := 2) E.x dX12_ownersOf_0 rv_kb7 rfl ?_
  refine rv_iload_n (q := 3) E.x dX12_ownersOf_2 rfl rfl ?_
  refine rv_imul (q := 4) E.x dX12_ownersOf_3 rfl ?_
  refine rv_istore_n (q := 5) (lv' := [_, _, _, _, _, _]) E.x dX12_ownersOf_4 (Nat.le_of_ble_eq_true rfl) rfl rfl rfl ?_
  refine rv_iload_n (q := 6) E.x dX12_ownersOf_5 rfl rfl ?_
  refine rv_iconst (q := 7) E.x dX12_ownersOf_6 rv_ki2 rfl ?_
  refine rv_idiv (q := 8) E.x dX12_ownersOf_7 (by decide) rfl ?_
  refine rv_istore (q := 10) (lv' := [_, _, _, _, _, _]) E.x dX12_ownersOf_8 (Nat.le_of_ble_eq_true rfl) rfl rfl rfl ?_
  refine rv_aload_n (q := 11) E.x dX12_ownersOf_10 rfl rfl ?_
  refine rR_get (q := 14) E 41 wf12_41 rfl (Nat.le_of_ble_eq_true rfl) rfl dX12_ownersOf_11 rfl ?_
  refine rv_iload_n (q := 15) E.x dX12_ownersOf_14 rfl rfl ?_
  refine rv_iload_n (q := 16) E.x dX12_ownersOf_15 rfl rfl ?_
  refine rv_iadd (q := 17) E.x dX12_ownersOf_16 rfl ?_
  refine rR_iald (q := 18) (n := 14) E (Nat.le_of_ble_eq_true rfl) rfl rfl dX12_ownersOf_17 rfl ?_
  refine rv_istore (q := 20) (lv' := [_, _, _, _, _, _]) E.x dX12_ownersOf_18 (Nat.le_of_ble_eq_true rfl) rfl rfl rfl ?_
  refine rv_aload_n (q := 21) E.x dX12_ownersOf_20 rfl rfl ?_
  refine rR_get (q := 24) E 42 wf12_42 rfl (Nat.le_of_ble_eq_true rfl) rfl dX12_ownersOf_21 rfl ?_
  refine rv_iload_n (q := 25) E.x dX12_ownersOf_24 rfl rfl ?_
  refine rv_iload_n (q := 26) E.x dX12_ownersOf_25 rfl rfl ?_
  refine rv_iadd (q := 27) E.x dX12_ownersOf_26 rfl ?_
  refine rR_zald (q := 28) (n := 14) E (Nat.le_of_ble_eq_true rfl) rfl rfl dX12_ownersOf_27 rfl ?_
  refine rv_ifz_ne (q := 31) (tgt := 113) E.x dX12_ownersOf_28 (by decide) rfl ?_ ?_
  · refine rv_iload (q := 33) E.x dX12_ownersOf_31 rfl rfl ?_
    refine rv_aload_n (q := 34) E.x dX12_ownersOf_33 rfl rfl ?_
    refine rR_get (q := 37) E 41 wf12_41 rfl (Nat.le_of_ble_eq_true rfl) rfl dX12_ownersOf_34 rfl ?_
    refine rv_iload_n (q := 38) E.x dX12_ownersOf_37 rfl rfl ?_
    refine rv_iconst (q := 39) E.x dX12_ownersOf_38 rv_ki4 rfl ?_
    refine rv_iadd (q := 40) E.x dX12_ownersOf_39 rfl ?_
    refine rv_iload (q := 42) E.x dX12_ownersOf_40 rfl rfl ?_
    refine rv_iadd (q := 43) E.x dX12_ownersOf_42 rfl ?_
    refine rR_iald (q := 44) (n := 14) E (Nat.le_of_ble_eq_true rfl) rfl rfl dX12_ownersOf_43 rfl ?_
    refine rv_ior (q := 45) E.x dX12_ownersOf_44 rfl ?_
    refine rv_istore (q := 47) (lv' := [_, _, _, _, _, _]) E.x dX12_ownersOf_45 (Nat.le_of_ble_eq_true rfl) rfl rfl rfl ?_
    refine rv_iload (q := 49) E.x dX12_ownersOf_47 rfl rfl ?_
    refine rv_aload_n (q := 50) E.x dX12_ownersOf_49 rfl rfl ?_
    refine rR_get (q := 53) E 43 wf12_43 rfl (Nat.le_of_ble_eq_true rfl) rfl dX12_ownersOf_50 rfl ?_
    refine rv_iconst (q := 54) E.x dX12_ownersOf_53 rv_ki2 rfl ?_
    refine rv_iload_n (q := 55) E.x dX12_ownersOf_54 rfl rfl ?_
    refine rv_imul (q := 56) E.x dX12_ownersOf_55 rfl ?_
    refine rv_iload (q := 58) E.x dX12_ownersOf_56 rfl rfl ?_
    refine rv_iadd (q := 59) E.x dX12_ownersOf_58 rfl ?_
    refine rR_zald (q := 60) (n := 4) E (Nat.le_of_ble_eq_true rfl) rfl rfl dX12_ownersOf_59 rfl ?_
    refine rv_ifz_eq (q := 63) (tgt := 77) E.x dX12_ownersOf_60 (by decide) rfl ?_ ?_
    · refine rv_aload_n (q := 64) E.x dX12_ownersOf_63 rfl rfl ?_
      refine rR_get (q := 67) E 41 wf12_41 rfl (Nat.le_of_ble_eq_true rfl) rfl dX12_ownersOf_64 rfl ?_
      refine rv_iload_n (q := 68) E.x dX12_ownersOf_67 rfl rfl ?_
      refine rv_iconst (q := 69) E.x dX12_ownersOf_68 rv_ki5 rfl ?_
      refine rv_iadd (q := 70) E.x dX12_ownersOf_69 rfl ?_
      refine rv_iload (q := 72) E.x dX12_ownersOf_70 rfl rfl ?_
      refine rv_isub (q := 73) E.x dX12_ownersOf_72 rfl ?_
      refine rR_iald (q := 74) (n := 14) E (Nat.le_of_ble_eq_true rfl) rfl rfl dX12_ownersOf_73 rfl ?_
      refine rv_goto (q := 78) E.x dX12_ownersOf_74 (by decide) ?_
      refine rv_wk [true, false, false, true, true, false] ?_
      exact b12_ownersOf_78 E M (7 * a1) (a2 / 2) ((M 41 (((7 * a1) + a2)).toNatClampNeg) ||| (M 41 ((((7 * a1) + 4) + (a2 / 2))).toNatClampNeg)) (M 41 ((((7 * a1) + 5) - (a2 / 2))).toNatClampNeg)
    · refine rv_iconst (q := 78) E.x dX12_ownersOf_77 rv_ki0 rfl ?_
      refine rv_wk [true, false, false, true, true, false] ?_
      exact b12_ownersOf_78 E M (7 * a1) (a2 / 2) ((M 41 (((7 * a1) + a2)).toNatClampNeg) ||| (M 41 ((((7 * a1) + 4) + (a2 / 2))).toNatClampNeg)) 0
  · refine rv_wk [true, false, false, false, false, true] ?_
    exact b12_ownersOf_113 E M (M 41 (((7 * a1) + a2)).toNatClampNeg)
theorem c12_ownersOf {l : Launch} {D : va_G} {cI cZ : ClassId} {ad : Nat → Nat} (hI : rR_I ad) {M : rv_Mem} {a1 : Int32} {a2 : Int32} {r : Int32} (h : f12_ownersOf M a1 a2 = some r) : Met l yX12_ownersOf (rv_ws yX12_ownersOf cX12_ownersOf 6 (some .int)) rm12_ownersOf (rR_Pc D cI cZ ad [.ref (ad 67), .int a1, .int a2] M) (rR_QI D cI cZ ad r M) 0 0 (rR_A ad) := rR_met hI rfl (rv_cat rfl) (Nat.le_of_ble_eq_true rfl) (fun p e s m args below meth c E => ⟨(rR_qI D cI cZ ad below args s M), rfl, b12_ownersOf E M a1 a2⟩) h
abbrev rm12_isChanged : Room := { frames := 2, cells := 0, slots := 0, locals := 47 }
set_option maxRecDepth 100000 in
theorem b12_isChanged {p : Program} {l : Launch} {e : Env} {s : State} {m : MethodId} {args : Array Value} {below : List Frame} {meth : Method} {c : Code} {D : va_G} {cI cZ : ClassId} {ad : Nat → Nat} (E : rR_E D cI cZ ad cX12_isChanged 3 (some .boolean) p s m args meth c) (M : rv_Mem) (a1 : Int32) (a2 : Int32) : rv_M (rR_G D cI cZ ad) (rR_A ad) p l e rm12_isChanged s m args below meth c 0 0  (rR_qZ D cI cZ ad below args s M) (f12_isChanged M a1 a2) 0 [some (.ref (ad 67)), some (.int a1), some (.int a2)] [] M := by
  unfold f12_isChanged
  refine rv_aload_n (q := 1) E.x dX12_isChanged_0 rfl rfl ?_
  refine rv_aload_n (q := 2) E.x dX12_isChanged_1 rfl rfl ?_
  refine rv_iload_n (q := 3) E.x dX12_isChanged_2 rfl rfl ?_
  refine rv_b1 (fun r2 e1 => ?_)
  refine rR_calli (q := 6) E (c12_current E.2.2.1 e1) gX12_current hX12_current ⟨rfl, rfl⟩ ⟨Nat.le_of_ble_eq_true rfl, Nat.le_of_ble_eq_true rfl⟩ rfl rfl rfl (Nat.le_of_ble_eq_true rfl) dX12_isChanged_3 rfl ?_
  refine rv_aload_n (q := 7) E.x dX12_isChanged_6 rfl rfl ?_
  refine rR_get (q := 10) E 2 wf12_2 rfl (Nat.le_of_ble_eq_true rfl) rfl dX12_isChanged_7 rfl ?_
  refine rv_aload_n (q := 11) E.x dX12_isChanged_10 rfl rfl ?_
  refine rv_iload_n (q := 12) E.x dX12_isChanged_11 rfl rfl ?_
  refine rv_b1 (fun r4 e3 => ?_)
  refine rR_calli (q := 15) E (c12_current E.2.2.1 e3) gX12_current hX12_current ⟨rfl, rfl⟩ ⟨Nat.le_of_ble_eq_true rfl, Nat.le_of_ble_eq_true rfl⟩ rfl rfl rfl (Nat.le_of_ble_eq_true rfl) dX12_isChanged_12 rfl ?_
  refine rR_iald (q := 16) (n := 82) E (Nat.le_of_ble_eq_true rfl) rfl rfl dX12_isChanged_15 rfl ?_
  refine rv_iload_n (q := 17) E.x dX12_isChanged_16 rfl rfl ?_
  refine rv_b1 (fun r6 e5 => ?_)
  refine rR_calli (q := 20) E (c12_isSameFile E.2.2.1 e5) gX12_isSameFile hX12_isSameFile ⟨rfl, rfl⟩ ⟨Nat.le_of_ble_eq_true rfl, Nat.le_of_ble_eq_true rfl⟩ rfl rfl rfl (Nat.le_of_ble_eq_true rfl) dX12_isChanged_17 rfl ?_
  refine rv_ifz_ne (q := 23) (tgt := 27) E.x dX12_isChanged_20 (by decide) rfl ?_ ?_
  · refine rv_iconst (q := 24) E.x dX12_isChanged_23 rv_ki1 rfl ?_
    refine rv_goto (q := 28) E.x dX12_isChanged_24 (by decide) ?_
    exact rR_zret E true rfl dX12_isChanged_28
  · refine rv_iconst (q := 28) E.x dX12_isChanged_27 rv_ki0 rfl ?_
    exact rR_zret E false rfl dX12_isChanged_28
theorem c12_isChanged {l : Launch} {D : va_G} {cI cZ : ClassId} {ad : Nat → Nat} (hI : rR_I ad) {M : rv_Mem} {a1 : Int32} {a2 : Int32} {r : Bool} (h : f12_isChanged M a1 a2 = some r) : Met l yX12_isChanged (rv_ws yX12_isChanged cX12_isChanged 3 (some .boolean)) rm12_isChanged (rR_Pc D cI cZ ad [.ref (ad 67), .int a1, .int a2] M) (rR_QI D cI cZ ad (rv_i r) M) 0 0 (rR_A ad) := rR_met hI rfl (rv_cat rfl) (Nat.le_of_ble_eq_true rfl) (fun p e s m args below meth c E => ⟨(rR_qZ D cI cZ ad below args s M), rfl, b12_isChanged E M a1 a2⟩) h
abbrev rm12_bits : Room := { frames := 0, cells := 0, slots := 0, locals := 0 }
set_option maxRecDepth 100000 in
theorem b12_bits_4_s {p : Program} {l : Launch} {e : Env} {s : State} {m : MethodId} {args : Array Value} {below : List Frame} {meth : Method} {c : Code} (E : rS_E cX12_bits 3 (some .int) p s m args meth c)   (k4 : Int32 → Int32 → Int32 → Option (Int32)) (h4 : ∀ (x0 : Int32) (x1 : Int32) (x2 : Int32), rv_M (fun (_ : Unit) _ => True) (fun _ => False) p l e rm12_bits s m args below meth c 0 0 (rS_qI below args s) (k4 x0 x1 x2) 4 [some (.int x0), some (.int x1), some (.int x2)] [] ()) : ∀ (x0 : Int32) (x1 : Int32) (x2 : Int32), rv_M (fun (_ : Unit) _ => True) (fun _ => False) p l e rm12_bits s m args below meth c 0 0 (rS_qI below args s) (f12_bits_4_s k4 x0 x1 x2) 4 [some (.int x0), some (.int x1), some (.int x2)] [] () := by
  intro x0 x1 x2
  unfold f12_bits_4_s
  refine rv_iload_n (q := 5) E.x dX12_bits_4 rfl rfl ?_
  refine rv_bipush (q := 7) E.x dX12_bits_5 rv_kb20 rfl ?_
  refine rv_icmp_ge (q := 10) (tgt := 24) E.x dX12_bits_7 (by decide) rfl ?_ ?_
  · refine rv_iload_n (q := 11) E.x dX12_bits_10 rfl rfl ?_
    refine rv_iload_n (q := 12) E.x dX12_bits_11 rfl rfl ?_
    refine rv_iload_n (q := 13) E.x dX12_bits_12 rfl rfl ?_
    refine rv_ishr (q := 14) E.x dX12_bits_13 rfl ?_
    refine rv_iconst (q := 15) E.x dX12_bits_14 rv_ki1 rfl ?_
    refine rv_iand (q := 16) E.x dX12_bits_15 rfl ?_
    refine rv_iadd (q := 17) E.x dX12_bits_16 rfl ?_
    refine rv_istore_n (q := 18) (lv' := [_, _, _]) E.x dX12_bits_17 (Nat.le_of_ble_eq_true rfl) rfl rfl rfl ?_
    refine rv_iinc (q := 21) (lv' := [_, _, _]) E.x dX12_bits_18 rv_ki1 rfl rfl rfl rfl ?_
    refine rv_goto (q := 4) E.x dX12_bits_21 (by decide) ?_
    refine rv_wk [true, true, true] ?_
    exact h4 x0 (x1 + ((x0 >>> (x2 &&& 31)) &&& 1)) (x2 + 1)
  · refine rv_iload_n (q := 25) E.x dX12_bits_24 rfl rfl ?_
    exact rR_sret E rfl dX12_bits_25
theorem b12_bits_4 {p : Program} {l : Launch} {e : Env} {s : State} {m : MethodId} {args : Array Value} {below : List Frame} {meth : Method} {c : Code} (E : rS_E cX12_bits 3 (some .int) p s m args meth c)   : ∀ (n : Nat), ∀ (x0 : Int32) (x1 : Int32) (x2 : Int32), rv_M (fun (_ : Unit) _ => True) (fun _ => False) p l e rm12_bits s m args below meth c 0 0 (rS_qI below args s) (f12_bits_4 n x0 x1 x2) 4 [some (.int x0), some (.int x1), some (.int x2)] [] () := by
  intro n
  induction n with
  | zero => exact fun _ _ _ => rv_stuck
  | succ n ih => exact b12_bits_4_s E  (f12_bits_4 n) ih
set_option maxRecDepth 100000 in
theorem b12_bits {p : Program} {l : Launch} {e : Env} {s : State} {m : MethodId} {args : Array Value} {below : List Frame} {meth : Method} {c : Code} (E : rS_E cX12_bits 3 (some .int) p s m args meth c) (a1 : Int32) : rv_M (fun (_ : Unit) _ => True) (fun _ => False) p l e rm12_bits s m args below meth c 0 0  (rS_qI below args s) (f12_bits a1) 0 [some (.int a1), none, none] [] () := by
  unfold f12_bits
  refine rv_iconst (q := 1) E.x dX12_bits_0 rv_ki0 rfl ?_
  refine rv_istore_n (q := 2) (lv' := [_, _, _]) E.x dX12_bits_1 (Nat.le_of_ble_eq_true rfl) rfl rfl rfl ?_
  refine rv_iconst (q := 3) E.x dX12_bits_2 rv_ki0 rfl ?_
  refine rv_istore_n (q := 4) (lv' := [_, _, _]) E.x dX12_bits_3 (Nat.le_of_ble_eq_true rfl) rfl rfl rfl ?_
  refine rv_wk [true, true, true] ?_
  exact b12_bits_4 E rv_FU a1 0 0
theorem c12_bits {l : Launch} {a1 : Int32} {r : Int32} (h : f12_bits a1 = some r) : Met l yX12_bits (rv_ws yX12_bits cX12_bits 3 (some .int)) rm12_bits (va_Pc [.int a1] (fun _ => True)) (rR_SQ r) 0 0 (fun _ => False) := rR_mets rfl (rv_cat rfl) (Nat.le_of_ble_eq_true rfl) (fun p e s m args below meth c E hr hl => ⟨rS_qI below args s, rfl, b12_bits ⟨E, hr, hl⟩ a1⟩) h
abbrev rm12_fewestOf : Room := { frames := 3, cells := 0, slots := 0, locals := 69 }
set_option maxRecDepth 100000 in
theorem b12_fewestOf_57 {p : Program} {l : Launch} {e : Env} {s : State} {m : MethodId} {args : Array Value} {below : List Frame} {meth : Method} {c : Code} {D : va_G} {cI cZ : ClassId} {ad : Nat → Nat} (E : rR_E D cI cZ ad cX12_fewestOf 6 (some .int) p s m args meth c) (M : rv_Mem) (k5 : Int32 → Int32 → Int32 → Option (Int32)) (k15 : Int32 → Int32 → Int32 → Bool → Int32 → Option (Int32)) (h5 : ∀ (x1 : Int32) (x2 : Int32) (x3 : Int32), rv_M (rR_G D cI cZ ad) (rR_A ad) p l e rm12_fewestOf s m args below meth c 0 0 (rR_qI D cI cZ ad below args s M) (k5 x1 x2 x3) 5 [some (.ref (ad 67)), some (.int x1), some (.int x2), some (.int x3), none, none] [] M) (h15 : ∀ (x1 : Int32) (x2 : Int32) (x3 : Int32) (x4 : Bool) (x5 : Int32), rv_M (rR_G D cI cZ ad) (rR_A ad) p l e rm12_fewestOf s m args below meth c 0 0 (rR_qI D cI cZ ad below args s M) (k15 x1 x2 x3 x4 x5) 15 [some (.ref (ad 67)), some (.int x1), some (.int x2), some (.int x3), some (.int (rv_i x4)), some (.int x5)] [] M) : ∀ (x1 : Int32) (x2 : Int32) (x3 : Int32) (x5 : Int32) (s0 : Bool), rv_M (rR_G D cI cZ ad) (rR_A ad) p l e rm12_fewestOf s m args below meth c 0 0 (rR_qI D cI cZ ad below args s M) (f12_fewestOf_57 M k5 k15 x1 x2 x3 x5 s0) 57 [some (.ref (ad 67)), some (.int x1), some (.int x2), some (.int x3), none, some (.int x5)] [.int (rv_i s0)] M := by
  intro x1 x2 x3 x5 s0
  unfold f12_fewestOf_57
  refine rv_istore (q := 59) (lv' := [_, _, _, _, _, _]) E.x dX12_fewestOf_57 (Nat.le_of_ble_eq_true rfl) rfl rfl rfl ?_
  refine rv_iinc (q := 62) (lv' := [_, _, _, _, _, _]) E.x dX12_fewestOf_59 rv_ki1 rfl rfl rfl rfl ?_
  refine rv_goto (q := 15) E.x dX12_fewestOf_62 (by decide) ?_
  refine rv_wk [true, true, true, true, true, true] ?_
  exact h15 x1 x2 x3 s0 (x5 + 1)
set_option maxRecDepth 100000 in
theorem b12_fewestOf_52 {p : Program} {l : Launch} {e : Env} {s : State} {m : MethodId} {args : Array Value} {below : List Frame} {meth : Method} {c : Code} {D : va_G} {cI cZ : ClassId} {ad : Nat → Nat} (E : rR_E D cI cZ ad cX12_fewestOf 6 (some .int) p s m args meth c) (M : rv_Mem) (k5 : Int32 → Int32 → Int32 → Option (Int32)) (k15 : Int32 → Int32 → Int32 → Bool → Int32 → Option (Int32)) (h5 : ∀ (x1 : Int32) (x2 : Int32) (x3 : Int32), rv_M (rR_G D cI cZ ad) (rR_A ad) p l e rm12_fewestOf s m args below meth c 0 0 (rR_qI D cI cZ ad below args s M) (k5 x1 x2 x3) 5 [some (.ref (ad 67)), some (.int x1), some (.int x2), some (.int x3), none, none] [] M) (h15 : ∀ (x1 : Int32) (x2 : Int32) (x3 : Int32) (x4 : Bool) (x5 : Int32), rv_M (rR_G D cI cZ ad) (rR_A ad) p l e rm12_fewestOf s m args below meth c 0 0 (rR_qI D cI cZ ad below args s M) (k15 x1 x2 x3 x4 x5) 15 [some (.ref (ad 67)), some (.int x1), some (.int x2), some (.int x3), some (.int (rv_i x4)), some (.int x5)] [] M) : ∀ (x1 : Int32) (x2 : Int32) (x3 : Int32) (x5 : Int32), rv_M (rR_G D cI cZ ad) (rR_A ad) p l e rm12_fewestOf s m args below meth c 0 0 (rR_qI D cI cZ ad below args s M) (f12_fewestOf_52 M k5 k15 x1 x2 x3 x5) 52 [some (.ref (ad 67)), some (.int x1), some (.int x2), some (.int x3), none, some (.int x5)] [] M := by
  intro x1 x2 x3 x5
  unfold f12_fewestOf_52
  refine rv_iconst (q := 53) E.x dX12_fewestOf_52 rv_ki1 rfl ?_
  refine rv_goto (q := 57) E.x dX12_fewestOf_53 (by decide) ?_
  refine rv_wk [true, true, true, true, false, true] ?_
  exact b12_fewestOf_57 E M k5 k15 h5 h15 x1 x2 x3 x5 true
set_option maxRecDepth 100000 in
theorem b12_fewestOf_56 {p : Program} {l : Launch} {e : Env} {s : State} {m : MethodId} {args : Array Value} {below : List Frame} {meth : Method} {c : Code} {D : va_G} {cI cZ : ClassId} {ad : Nat → Nat} (E : rR_E D cI cZ ad cX12_fewestOf 6 (some .int) p s m args meth c) (M : rv_Mem) (k5 : Int32 → Int32 → Int32 → Option (Int32)) (k15 : Int32 → Int32 → Int32 → Bool → Int32 → Option (Int32)) (h5 : ∀ (x1 : Int32) (x2 : Int32) (x3 : Int32), rv_M (rR_G D cI cZ ad) (rR_A ad) p l e rm12_fewestOf s m args below meth c 0 0 (rR_qI D cI cZ ad below args s M) (k5 x1 x2 x3) 5 [some (.ref (ad 67)), some (.int x1), some (.int x2), some (.int x3), none, none] [] M) (h15 : ∀ (x1 : Int32) (x2 : Int32) (x3 : Int32) (x4 : Bool) (x5 : Int32), rv_M (rR_G D cI cZ ad) (rR_A ad) p l e rm12_fewestOf s m args below meth c 0 0 (rR_qI D cI cZ ad below args s M) (k15 x1 x2 x3 x4 x5) 15 [some (.ref (ad 67)), some (.int x1), some (.int x2), some (.int x3), some (.int (rv_i x4)), some (.int x5)] [] M) : ∀ (x1 : Int32) (x2 : Int32) (x3 : Int32) (x5 : Int32), rv_M (rR_G D cI cZ ad) (rR_A ad) p l e rm12_fewestOf s m args below meth c 0 0 (rR_qI D cI cZ ad below args s M) (f12_fewestOf_56 M k5 k15 x1 x2 x3 x5) 56 [some (.ref (ad 67)), some (.int x1), some (.int x2), some (.int x3), none, some (.int x5)] [] M := by
  intro x1 x2 x3 x5
  unfold f12_fewestOf_56
  refine rv_iconst (q := 57) E.x dX12_fewestOf_56 rv_ki0 rfl ?_
  refine rv_wk [true, true, true, true, false, true] ?_
  exact b12_fewestOf_57 E M k5 k15 h5 h15 x1 x2 x3 x5 false
set_option maxRecDepth 100000 in
theorem b12_fewestOf_91 {p : Program} {l : Launch} {e : Env} {s : State} {m : MethodId} {args : Array Value} {below : List Frame} {meth : Method} {c : Code} {D : va_G} {cI cZ : ClassId} {ad : Nat → Nat} (E : rR_E D cI cZ ad cX12_fewestOf 6 (some .int) p s m args meth c) (M : rv_Mem) (k5 : Int32 → Int32 → Int32 → Option (Int32)) (h5 : ∀ (x1 : Int32) (x2 : Int32) (x3 : Int32), rv_M (rR_G D cI cZ ad) (rR_A ad) p l e rm12_fewestOf s m args below meth c 0 0 (rR_qI D cI cZ ad below args s M) (k5 x1 x2 x3) 5 [some (.ref (ad 67)), some (.int x1), some (.int x2), some (.int x3), none, none] [] M) : ∀ (x1 : Int32) (x3 : Int32) (s0 : Int32), rv_M (rR_G D cI cZ ad) (rR_A ad) p l e rm12_fewestOf s m args below meth c 0 0 (rR_qI D cI cZ ad below args s M) (f12_fewestOf_91 M k5 x1 x3 s0) 91 [some (.ref (ad 67)), some (.int x1), none, some (.int x3), none, none] [.int s0] M := by
  intro x1 x3 s0
  unfold f12_fewestOf_91
  refine rv_istore_n (q := 92) (lv' := [_, _, _, _, _, _]) E.x dX12_fewestOf_91 (Nat.le_of_ble_eq_true rfl) rfl rfl rfl ?_
  refine rv_iinc (q := 95) (lv' := [_, _, _, _, _, _]) E.x dX12_fewestOf_92 rv_kim1 rfl rfl rfl rfl ?_
  refine rv_goto (q := 5) E.x dX12_fewestOf_95 (by decide) ?_
  refine rv_wk [true, true, true, true, false, false] ?_
  exact h5 x1 s0 (x3 + (-1))
set_option maxRecDepth 100000 in
theorem b12_fewestOf_86 {p : Program} {l : Launch} {e : Env} {s : State} {m : MethodId} {args : Array Value} {below : List Frame} {meth : Method} {c : Code} {D : va_G} {cI cZ : ClassId} {ad : Nat → Nat} (E : rR_E D cI cZ ad cX12_fewestOf 6 (some .int) p s m args meth c) (M : rv_Mem) (k5 : Int32 → Int32 → Int32 → Option (Int32)) (h5 : ∀ (x1 : Int32) (x2 : Int32) (x3 : Int32), rv_M (rR_G D cI cZ ad) (rR_A ad) p l e rm12_fewestOf s m args below meth c 0 0 (rR_qI D cI cZ ad below args s M) (k5 x1 x2 x3) 5 [some (.ref (ad 67)), some (.int x1), some (.int x2), some (.int x3), none, none] [] M) : ∀ (x1 : Int32) (x3 : Int32), rv_M (rR_G D cI cZ ad) (rR_A ad) p l e rm12_fewestOf s m args below meth c 0 0 (rR_qI D cI cZ ad below args s M) (f12_fewestOf_86 M k5 x1 x3) 86 [some (.ref (ad 67)), some (.int x1), none, some (.int x3), none, none] [] M := by
  intro x1 x3
  unfold f12_fewestOf_86
  refine rv_iload_n (q := 87) E.x dX12_fewestOf_86 rfl rfl ?_
  refine rv_goto (q := 91) E.x dX12_fewestOf_87 (by decide) ?_
  refine rv_wk [true, true, false, true, false, false] ?_
  exact b12_fewestOf_91 E M k5 h5 x1 x3 x3
set_option maxRecDepth 100000 in
theorem b12_fewestOf_90 {p : Program} {l : Launch} {e : Env} {s : State} {m : MethodId} {args : Array Value} {below : List Frame} {meth : Method} {c : Code} {D : va_G} {cI cZ : ClassId} {ad : Nat → Nat} (E : rR_E D cI cZ ad cX12_fewestOf 6 (some .int) p s m args meth c) (M : rv_Mem) (k5 : Int32 → Int32 → Int32 → Option (Int32)) (h5 : ∀ (x1 : Int32) (x2 : Int32) (x3 : Int32), rv_M (rR_G D cI cZ ad) (rR_A ad) p l e rm12_fewestOf s m args below meth c 0 0 (rR_qI D cI cZ ad below args s M) (k5 x1 x2 x3) 5 [some (.ref (ad 67)), some (.int x1), some (.int x2), some (.int x3), none, none] [] M) : ∀ (x1 : Int32) (x2 : Int32) (x3 : Int32), rv_M (rR_G D cI cZ ad) (rR_A ad) p l e rm12_fewestOf s m args below meth c 0 0 (rR_qI D cI cZ ad below args s M) (f12_fewestOf_90 M k5 x1 x2 x3) 90 [some (.ref (ad 67)), some (.int x1), some (.int x2), some (.int x3), none, none] [] M := by
  intro x1 x2 x3
  unfold f12_fewestOf_90
  refine rv_iload_n (q := 91) E.x dX12_fewestOf_90 rfl rfl ?_
  refine rv_wk [true, true, false, true, false, false] ?_
  exact b12_fewestOf_91 E M k5 h5 x1 x3 x2
set_option maxRecDepth 100000 in
theorem b12_fewestOf_15_s {p : Program} {l : Launch} {e : Env} {s : State} {m : MethodId} {args : Array Value} {below : List Frame} {meth : Method} {c : Code} {D : va_G} {cI cZ : ClassId} {ad : Nat → Nat} (E : rR_E D cI cZ ad cX12_fewestOf 6 (some .int) p s m args meth c) (M : rv_Mem) (k5 : Int32 → Int32 → Int32 → Option (Int32)) (h5 : ∀ (x1 : Int32) (x2 : Int32) (x3 : Int32), rv_M (rR_G D cI cZ ad) (rR_A ad) p l e rm12_fewestOf s m args below meth c 0 0 (rR_qI D cI cZ ad below args s M) (k5 x1 x2 x3) 5 [some (.ref (ad 67)), some (.int x1), some (.int x2), some (.int x3), none, none] [] M) (k15 : Int32 → Int32 → Int32 → Bool → Int32 → Option (Int32)) (h15 : ∀ (x1 : Int32) (x2 : Int32) (x3 : Int32) (x4 : Bool) (x5 : Int32), rv_M (rR_G D cI cZ ad) (rR_A ad) p l e rm12_fewestOf s m args below meth c 0 0 (rR_qI D cI cZ ad below args s M) (k15 x1 x2 x3 x4 x5) 15 [some (.ref (ad 67)), some (.int x1), some (.int x2), some (.int x3), some (.int (rv_i x4)), some (.int x5)] [] M) : ∀ (x1 : Int32) (x2 : Int32) (x3 : Int32) (x4 : Bool) (x5 : Int32), rv_M (rR_G D cI cZ ad) (rR_A ad) p l e rm12_fewestOf s m args below meth c 0 0 (rR_qI D cI cZ ad below args s M) (f12_fewestOf_15_s M k5 k15 x1 x2 x3 x4 x5) 15 [some (.ref (ad 67)), some (.int x1), some (.int x2), some (.int x3), some (.int (rv_i x4)), some (.int x5)] [] M := by
  intro x1 x2 x3 x4 x5
  unfold f12_fewestOf_15_s
  refine rv_iload (q := 17) E.x dX12_fewestOf_15 rfl rfl ?_
  refine rv_iconst (q := 18) E.x dX12_fewestOf_17 rv_ki4 rfl ?_
  refine rv_icmp_ge (q := 21) (tgt := 65) E.x dX12_fewestOf_18 (by decide) rfl ?_ ?_
  · refine rv_iload (q := 23) E.x dX12_fewestOf_21 rfl rfl ?_
    refine rv_ifz_eq (q := 26) (tgt := 56) E.x dX12_fewestOf_23 (by decide) rfl ?_ ?_
    · refine rv_aload_n (q := 27) E.x dX12_fewestOf_26 rfl rfl ?_
      refine rv_iload_n (q := 28) E.x dX12_fewestOf_27 rfl rfl ?_
      refine rv_iload (q := 30) E.x dX12_fewestOf_28 rfl rfl ?_
      refine rv_b1 (fun r2 e1 => ?_)
      refine rR_calli (q := 33) E (c12_isChanged E.2.2.1 e1) gX12_isChanged hX12_isChanged ⟨rfl, rfl⟩ ⟨Nat.le_of_ble_eq_true rfl, Nat.le_of_ble_eq_true rfl⟩ rfl rfl rfl (Nat.le_of_ble_eq_true rfl) dX12_fewestOf_30 rfl ?_
      refine rv_ifz_eq (q := 36) (tgt := 52) E.x dX12_fewestOf_33 (by decide) rfl ?_ ?_
      · refine rv_aload_n (q := 37) E.x dX12_fewestOf_36 rfl rfl ?_
        refine rv_aload_n (q := 38) E.x dX12_fewestOf_37 rfl rfl ?_
        refine rv_iload_n (q := 39) E.x dX12_fewestOf_38 rfl rfl ?_
        refine rv_b1 (fun r4 e3 => ?_)
        refine rR_calli (q := 42) E (c12_repoOf E.2.2.1 e3) gX12_repoOf hX12_repoOf ⟨rfl, rfl⟩ ⟨Nat.le_of_ble_eq_true rfl, Nat.le_of_ble_eq_true rfl⟩ rfl rfl rfl (Nat.le_of_ble_eq_true rfl) dX12_fewestOf_39 rfl ?_
        refine rv_iload (q := 44) E.x dX12_fewestOf_42 rfl rfl ?_
        refine rv_b1 (fun r6 e5 => ?_)
        refine rR_calli (q := 47) E (c12_ownersOf E.2.2.1 e5) gX12_ownersOf hX12_ownersOf ⟨rfl, rfl⟩ ⟨Nat.le_of_ble_eq_true rfl, Nat.le_of_ble_eq_true rfl⟩ rfl rfl rfl (Nat.le_of_ble_eq_true rfl) dX12_fewestOf_44 rfl ?_
        refine rv_iload_n (q := 48) E.x dX12_fewestOf_47 rfl rfl ?_
        refine rv_iand (q := 49) E.x dX12_fewestOf_48 rfl ?_
        refine rv_if_eq (q := 52) (tgt := 56) E.x dX12_fewestOf_49 (by decide) rfl ?_ ?_
        · refine rv_wk [true, true, true, true, false, true] ?_
          exact b12_fewestOf_52 E M k5 k15 h5 h15 x1 x2 x3 x5
        · refine rv_wk [true, true, true, true, false, true] ?_
          exact b12_fewestOf_56 E M k5 k15 h5 h15 x1 x2 x3 x5
      · refine rv_wk [true, true, true, true, false, true] ?_
        exact b12_fewestOf_52 E M k5 k15 h5 h15 x1 x2 x3 x5
    · refine rv_wk [true, true, true, true, false, true] ?_
      exact b12_fewestOf_56 E M k5 k15 h5 h15 x1 x2 x3 x5
  · refine rv_iload (q := 67) E.x dX12_fewestOf_65 rfl rfl ?_
    refine rv_ifz_eq (q := 70) (tgt := 90) E.x dX12_fewestOf_67 (by decide) rfl ?_ ?_
    · refine rv_iload_n (q := 71) E.x dX12_fewestOf_70 rfl rfl ?_
      refine rv_iconst (q := 72) E.x dX12_fewestOf_71 rv_kim1 rfl ?_
      refine rv_icmp_eq (q := 75) (tgt := 86) E.x dX12_fewestOf_72 (by decide) rfl ?_ ?_
      · refine rv_iload_n (q := 76) E.x dX12_fewestOf_75 rfl rfl ?_
        refine rv_b1 (fun r8 e7 => ?_)
        refine rR_calls (q := 79) E (c12_bits e7) gX12_bits hX12_bits ⟨rfl, rfl⟩ ⟨Nat.le_of_ble_eq_true rfl, Nat.le_of_ble_eq_true rfl⟩ rfl rfl rfl (Nat.le_of_ble_eq_true rfl) dX12_fewestOf_76 rfl ?_
        refine rv_iload_n (q := 80) E.x dX12_fewestOf_79 rfl rfl ?_
        refine rv_b1 (fun r10 e9 => ?_)
        refine rR_calls (q := 83) E (c12_bits e9) gX12_bits hX12_bits ⟨rfl, rfl⟩ ⟨Nat.le_of_ble_eq_true rfl, Nat.le_of_ble_eq_true rfl⟩ rfl rfl rfl (Nat.le_of_ble_eq_true rfl) dX12_fewestOf_80 rfl ?_
        refine rv_icmp_gt (q := 86) (tgt := 90) E.x dX12_fewestOf_83 (by decide) rfl ?_ ?_
        · refine rv_wk [true, true, false, true, false, false] ?_
          exact b12_fewestOf_86 E M k5 h5 x1 x3
        · refine rv_wk [true, true, true, true, false, false] ?_
          exact b12_fewestOf_90 E M k5 h5 x1 x2 x3
      · refine rv_wk [true, true, false, true, false, false] ?_
        exact b12_fewestOf_86 E M k5 h5 x1 x3
    · refine rv_wk [true, true, true, true, false, false] ?_
      exact b12_fewestOf_90 E M k5 h5 x1 x2 x3
theorem b12_fewestOf_15 {p : Program} {l : Launch} {e : Env} {s : State} {m : MethodId} {args : Array Value} {below : List Frame} {meth : Method} {c : Code} {D : va_G} {cI cZ : ClassId} {ad : Nat → Nat} (E : rR_E D cI cZ ad cX12_fewestOf 6 (some .int) p s m args meth c) (M : rv_Mem) (k5 : Int32 → Int32 → Int32 → Option (Int32)) (h5 : ∀ (x1 : Int32) (x2 : Int32) (x3 : Int32), rv_M (rR_G D cI cZ ad) (rR_A ad) p l e rm12_fewestOf s m args below meth c 0 0 (rR_qI D cI cZ ad below args s M) (k5 x1 x2 x3) 5 [some (.ref (ad 67)), some (.int x1), some (.int x2), some (.int x3), none, none] [] M) : ∀ (n : Nat), ∀ (x1 : Int32) (x2 : Int32) (x3 : Int32) (x4 : Bool) (x5 : Int32), rv_M (rR_G D cI cZ ad) (rR_A ad) p l e rm12_fewestOf s m args below meth c 0 0 (rR_qI D cI cZ ad below args s M) (f12_fewestOf_15 M k5 n x1 x2 x3 x4 x5) 15 [some (.ref (ad 67)), some (.int x1), some (.int x2), some (.int x3), some (.int (rv_i x4)), some (.int x5)] [] M := by
  intro n
  induction n with
  | zero => exact fun _ _ _ _ _ => rv_stuck
  | succ n ih => exact b12_fewestOf_15_s E M k5 h5 (f12_fewestOf_15 M k5 n) ih
set_option maxRecDepth 100000 in
theorem b12_fewestOf_5_s {p : Program} {l : Launch} {e : Env} {s : State} {m : MethodId} {args : Array Value} {below : List Frame} {meth : Method} {c : Code} {D : va_G} {cI cZ : ClassId} {ad : Nat → Nat} (E : rR_E D cI cZ ad cX12_fewestOf 6 (some .int) p s m args meth c) (M : rv_Mem)   (k5 : Int32 → Int32 → Int32 → Option (Int32)) (h5 : ∀ (x1 : Int32) (x2 : Int32) (x3 : Int32), rv_M (rR_G D cI cZ ad) (rR_A ad) p l e rm12_fewestOf s m args below meth c 0 0 (rR_qI D cI cZ ad below args s M) (k5 x1 x2 x3) 5 [some (.ref (ad 67)), some (.int x1), some (.int x2), some (.int x3), none, none] [] M) : ∀ (x1 : Int32) (x2 : Int32) (x3 : Int32), rv_M (rR_G D cI cZ ad) (rR_A ad) p l e rm12_fewestOf s m args below meth c 0 0 (rR_qI D cI cZ ad below args s M) (f12_fewestOf_5_s M k5 x1 x2 x3) 5 [some (.ref (ad 67)), some (.int x1), some (.int x2), some (.int x3), none, none] [] M := by
  intro x1 x2 x3
  unfold f12_fewestOf_5_s
  refine rv_iload_n (q := 6) E.x dX12_fewestOf_5 rfl rfl ?_
  refine rv_if_lt (q := 9) (tgt := 98) E.x dX12_fewestOf_6 (by decide) rfl ?_ ?_
  · refine rv_iconst (q := 10) E.x dX12_fewestOf_9 rv_ki1 rfl ?_
    refine rv_istore (q := 12) (lv' := [_, _, _, _, _, _]) E.x dX12_fewestOf_10 (Nat.le_of_ble_eq_true rfl) rfl rfl rfl ?_
    refine rv_iconst (q := 13) E.x dX12_fewestOf_12 rv_ki0 rfl ?_
    refine rv_istore (q := 15) (lv' := [_, _, _, _, _, _]) E.x dX12_fewestOf_13 (Nat.le_of_ble_eq_true rfl) rfl rfl rfl ?_
    refine rv_wk [true, true, true, true, true, true] ?_
    exact b12_fewestOf_15 E M k5 h5 rv_FU x1 x2 x3 true 0
  · refine rv_iload_n (q := 99) E.x dX12_fewestOf_98 rfl rfl ?_
    exact rR_iret E rfl dX12_fewestOf_99
theorem b12_fewestOf_5 {p : Program} {l : Launch} {e : Env} {s : State} {m : MethodId} {args : Array Value} {below : List Frame} {meth : Method} {c : Code} {D : va_G} {cI cZ : ClassId} {ad : Nat → Nat} (E : rR_E D cI cZ ad cX12_fewestOf 6 (some .int) p s m args meth c) (M : rv_Mem)   : ∀ (n : Nat), ∀ (x1 : Int32) (x2 : Int32) (x3 : Int32), rv_M (rR_G D cI cZ ad) (rR_A ad) p l e rm12_fewestOf s m args below meth c 0 0 (rR_qI D cI cZ ad below args s M) (f12_fewestOf_5 M n x1 x2 x3) 5 [some (.ref (ad 67)), some (.int x1), some (.int x2), some (.int x3), none, none] [] M := by
  intro n
  induction n with
  | zero => exact fun _ _ _ => rv_stuck
  | succ n ih => exact b12_fewestOf_5_s E M (f12_fewestOf_5 M n) ih
set_option maxRecDepth 100000 in
theorem b12_fewestOf {p : Program} {l : Launch} {e : Env} {s : State} {m : MethodId} {args : Array Value} {below : List Frame} {meth : Method} {c : Code} {D : va_G} {cI cZ : ClassId} {ad : Nat → Nat} (E : rR_E D cI cZ ad cX12_fewestOf 6 (some .int) p s m args meth c) (M : rv_Mem) (a1 : Int32) : rv_M (rR_G D cI cZ ad) (rR_A ad) p l e rm12_fewestOf s m args below meth c 0 0  (rR_qI D cI cZ ad below args s M) (f12_fewestOf M a1) 0 [some (.ref (ad 67)), some (.int a1), none, none, none, none] [] M := by
  unfold f12_fewestOf
  refine rv_iconst (q := 1) E.x dX12_fewestOf_0 rv_kim1 rfl ?_
  refine rv_istore_n (q := 2) (lv' := [_, _, _, _, _, _]) E.x dX12_fewestOf_1 (Nat.le_of_ble_eq_true rfl) rfl rfl rfl ?_
  refine rv_bipush (q := 4) E.x dX12_fewestOf_2 rv_kb63 rfl ?_
  refine rv_istore_n (q := 5) (lv' := [_, _, _, _, _, _]) E.x dX12_fewestOf_4 (Nat.le_of_ble_eq_true rfl) rfl rfl rfl ?_
  refine rv_wk [true, true, true, true, false, false] ?_
  exact b12_fewestOf_5 E M rv_FU a1 (-1) 63
theorem c12_fewestOf {l : Launch} {D : va_G} {cI cZ : ClassId} {ad : Nat → Nat} (hI : rR_I ad) {M : rv_Mem} {a1 : Int32} {r : Int32} (h : f12_fewestOf M a1 = some r) : Met l yX12_fewestOf (rv_ws yX12_fewestOf cX12_fewestOf 6 (some .int)) rm12_fewestOf (rR_Pc D cI cZ ad [.ref (ad 67), .int a1] M) (rR_QI D cI cZ ad r M) 0 0 (rR_A ad) := rR_met hI rfl (rv_cat rfl) (Nat.le_of_ble_eq_true rfl) (fun p e s m args below meth c E => ⟨(rR_qI D cI cZ ad below args s M), rfl, b12_fewestOf E M a1⟩) h
abbrev rm12_isApproved : Room := { frames := 7, cells := 0, slots := 0, locals := 190 }
set_option maxRecDepth 100000 in
theorem b12_isApproved_43 {p : Program} {l : Launch} {e : Env} {s : State} {m : MethodId} {args : Array Value} {below : List Frame} {meth : Method} {c : Code} {D : va_G} {cI cZ : ClassId} {ad : Nat → Nat} (E : rR_E D cI cZ ad cX12_isApproved 5 (some .boolean) p s m args meth c) (k4 : rv_Mem → Int32 → Int32 → Int32 → Option (Bool × rv_Mem)) (h4 : ∀ (M : rv_Mem) (x1 : Int32) (x2 : Int32) (x3 : Int32), rv_M (rR_G D cI cZ ad) (rR_A ad) p l e rm12_isApproved s m args below meth c 0 0 (rR_qZW D cI cZ ad below args s) (k4 M x1 x2 x3) 4 [some (.ref (ad 67)), some (.int x1), some (.int x2), some (.int x3), none] [] M) : ∀ (M : rv_Mem) (x1 : Int32) (x3 : Int32) (s0 : Int32) (s1 : Int32), rv_M (rR_G D cI cZ ad) (rR_A ad) p l e rm12_isApproved s m args below meth c 0 0 (rR_qZW D cI cZ ad below args s) (f12_isApproved_43 k4 M x1 x3 s0 s1) 43 [some (.ref (ad 67)), some (.int x1), none, some (.int x3), none] [.int s1, .int s0] M := by
  intro M x1 x3 s0 s1
  unfold f12_isApproved_43
  refine rv_ior (q := 44) E.x dX12_isApproved_43 rfl ?_
  refine rv_istore_n (q := 45) (lv' := [_, _, _, _, _]) E.x dX12_isApproved_44 (Nat.le_of_ble_eq_true rfl) rfl rfl rfl ?_
  refine rv_iinc (q := 48) (lv' := [_, _, _, _, _]) E.x dX12_isApproved_45 rv_ki1 rfl rfl rfl rfl ?_
  refine rv_goto (q := 4) E.x dX12_isApproved_48 (by decide) ?_
  refine rv_wk [true, true, true, true, false] ?_
  exact h4 M x1 (s0 ||| s1) (x3 + 1)
set_option maxRecDepth 100000 in
theorem b12_isApproved_42 {p : Program} {l : Launch} {e : Env} {s : State} {m : MethodId} {args : Array Value} {below : List Frame} {meth : Method} {c : Code} {D : va_G} {cI cZ : ClassId} {ad : Nat → Nat} (E : rR_E D cI cZ ad cX12_isApproved 5 (some .boolean) p s m args meth c) (k4 : rv_Mem → Int32 → Int32 → Int32 → Option (Bool × rv_Mem)) (h4 : ∀ (M : rv_Mem) (x1 : Int32) (x2 : Int32) (x3 : Int32), rv_M (rR_G D cI cZ ad) (rR_A ad) p l e rm12_isApproved s m args below meth c 0 0 (rR_qZW D cI cZ ad below args s) (k4 M x1 x2 x3) 4 [some (.ref (ad 67)), some (.int x1), some (.int x2), some (.int x3), none] [] M) : ∀ (M : rv_Mem) (x1 : Int32) (x3 : Int32) (s0 : Int32), rv_M (rR_G D cI cZ ad) (rR_A ad) p l e rm12_isApproved s m args below meth c 0 0 (rR_qZW D cI cZ ad below args s) (f12_isApproved_42 k4 M x1 x3 s0) 42 [some (.ref (ad 67)), some (.int x1), none, some (.int x3), none] [.int s0] M := by
  intro M x1 x3 s0
  unfold f12_isApproved_42
  refine rv_iconst (q := 43) E.x dX12_isApproved_42 rv_ki0 rfl ?_
  refine rv_wk [true, true, false, true, false] ?_
  exact b12_isApproved_43 E k4 h4 M x1 x3 s0 0
set_option maxRecDepth 100000 in
theorem b12_isApproved_97 {p : Program} {l : Launch} {e : Env} {s : State} {m : MethodId} {args : Array Value} {below : List Frame} {meth : Method} {c : Code} {D : va_G} {cI cZ : ClassId} {ad : Nat → Nat} (E : rR_E D cI cZ ad cX12_isApproved 5 (some .boolean) p s m args meth c) (k56 : rv_Mem → Int32 → Int32 → Bool → Int32 → Option (Bool × rv_Mem)) (h56 : ∀ (M : rv_Mem) (x1 : Int32) (x2 : Int32) (x3 : Bool) (x4 : Int32), rv_M (rR_G D cI cZ ad) (rR_A ad) p l e rm12_isApproved s m args below meth c 0 0 (rR_qZW D cI cZ ad below args s) (k56 M x1 x2 x3 x4) 56 [some (.ref (ad 67)), some (.int x1), some (.int x2), some (.int (rv_i x3)), some (.int x4)] [] M) : ∀ (M : rv_Mem) (x1 : Int32) (x2 : Int32) (x4 : Int32) (s0 : Bool), rv_M (rR_G D cI cZ ad) (rR_A ad) p l e rm12_isApproved s m args below meth c 0 0 (rR_qZW D cI cZ ad below args s) (f12_isApproved_97 k56 M x1 x2 x4 s0) 97 [some (.ref (ad 67)), some (.int x1), some (.int x2), none, some (.int x4)] [.int (rv_i s0)] M := by
  intro M x1 x2 x4 s0
  unfold f12_isApproved_97
  refine rv_istore_n (q := 98) (lv' := [_, _, _, _, _]) E.x dX12_isApproved_97 (Nat.le_of_ble_eq_true rfl) rfl rfl rfl ?_
  refine rv_iinc (q := 101) (lv' := [_, _, _, _, _]) E.x dX12_isApproved_98 rv_ki1 rfl rfl rfl rfl ?_
  refine rv_goto (q := 56) E.x dX12_isApproved_101 (by decide) ?_
  refine rv_wk [true, true, true, true, true] ?_
  exact h56 M x1 x2 s0 (x4 + 1)
set_option maxRecDepth 100000 in
theorem b12_isApproved_92 {p : Program} {l : Launch} {e : Env} {s : State} {m : MethodId} {args : Array Value} {below : List Frame} {meth : Method} {c : Code} {D : va_G} {cI cZ : ClassId} {ad : Nat → Nat} (E : rR_E D cI cZ ad cX12_isApproved 5 (some .boolean) p s m args meth c) (k56 : rv_Mem → Int32 → Int32 → Bool → Int32 → Option (Bool × rv_Mem)) (h56 : ∀ (M : rv_Mem) (x1 : Int32) (x2 : Int32) (x3 : Bool) (x4 : Int32), rv_M (rR_G D cI cZ ad) (rR_A ad) p l e rm12_isApproved s m args below meth c 0 0 (rR_qZW D cI cZ ad below args s) (k56 M x1 x2 x3 x4) 56 [some (.ref (ad 67)), some (.int x1), some (.int x2), some (.int (rv_i x3)), some (.int x4)] [] M) : ∀ (M : rv_Mem) (x1 : Int32) (x2 : Int32) (x4 : Int32), rv_M (rR_G D cI cZ ad) (rR_A ad) p l e rm12_isApproved s m args below meth c 0 0 (rR_qZW D cI cZ ad below args s) (f12_isApproved_92 k56 M x1 x2 x4) 92 [some (.ref (ad 67)), some (.int x1), some (.int x2), none, some (.int x4)] [] M := by
  intro M x1 x2 x4
  unfold f12_isApproved_92
  refine rv_iconst (q := 93) E.x dX12_isApproved_92 rv_ki1 rfl ?_
  refine rv_goto (q := 97) E.x dX12_isApproved_93 (by decide) ?_
  refine rv_wk [true, true, true, false, true] ?_
  exact b12_isApproved_97 E k56 h56 M x1 x2 x4 true
set_option maxRecDepth 100000 in
theorem b12_isApproved_96 {p : Program} {l : Launch} {e : Env} {s : State} {m : MethodId} {args : Array Value} {below : List Frame} {meth : Method} {c : Code} {D : va_G} {cI cZ : ClassId} {ad : Nat → Nat} (E : rR_E D cI cZ ad cX12_isApproved 5 (some .boolean) p s m args meth c) (k56 : rv_Mem → Int32 → Int32 → Bool → Int32 → Option (Bool × rv_Mem)) (h56 : ∀ (M : rv_Mem) (x1 : Int32) (x2 : Int32) (x3 : Bool) (x4 : Int32), rv_M (rR_G D cI cZ ad) (rR_A ad) p l e rm12_isApproved s m args below meth c 0 0 (rR_qZW D cI cZ ad below args s) (k56 M x1 x2 x3 x4) 56 [some (.ref (ad 67)), some (.int x1), some (.int x2), some (.int (rv_i x3)), some (.int x4)] [] M) : ∀ (M : rv_Mem) (x1 : Int32) (x2 : Int32) (x4 : Int32), rv_M (rR_G D cI cZ ad) (rR_A ad) p l e rm12_isApproved s m args below meth c 0 0 (rR_qZW D cI cZ ad below args s) (f12_isApproved_96 k56 M x1 x2 x4) 96 [some (.ref (ad 67)), some (.int x1), some (.int x2), none, some (.int x4)] [] M := by
  intro M x1 x2 x4
  unfold f12_isApproved_96
  refine rv_iconst (q := 97) E.x dX12_isApproved_96 rv_ki0 rfl ?_
  refine rv_wk [true, true, true, false, true] ?_
  exact b12_isApproved_97 E k56 h56 M x1 x2 x4 false
set_option maxRecDepth 100000 in
theorem b12_isApproved_56_s {p : Program} {l : Launch} {e : Env} {s : State} {m : MethodId} {args : Array Value} {below : List Frame} {meth : Method} {c : Code} {D : va_G} {cI cZ : ClassId} {ad : Nat → Nat} (E : rR_E D cI cZ ad cX12_isApproved 5 (some .boolean) p s m args meth c)   (k56 : rv_Mem → Int32 → Int32 → Bool → Int32 → Option (Bool × rv_Mem)) (h56 : ∀ (M : rv_Mem) (x1 : Int32) (x2 : Int32) (x3 : Bool) (x4 : Int32), rv_M (rR_G D cI cZ ad) (rR_A ad) p l e rm12_isApproved s m args below meth c 0 0 (rR_qZW D cI cZ ad below args s) (k56 M x1 x2 x3 x4) 56 [some (.ref (ad 67)), some (.int x1), some (.int x2), some (.int (rv_i x3)), some (.int x4)] [] M) : ∀ (M : rv_Mem) (x1 : Int32) (x2 : Int32) (x3 : Bool) (x4 : Int32), rv_M (rR_G D cI cZ ad) (rR_A ad) p l e rm12_isApproved s m args below meth c 0 0 (rR_qZW D cI cZ ad below args s) (f12_isApproved_56_s k56 M x1 x2 x3 x4) 56 [some (.ref (ad 67)), some (.int x1), some (.int x2), some (.int (rv_i x3)), some (.int x4)] [] M := by
  intro M x1 x2 x3 x4
  unfold f12_isApproved_56_s
  refine rv_iload (q := 58) E.x dX12_isApproved_56 rfl rfl ?_
  refine rv_iconst (q := 59) E.x dX12_isApproved_58 rv_ki4 rfl ?_
  refine rv_icmp_ge (q := 62) (tgt := 104) E.x dX12_isApproved_59 (by decide) rfl ?_ ?_
  · refine rv_iload_n (q := 63) E.x dX12_isApproved_62 rfl rfl ?_
    refine rv_ifz_eq (q := 66) (tgt := 96) E.x dX12_isApproved_63 (by decide) rfl ?_ ?_
    · refine rv_aload_n (q := 67) E.x dX12_isApproved_66 rfl rfl ?_
      refine rv_iload_n (q := 68) E.x dX12_isApproved_67 rfl rfl ?_
      refine rv_iload (q := 70) E.x dX12_isApproved_68 rfl rfl ?_
      refine rv_b1 (fun r2 e1 => ?_)
      refine rR_calli (q := 73) E (c12_isChanged E.2.2.1 e1) gX12_isChanged hX12_isChanged ⟨rfl, rfl⟩ ⟨Nat.le_of_ble_eq_true rfl, Nat.le_of_ble_eq_true rfl⟩ rfl rfl rfl (Nat.le_of_ble_eq_true rfl) dX12_isApproved_70 rfl ?_
      refine rv_ifz_eq (q := 76) (tgt := 92) E.x dX12_isApproved_73 (by decide) rfl ?_ ?_
      · refine rv_aload_n (q := 77) E.x dX12_isApproved_76 rfl rfl ?_
        refine rv_aload_n (q := 78) E.x dX12_isApproved_77 rfl rfl ?_
        refine rv_iload_n (q := 79) E.x dX12_isApproved_78 rfl rfl ?_
        refine rv_b1 (fun r4 e3 => ?_)
        refine rR_calli (q := 82) E (c12_repoOf E.2.2.1 e3) gX12_repoOf hX12_repoOf ⟨rfl, rfl⟩ ⟨Nat.le_of_ble_eq_true rfl, Nat.le_of_ble_eq_true rfl⟩ rfl rfl rfl (Nat.le_of_ble_eq_true rfl) dX12_isApproved_79 rfl ?_
        refine rv_iload (q := 84) E.x dX12_isApproved_82 rfl rfl ?_
        refine rv_b1 (fun r6 e5 => ?_)
        refine rR_calli (q := 87) E (c12_ownersOf E.2.2.1 e5) gX12_ownersOf hX12_ownersOf ⟨rfl, rfl⟩ ⟨Nat.le_of_ble_eq_true rfl, Nat.le_of_ble_eq_true rfl⟩ rfl rfl rfl (Nat.le_of_ble_eq_true rfl) dX12_isApproved_84 rfl ?_
        refine rv_iload_n (q := 88) E.x dX12_isApproved_87 rfl rfl ?_
        refine rv_iand (q := 89) E.x dX12_isApproved_88 rfl ?_
        refine rv_if_eq (q := 92) (tgt := 96) E.x dX12_isApproved_89 (by decide) rfl ?_ ?_
        · refine rv_wk [true, true, true, false, true] ?_
          exact b12_isApproved_92 E k56 h56 M x1 x2 x4
        · refine rv_wk [true, true, true, false, true] ?_
          exact b12_isApproved_96 E k56 h56 M x1 x2 x4
      · refine rv_wk [true, true, true, false, true] ?_
        exact b12_isApproved_92 E k56 h56 M x1 x2 x4
    · refine rv_wk [true, true, true, false, true] ?_
      exact b12_isApproved_96 E k56 h56 M x1 x2 x4
  · refine rv_iload_n (q := 105) E.x dX12_isApproved_104 rfl rfl ?_
    exact rR_zret E x3 rfl dX12_isApproved_105
theorem b12_isApproved_56 {p : Program} {l : Launch} {e : Env} {s : State} {m : MethodId} {args : Array Value} {below : List Frame} {meth : Method} {c : Code} {D : va_G} {cI cZ : ClassId} {ad : Nat → Nat} (E : rR_E D cI cZ ad cX12_isApproved 5 (some .boolean) p s m args meth c)   : ∀ (n : Nat), ∀ (M : rv_Mem) (x1 : Int32) (x2 : Int32) (x3 : Bool) (x4 : Int32), rv_M (rR_G D cI cZ ad) (rR_A ad) p l e rm12_isApproved s m args below meth c 0 0 (rR_qZW D cI cZ ad below args s) (f12_isApproved_56 n M x1 x2 x3 x4) 56 [some (.ref (ad 67)), some (.int x1), some (.int x2), some (.int (rv_i x3)), some (.int x4)] [] M := by
  intro n
  induction n with
  | zero => exact fun _ _ _ _ _ => rv_stuck
  | succ n ih => exact b12_isApproved_56_s E  (f12_isApproved_56 n) ih
set_option maxRecDepth 100000 in
theorem b12_isApproved_4_s {p : Program} {l : Launch} {e : Env} {s : State} {m : MethodId} {args : Array Value} {below : List Frame} {meth : Method} {c : Code} {D : va_G} {cI cZ : ClassId} {ad : Nat → Nat} (E : rR_E D cI cZ ad cX12_isApproved 5 (some .boolean) p s m args meth c)   (k4 : rv_Mem → Int32 → Int32 → Int32 → Option (Bool × rv_Mem)) (h4 : ∀ (M : rv_Mem) (x1 : Int32) (x2 : Int32) (x3 : Int32), rv_M (rR_G D cI cZ ad) (rR_A ad) p l e rm12_isApproved s m args below meth c 0 0 (rR_qZW D cI cZ ad below args s) (k4 M x1 x2 x3) 4 [some (.ref (ad 67)), some (.int x1), some (.int x2), some (.int x3), none] [] M) : ∀ (M : rv_Mem) (x1 : Int32) (x2 : Int32) (x3 : Int32), rv_M (rR_G D cI cZ ad) (rR_A ad) p l e rm12_isApproved s m args below meth c 0 0 (rR_qZW D cI cZ ad below args s) (f12_isApproved_4_s k4 M x1 x2 x3) 4 [some (.ref (ad 67)), some (.int x1), some (.int x2), some (.int x3), none] [] M := by
  intro M x1 x2 x3
  unfold f12_isApproved_4_s
  refine rv_iload_n (q := 5) E.x dX12_isApproved_4 rfl rfl ?_
  refine rv_bipush (q := 7) E.x dX12_isApproved_5 rv_kb6 rfl ?_
  refine rv_icmp_ge (q := 10) (tgt := 51) E.x dX12_isApproved_7 (by decide) rfl ?_ ?_
  · refine rv_iload_n (q := 11) E.x dX12_isApproved_10 rfl rfl ?_
    refine rv_iload_n (q := 12) E.x dX12_isApproved_11 rfl rfl ?_
    refine rv_aload_n (q := 13) E.x dX12_isApproved_12 rfl rfl ?_
    refine rR_get (q := 16) E 12 wf12_12 rfl (Nat.le_of_ble_eq_true rfl) rfl dX12_isApproved_13 rfl ?_
    refine rv_iload_n (q := 17) E.x dX12_isApproved_16 rfl rfl ?_
    refine rR_iald (q := 18) (n := 20) E (Nat.le_of_ble_eq_true rfl) rfl rfl dX12_isApproved_17 rfl ?_
    refine rv_icmp_eq (q := 21) (tgt := 42) E.x dX12_isApproved_18 (by decide) rfl ?_ ?_
    · refine rv_aload_n (q := 22) E.x dX12_isApproved_21 rfl rfl ?_
      refine rv_iload_n (q := 23) E.x dX12_isApproved_22 rfl rfl ?_
      refine rv_aload_n (q := 24) E.x dX12_isApproved_23 rfl rfl ?_
      refine rv_iload_n (q := 25) E.x dX12_isApproved_24 rfl rfl ?_
      refine rv_b1 (fun r2 e1 => ?_)
      refine rR_calli (q := 28) E (c12_current E.2.2.1 e1) gX12_current hX12_current ⟨rfl, rfl⟩ ⟨Nat.le_of_ble_eq_true rfl, Nat.le_of_ble_eq_true rfl⟩ rfl rfl rfl (Nat.le_of_ble_eq_true rfl) dX12_isApproved_25 rfl ?_
      refine rv_iconst (q := 29) E.x dX12_isApproved_28 rv_ki0 rfl ?_
      refine rv_b2 (fun r4 M5 e3 => ?_)
      refine rR_calli (q := 32) E (c12_worthOf E.2.2.1 e3) gX12_worthOf hX12_worthOf ⟨rfl, rfl⟩ ⟨Nat.le_of_ble_eq_true rfl, Nat.le_of_ble_eq_true rfl⟩ rfl rfl rfl (Nat.le_of_ble_eq_true rfl) dX12_isApproved_29 rfl ?_
      refine rv_iconst (q := 33) E.x dX12_isApproved_32 rv_ki2 rfl ?_
      refine rv_icmp_ne (q := 36) (tgt := 42) E.x dX12_isApproved_33 (by decide) rfl ?_ ?_
      · refine rv_iconst (q := 37) E.x dX12_isApproved_36 rv_ki1 rfl ?_
        refine rv_iload_n (q := 38) E.x dX12_isApproved_37 rfl rfl ?_
        refine rv_ishl (q := 39) E.x dX12_isApproved_38 rfl ?_
        refine rv_goto (q := 43) E.x dX12_isApproved_39 (by decide) ?_
        refine rv_wk [true, true, false, true, false] ?_
        exact b12_isApproved_43 E k4 h4 M5 x1 x3 x2 (1 <<< (x3 &&& 31))
      · refine rv_wk [true, true, false, true, false] ?_
        exact b12_isApproved_42 E k4 h4 M5 x1 x3 x2
    · refine rv_wk [true, true, false, true, false] ?_
      exact b12_isApproved_42 E k4 h4 M x1 x3 x2
  · refine rv_iconst (q := 52) E.x dX12_isApproved_51 rv_ki1 rfl ?_
    refine rv_istore_n (q := 53) (lv' := [_, _, _, _, _]) E.x dX12_isApproved_52 (Nat.le_of_ble_eq_true rfl) rfl rfl rfl ?_
    refine rv_iconst (q := 54) E.x dX12_isApproved_53 rv_ki0 rfl ?_
    refine rv_istore (q := 56) (lv' := [_, _, _, _, _]) E.x dX12_isApproved_54 (Nat.le_of_ble_eq_true rfl) rfl rfl rfl ?_
    refine rv_wk [true, true, true, true, true] ?_
    exact b12_isApproved_56 E rv_FU M x1 x2 true 0
theorem b12_isApproved_4 {p : Program} {l : Launch} {e : Env} {s : State} {m : MethodId} {args : Array Value} {below : List Frame} {meth : Method} {c : Code} {D : va_G} {cI cZ : ClassId} {ad : Nat → Nat} (E : rR_E D cI cZ ad cX12_isApproved 5 (some .boolean) p s m args meth c)   : ∀ (n : Nat), ∀ (M : rv_Mem) (x1 : Int32) (x2 : Int32) (x3 : Int32), rv_M (rR_G D cI cZ ad) (rR_A ad) p l e rm12_isApproved s m args below meth c 0 0 (rR_qZW D cI cZ ad below args s) (f12_isApproved_4 n M x1 x2 x3) 4 [some (.ref (ad 67)), some (.int x1), some (.int x2), some (.int x3), none] [] M := by
  intro n
  induction n with
  | zero => exact fun _ _ _ _ => rv_stuck
  | succ n ih => exact b12_isApproved_4_s E  (f12_isApproved_4 n) ih
set_option maxRecDepth 100000 in
theorem b12_isApproved {p : Program} {l : Launch} {e : Env} {s : State} {m : MethodId} {args : Array Value} {below : List Frame} {meth : Method} {c : Code} {D : va_G} {cI cZ : ClassId} {ad : Nat → Nat} (E : rR_E D cI cZ ad cX12_isApproved 5 (some .boolean) p s m args meth c) (M : rv_Mem) (a1 : Int32) : rv_M (rR_G D cI cZ ad) (rR_A ad) p l e rm12_isApproved s m args below meth c 0 0  (rR_qZW D cI cZ ad below args s) (f12_isApproved M a1) 0 [some (.ref (ad 67)), some (.int a1), none, none, none] [] M := by
  unfold f12_isApproved
  refine rv_iconst (q := 1) E.x dX12_isApproved_0 rv_ki0 rfl ?_
  refine rv_istore_n (q := 2) (lv' := [_, _, _, _, _]) E.x dX12_isApproved_1 (Nat.le_of_ble_eq_true rfl) rfl rfl rfl ?_
  refine rv_iconst (q := 3) E.x dX12_isApproved_2 rv_ki0 rfl ?_
  refine rv_istore_n (q := 4) (lv' := [_, _, _, _, _]) E.x dX12_isApproved_3 (Nat.le_of_ble_eq_true rfl) rfl rfl rfl ?_
  refine rv_wk [true, true, true, true, false] ?_
  exact b12_isApproved_4 E rv_FU M a1 0 0
theorem c12_isApproved {l : Launch} {D : va_G} {cI cZ : ClassId} {ad : Nat → Nat} (hI : rR_I ad) {M : rv_Mem} {a1 : Int32} {r : Bool} {M1 : rv_Mem} (h : f12_isApproved M a1 = some (r, M1)) : Met l yX12_isApproved (rv_ws yX12_isApproved cX12_isApproved 5 (some .boolean)) rm12_isApproved (rR_Pc D cI cZ ad [.ref (ad 67), .int a1] M) (rR_QI D cI cZ ad (rv_i r) M1) 0 0 (rR_A ad) := rR_met hI rfl (rv_cat rfl) (Nat.le_of_ble_eq_true rfl) (fun p e s m args below meth c E => ⟨(rR_qZW D cI cZ ad below args s), rfl, b12_isApproved E M a1⟩) h
abbrev rm12_lastOf : Room := { frames := 0, cells := 0, slots := 0, locals := 0 }
set_option maxRecDepth 100000 in
theorem b12_lastOf_41 {p : Program} {l : Launch} {e : Env} {s : State} {m : MethodId} {args : Array Value} {below : List Frame} {meth : Method} {c : Code} {D : va_G} {cI cZ : ClassId} {ad : Nat → Nat} (E : rR_E D cI cZ ad cX12_lastOf 4 (some .int) p s m args meth c) (M : rv_Mem) (k4 : Int32 → Int32 → Int32 → Option (Int32)) (h4 : ∀ (x1 : Int32) (x2 : Int32) (x3 : Int32), rv_M (rR_G D cI cZ ad) (rR_A ad) p l e rm12_lastOf s m args below meth c 0 0 (rR_qI D cI cZ ad below args s M) (k4 x1 x2 x3) 4 [some (.ref (ad 67)), some (.int x1), some (.int x2), some (.int x3)] [] M) : ∀ (x1 : Int32) (x3 : Int32) (s0 : Int32), rv_M (rR_G D cI cZ ad) (rR_A ad) p l e rm12_lastOf s m args below meth c 0 0 (rR_qI D cI cZ ad below args s M) (f12_lastOf_41 M k4 x1 x3 s0) 41 [some (.ref (ad 67)), some (.int x1), none, some (.int x3)] [.int s0] M := by
  intro x1 x3 s0
  unfold f12_lastOf_41
  refine rv_istore_n (q := 42) (lv' := [_, _, _, _]) E.x dX12_lastOf_41 (Nat.le_of_ble_eq_true rfl) rfl rfl rfl ?_
  refine rv_iinc (q := 45) (lv' := [_, _, _, _]) E.x dX12_lastOf_42 rv_ki1 rfl rfl rfl rfl ?_
  refine rv_goto (q := 4) E.x dX12_lastOf_45 (by decide) ?_
  refine rv_wk [true, true, true, true] ?_
  exact h4 x1 s0 (x3 + 1)
set_option maxRecDepth 100000 in
theorem b12_lastOf_36 {p : Program} {l : Launch} {e : Env} {s : State} {m : MethodId} {args : Array Value} {below : List Frame} {meth : Method} {c : Code} {D : va_G} {cI cZ : ClassId} {ad : Nat → Nat} (E : rR_E D cI cZ ad cX12_lastOf 4 (some .int) p s m args meth c) (M : rv_Mem) (k4 : Int32 → Int32 → Int32 → Option (Int32)) (h4 : ∀ (x1 : Int32) (x2 : Int32) (x3 : Int32), rv_M (rR_G D cI cZ ad) (rR_A ad) p l e rm12_lastOf s m args below meth c 0 0 (rR_qI D cI cZ ad below args s M) (k4 x1 x2 x3) 4 [some (.ref (ad 67)), some (.int x1), some (.int x2), some (.int x3)] [] M) : ∀ (x1 : Int32) (x3 : Int32), rv_M (rR_G D cI cZ ad) (rR_A ad) p l e rm12_lastOf s m args below meth c 0 0 (rR_qI D cI cZ ad below args s M) (f12_lastOf_36 M k4 x1 x3) 36 [some (.ref (ad 67)), some (.int x1), none, some (.int x3)] [] M := by
  intro x1 x3
  unfold f12_lastOf_36
  refine rv_iload_n (q := 37) E.x dX12_lastOf_36 rfl rfl ?_
  refine rv_goto (q := 41) E.x dX12_lastOf_37 (by decide) ?_
  refine rv_wk [true, true, false, true] ?_
  exact b12_lastOf_41 E M k4 h4 x1 x3 x3
set_option maxRecDepth 100000 in
theorem b12_lastOf_40 {p : Program} {l : Launch} {e : Env} {s : State} {m : MethodId} {args : Array Value} {below : List Frame} {meth : Method} {c : Code} {D : va_G} {cI cZ : ClassId} {ad : Nat → Nat} (E : rR_E D cI cZ ad cX12_lastOf 4 (some .int) p s m args meth c) (M : rv_Mem) (k4 : Int32 → Int32 → Int32 → Option (Int32)) (h4 : ∀ (x1 : Int32) (x2 : Int32) (x3 : Int32), rv_M (rR_G D cI cZ ad) (rR_A ad) p l e rm12_lastOf s m args below meth c 0 0 (rR_qI D cI cZ ad below args s M) (k4 x1 x2 x3) 4 [some (.ref (ad 67)), some (.int x1), some (.int x2), some (.int x3)] [] M) : ∀ (x1 : Int32) (x2 : Int32) (x3 : Int32), rv_M (rR_G D cI cZ ad) (rR_A ad) p l e rm12_lastOf s m args below meth c 0 0 (rR_qI D cI cZ ad below args s M) (f12_lastOf_40 M k4 x1 x2 x3) 40 [some (.ref (ad 67)), some (.int x1), some (.int x2), some (.int x3)] [] M := by
  intro x1 x2 x3
  unfold f12_lastOf_40
  refine rv_iload_n (q := 41) E.x dX12_lastOf_40 rfl rfl ?_
  refine rv_wk [true, true, false, true] ?_
  exact b12_lastOf_41 E M k4 h4 x1 x3 x2
set_option maxRecDepth 100000 in
theorem b12_lastOf_4_s {p : Program} {l : Launch} {e : Env} {s : State} {m : MethodId} {args : Array Value} {below : List Frame} {meth : Method} {c : Code} {D : va_G} {cI cZ : ClassId} {ad : Nat → Nat} (E : rR_E D cI cZ ad cX12_lastOf 4 (some .int) p s m args meth c) (M : rv_Mem)   (k4 : Int32 → Int32 → Int32 → Option (Int32)) (h4 : ∀ (x1 : Int32) (x2 : Int32) (x3 : Int32), rv_M (rR_G D cI cZ ad) (rR_A ad) p l e rm12_lastOf s m args below meth c 0 0 (rR_qI D cI cZ ad below args s M) (k4 x1 x2 x3) 4 [some (.ref (ad 67)), some (.int x1), some (.int x2), some (.int x3)] [] M) : ∀ (x1 : Int32) (x2 : Int32) (x3 : Int32), rv_M (rR_G D cI cZ ad) (rR_A ad) p l e rm12_lastOf s m args below meth c 0 0 (rR_qI D cI cZ ad below args s M) (f12_lastOf_4_s M k4 x1 x2 x3) 4 [some (.ref (ad 67)), some (.int x1), some (.int x2), some (.int x3)] [] M := by
  intro x1 x2 x3
  unfold f12_lastOf_4_s
  refine rv_iload_n (q := 5) E.x dX12_lastOf_4 rfl rfl ?_
  refine rv_aload_n (q := 6) E.x dX12_lastOf_5 rfl rfl ?_
  refine rR_get (q := 9) E 24 wf12_24 rfl (Nat.le_of_ble_eq_true rfl) rfl dX12_lastOf_6 rfl ?_
  refine rv_icmp_ge (q := 12) (tgt := 48) E.x dX12_lastOf_9 (by decide) rfl ?_ ?_
  · refine rv_aload_n (q := 13) E.x dX12_lastOf_12 rfl rfl ?_
    refine rR_get (q := 16) E 32 wf12_32 rfl (Nat.le_of_ble_eq_true rfl) rfl dX12_lastOf_13 rfl ?_
    refine rv_iload_n (q := 17) E.x dX12_lastOf_16 rfl rfl ?_
    refine rR_zald (q := 18) (n := 60) E (Nat.le_of_ble_eq_true rfl) rfl rfl dX12_lastOf_17 rfl ?_
    refine rv_ifz_ne (q := 21) (tgt := 40) E.x dX12_lastOf_18 (by decide) rfl ?_ ?_
    · refine rv_iload_n (q := 22) E.x dX12_lastOf_21 rfl rfl ?_
      refine rv_iload_n (q := 23) E.x dX12_lastOf_22 rfl rfl ?_
      refine rv_icmp_eq (q := 26) (tgt := 36) E.x dX12_lastOf_23 (by decide) rfl ?_ ?_
      · refine rv_aload_n (q := 27) E.x dX12_lastOf_26 rfl rfl ?_
        refine rR_get (q := 30) E 31 wf12_31 rfl (Nat.le_of_ble_eq_true rfl) rfl dX12_lastOf_27 rfl ?_
        refine rv_iload_n (q := 31) E.x dX12_lastOf_30 rfl rfl ?_
        refine rR_iald (q := 32) (n := 60) E (Nat.le_of_ble_eq_true rfl) rfl rfl dX12_lastOf_31 rfl ?_
        refine rv_iload_n (q := 33) E.x dX12_lastOf_32 rfl rfl ?_
        refine rv_icmp_ne (q := 36) (tgt := 40) E.x dX12_lastOf_33 (by decide) rfl ?_ ?_
        · refine rv_wk [true, true, false, true] ?_
          exact b12_lastOf_36 E M k4 h4 x1 x3
        · refine rv_wk [true, true, true, true] ?_
          exact b12_lastOf_40 E M k4 h4 x1 x2 x3
      · refine rv_wk [true, true, false, true] ?_
        exact b12_lastOf_36 E M k4 h4 x1 x3
    · refine rv_wk [true, true, true, true] ?_
      exact b12_lastOf_40 E M k4 h4 x1 x2 x3
  · refine rv_iload_n (q := 49) E.x dX12_lastOf_48 rfl rfl ?_
    exact rR_iret E rfl dX12_lastOf_49
theorem b12_lastOf_4 {p : Program} {l : Launch} {e : Env} {s : State} {m : MethodId} {args : Array Value} {below : List Frame} {meth : Method} {c : Code} {D : va_G} {cI cZ : ClassId} {ad : Nat → Nat} (E : rR_E D cI cZ ad cX12_lastOf 4 (some .int) p s m args meth c) (M : rv_Mem)   : ∀ (n : Nat), ∀ (x1 : Int32) (x2 : Int32) (x3 : Int32), rv_M (rR_G D cI cZ ad) (rR_A ad) p l e rm12_lastOf s m args below meth c 0 0 (rR_qI D cI cZ ad below args s M) (f12_lastOf_4 M n x1 x2 x3) 4 [some (.ref (ad 67)), some (.int x1), some (.int x2), some (.int x3)] [] M := by
  intro n
  induction n with
  | zero => exact fun _ _ _ => rv_stuck
  | succ n ih => exact b12_lastOf_4_s E M (f12_lastOf_4 M n) ih
set_option maxRecDepth 100000 in
theorem b12_lastOf {p : Program} {l : Launch} {e : Env} {s : State} {m : MethodId} {args : Array Value} {below : List Frame} {meth : Method} {c : Code} {D : va_G} {cI cZ : ClassId} {ad : Nat → Nat} (E : rR_E D cI cZ ad cX12_lastOf 4 (some .int) p s m args meth c) (M : rv_Mem) (a1 : Int32) : rv_M (rR_G D cI cZ ad) (rR_A ad) p l e rm12_lastOf s m args below meth c 0 0  (rR_qI D cI cZ ad below args s M) (f12_lastOf M a1) 0 [some (.ref (ad 67)), some (.int a1), none, none] [] M := by
  unfold f12_lastOf
  refine rv_iconst (q := 1) E.x dX12_lastOf_0 rv_kim1 rfl ?_
  refine rv_istore_n (q := 2) (lv' := [_, _, _, _]) E.x dX12_lastOf_1 (Nat.le_of_ble_eq_true rfl) rfl rfl rfl ?_
  refine rv_iconst (q := 3) E.x dX12_lastOf_2 rv_ki0 rfl ?_
  refine rv_istore_n (q := 4) (lv' := [_, _, _, _]) E.x dX12_lastOf_3 (Nat.le_of_ble_eq_true rfl) rfl rfl rfl ?_
  refine rv_wk [true, true, true, true] ?_
  exact b12_lastOf_4 E M rv_FU a1 (-1) 0
theorem c12_lastOf {l : Launch} {D : va_G} {cI cZ : ClassId} {ad : Nat → Nat} (hI : rR_I ad) {M : rv_Mem} {a1 : Int32} {r : Int32} (h : f12_lastOf M a1 = some r) : Met l yX12_lastOf (rv_ws yX12_lastOf cX12_lastOf 4 (some .int)) rm12_lastOf (rR_Pc D cI cZ ad [.ref (ad 67), .int a1] M) (rR_QI D cI cZ ad r M) 0 0 (rR_A ad) := rR_met hI rfl (rv_cat rfl) (Nat.le_of_ble_eq_true rfl) (fun p e s m args below meth c E => ⟨(rR_qI D cI cZ ad below args s M), rfl, b12_lastOf E M a1⟩) h
abbrev rm12_unresolvedOf : Room := { frames := 1, cells := 0, slots := 0, locals := 23 }
set_option maxRecDepth 100000 in
theorem b12_unresolvedOf_65 {p : Program} {l : Launch} {e : Env} {s : State} {m : MethodId} {args : Array Value} {below : List Frame} {meth : Method} {c : Code} {D : va_G} {cI cZ : ClassId} {ad : Nat → Nat} (E : rR_E D cI cZ ad cX12_unresolvedOf 5 (some .int) p s m args meth c) (M : rv_Mem) (k4 : Int32 → Int32 → Int32 → Option (Int32)) (h4 : ∀ (x1 : Int32) (x2 : Int32) (x3 : Int32), rv_M (rR_G D cI cZ ad) (rR_A ad) p l e rm12_unresolvedOf s m args below meth c 0 0 (rR_qI D cI cZ ad below args s M) (k4 x1 x2 x3) 4 [some (.ref (ad 67)), some (.int x1), some (.int x2), some (.int x3), none] [] M) : ∀ (x1 : Int32) (x3 : Int32) (s0 : Int32) (s1 : Bool), rv_M (rR_G D cI cZ ad) (rR_A ad) p l e rm12_unresolvedOf s m args below meth c 0 0 (rR_qI D cI cZ ad below args s M) (f12_unresolvedOf_65 M k4 x1 x3 s0 s1) 65 [some (.ref (ad 67)), some (.int x1), none, some (.int x3), none] [.int (rv_i s1), .int s0] M := by
  intro x1 x3 s0 s1
  unfold f12_unresolvedOf_65
  refine rv_iadd (q := 66) E.x dX12_unresolvedOf_65 rfl ?_
  refine rv_istore_n (q := 67) (lv' := [_, _, _, _, _]) E.x dX12_unresolvedOf_66 (Nat.le_of_ble_eq_true rfl) rfl rfl rfl ?_
  refine rv_iinc (q := 70) (lv' := [_, _, _, _, _]) E.x dX12_unresolvedOf_67 rv_ki1 rfl rfl rfl rfl ?_
  refine rv_goto (q := 4) E.x dX12_unresolvedOf_70 (by decide) ?_
  refine rv_wk [true, true, true, true, false] ?_
  exact h4 x1 (s0 + (rv_i s1)) (x3 + 1)
set_option maxRecDepth 100000 in
theorem b12_unresolvedOf_64 {p : Program} {l : Launch} {e : Env} {s : State} {m : MethodId} {args : Array Value} {below : List Frame} {meth : Method} {c : Code} {D : va_G} {cI cZ : ClassId} {ad : Nat → Nat} (E : rR_E D cI cZ ad cX12_unresolvedOf 5 (some .int) p s m args meth c) (M : rv_Mem) (k4 : Int32 → Int32 → Int32 → Option (Int32)) (h4 : ∀ (x1 : Int32) (x2 : Int32) (x3 : Int32), rv_M (rR_G D cI cZ ad) (rR_A ad) p l e rm12_unresolvedOf s m args below meth c 0 0 (rR_qI D cI cZ ad below args s M) (k4 x1 x2 x3) 4 [some (.ref (ad 67)), some (.int x1), some (.int x2), some (.int x3), none] [] M) : ∀ (x1 : Int32) (x3 : Int32) (s0 : Int32), rv_M (rR_G D cI cZ ad) (rR_A ad) p l e rm12_unresolvedOf s m args below meth c 0 0 (rR_qI D cI cZ ad below args s M) (f12_unresolvedOf_64 M k4 x1 x3 s0) 64 [some (.ref (ad 67)), some (.int x1), none, some (.int x3), none] [.int s0] M := by
  intro x1 x3 s0
  unfold f12_unresolvedOf_64
  refine rv_iconst (q := 65) E.x dX12_unresolvedOf_64 rv_ki0 rfl ?_
  refine rv_wk [true, true, false, true, false] ?_
  exact b12_unresolvedOf_65 E M k4 h4 x1 x3 s0 false
set_option maxRecDepth 100000 in
theorem b12_unresolvedOf_41 {p : Program} {l : Launch} {e : Env} {s : State} {m : MethodId} {args : Array Value} {below : List Frame} {meth : Method} {c : Code} {D : va_G} {cI cZ : ClassId} {ad : Nat → Nat} (E : rR_E D cI cZ ad cX12_unresolvedOf 5 (some .int) p s m args meth c) (M : rv_Mem) (k4 : Int32 → Int32 → Int32 → Option (Int32)) (h4 : ∀ (x1 : Int32) (x2 : Int32) (x3 : Int32), rv_M (rR_G D cI cZ ad) (rR_A ad) p l e rm12_unresolvedOf s m args below meth c 0 0 (rR_qI D cI cZ ad below args s M) (k4 x1 x2 x3) 4 [some (.ref (ad 67)), some (.int x1), some (.int x2), some (.int x3), none] [] M) : ∀ (x1 : Int32) (x2 : Int32) (x3 : Int32) (s0 : Int32), rv_M (rR_G D cI cZ ad) (rR_A ad) p l e rm12_unresolvedOf s m args below meth c 0 0 (rR_qI D cI cZ ad below args s M) (f12_unresolvedOf_41 M k4 x1 x2 x3 s0) 41 [some (.ref (ad 67)), some (.int x1), some (.int x2), some (.int x3), none] [.int s0] M := by
  intro x1 x2 x3 s0
  unfold f12_unresolvedOf_41
  refine rv_istore (q := 43) (lv' := [_, _, _, _, _]) E.x dX12_unresolvedOf_41 (Nat.le_of_ble_eq_true rfl) rfl rfl rfl ?_
  refine rv_iload_n (q := 44) E.x dX12_unresolvedOf_43 rfl rfl ?_
  refine rv_iload (q := 46) E.x dX12_unresolvedOf_44 rfl rfl ?_
  refine rv_iconst (q := 47) E.x dX12_unresolvedOf_46 rv_kim1 rfl ?_
  refine rv_icmp_eq (q := 50) (tgt := 64) E.x dX12_unresolvedOf_47 (by decide) rfl ?_ ?_
  · refine rv_aload_n (q := 51) E.x dX12_unresolvedOf_50 rfl rfl ?_
    refine rR_get (q := 54) E 33 wf12_33 rfl (Nat.le_of_ble_eq_true rfl) rfl dX12_unresolvedOf_51 rfl ?_
    refine rv_iload (q := 56) E.x dX12_unresolvedOf_54 rfl rfl ?_
    refine rR_zald (q := 57) (n := 60) E (Nat.le_of_ble_eq_true rfl) rfl rfl dX12_unresolvedOf_56 rfl ?_
    refine rv_ifz_eq (q := 60) (tgt := 64) E.x dX12_unresolvedOf_57 (by decide) rfl ?_ ?_
    · refine rv_iconst (q := 61) E.x dX12_unresolvedOf_60 rv_ki1 rfl ?_
      refine rv_goto (q := 65) E.x dX12_unresolvedOf_61 (by decide) ?_
      refine rv_wk [true, true, false, true, false] ?_
      exact b12_unresolvedOf_65 E M k4 h4 x1 x3 x2 true
    · refine rv_wk [true, true, false, true, false] ?_
      exact b12_unresolvedOf_64 E M k4 h4 x1 x3 x2
  · refine rv_wk [true, true, false, true, false] ?_
    exact b12_unresolvedOf_64 E M k4 h4 x1 x3 x2
set_option maxRecDepth 100000 in
theorem b12_unresolvedOf_40 {p : Program} {l : Launch} {e : Env} {s : State} {m : MethodId} {args : Array Value} {below : List Frame} {meth : Method} {c : Code} {D : va_G} {cI cZ : ClassId} {ad : Nat → Nat} (E : rR_E D cI cZ ad cX12_unresolvedOf 5 (some .int) p s m args meth c) (M : rv_Mem) (k4 : Int32 → Int32 → Int32 → Option (Int32)) (h4 : ∀ (x1 : Int32) (x2 : Int32) (x3 : Int32), rv_M (rR_G D cI cZ ad) (rR_A ad) p l e rm12_unresolvedOf s m args below meth c 0 0 (rR_qI D cI cZ ad below args s M) (k4 x1 x2 x3) 4 [some (.ref (ad 67)), some (.int x1), some (.int x2), some (.int x3), none] [] M) : ∀ (x1 : Int32) (x2 : Int32) (x3 : Int32), rv_M (rR_G D cI cZ ad) (rR_A ad) p l e rm12_unresolvedOf s m args below meth c 0 0 (rR_qI D cI cZ ad below args s M) (f12_unresolvedOf_40 M k4 x1 x2 x3) 40 [some (.ref (ad 67)), some (.int x1), some (.int x2), some (.int x3), none] [] M := by
  intro x1 x2 x3
  unfold f12_unresolvedOf_40
  refine rv_iconst (q := 41) E.x dX12_unresolvedOf_40 rv_kim1 rfl ?_
  refine rv_wk [true, true, true, true, false] ?_
  exact b12_unresolvedOf_41 E M k4 h4 x1 x2 x3 (-1)
set_option maxRecDepth 100000 in
theorem b12_unresolvedOf_4_s {p : Program} {l : Launch} {e : Env} {s : State} {m : MethodId} {args : Array Value} {below : List Frame} {meth : Method} {c : Code} {D : va_G} {cI cZ : ClassId} {ad : Nat → Nat} (E : rR_E D cI cZ ad cX12_unresolvedOf 5 (some .int) p s m args meth c) (M : rv_Mem)   (k4 : Int32 → Int32 → Int32 → Option (Int32)) (h4 : ∀ (x1 : Int32) (x2 : Int32) (x3 : Int32), rv_M (rR_G D cI cZ ad) (rR_A ad) p l e rm12_unresolvedOf s m args below meth c 0 0 (rR_qI D cI cZ ad below args s M) (k4 x1 x2 x3) 4 [some (.ref (ad 67)), some (.int x1), some (.int x2), some (.int x3), none] [] M) : ∀ (x1 : Int32) (x2 : Int32) (x3 : Int32), rv_M (rR_G D cI cZ ad) (rR_A ad) p l e rm12_unresolvedOf s m args below meth c 0 0 (rR_qI D cI cZ ad below args s M) (f12_unresolvedOf_4_s M k4 x1 x2 x3) 4 [some (.ref (ad 67)), some (.int x1), some (.int x2), some (.int x3), none] [] M := by
  intro x1 x2 x3
  unfold f12_unresolvedOf_4_s
  refine rv_iload_n (q := 5) E.x dX12_unresolvedOf_4 rfl rfl ?_
  refine rv_aload_n (q := 6) E.x dX12_unresolvedOf_5 rfl rfl ?_
  refine rR_get (q := 9) E 24 wf12_24 rfl (Nat.le_of_ble_eq_true rfl) rfl dX12_unresolvedOf_6 rfl ?_
  refine rv_icmp_ge (q := 12) (tgt := 73) E.x dX12_unresolvedOf_9 (by decide) rfl ?_ ?_
  · refine rv_aload_n (q := 13) E.x dX12_unresolvedOf_12 rfl rfl ?_
    refine rR_get (q := 16) E 26 wf12_26 rfl (Nat.le_of_ble_eq_true rfl) rfl dX12_unresolvedOf_13 rfl ?_
    refine rv_iload_n (q := 17) E.x dX12_unresolvedOf_16 rfl rfl ?_
    refine rR_iald (q := 18) (n := 60) E (Nat.le_of_ble_eq_true rfl) rfl rfl dX12_unresolvedOf_17 rfl ?_
    refine rv_iload_n (q := 19) E.x dX12_unresolvedOf_18 rfl rfl ?_
    refine rv_icmp_ne (q := 22) (tgt := 40) E.x dX12_unresolvedOf_19 (by decide) rfl ?_ ?_
    · refine rv_aload_n (q := 23) E.x dX12_unresolvedOf_22 rfl rfl ?_
      refine rR_get (q := 26) E 31 wf12_31 rfl (Nat.le_of_ble_eq_true rfl) rfl dX12_unresolvedOf_23 rfl ?_
      refine rv_iload_n (q := 27) E.x dX12_unresolvedOf_26 rfl rfl ?_
      refine rR_iald (q := 28) (n := 60) E (Nat.le_of_ble_eq_true rfl) rfl rfl dX12_unresolvedOf_27 rfl ?_
      refine rv_iconst (q := 29) E.x dX12_unresolvedOf_28 rv_kim1 rfl ?_
      refine rv_icmp_ne (q := 32) (tgt := 40) E.x dX12_unresolvedOf_29 (by decide) rfl ?_ ?_
      · refine rv_aload_n (q := 33) E.x dX12_unresolvedOf_32 rfl rfl ?_
        refine rv_iload_n (q := 34) E.x dX12_unresolvedOf_33 rfl rfl ?_
        refine rv_b1 (fun r2 e1 => ?_)
        refine rR_calli (q := 37) E (c12_lastOf E.2.2.1 e1) gX12_lastOf hX12_lastOf ⟨rfl, rfl⟩ ⟨Nat.le_of_ble_eq_true rfl, Nat.le_of_ble_eq_true rfl⟩ rfl rfl rfl (Nat.le_of_ble_eq_true rfl) dX12_unresolvedOf_34 rfl ?_
        refine rv_goto (q := 41) E.x dX12_unresolvedOf_37 (by decide) ?_
        refine rv_wk [true, true, true, true, false] ?_
        exact b12_unresolvedOf_41 E M k4 h4 x1 x2 x3 r2
      · refine rv_wk [true, true, true, true, false] ?_
        exact b12_unresolvedOf_40 E M k4 h4 x1 x2 x3
    · refine rv_wk [true, true, true, true, false] ?_
      exact b12_unresolvedOf_40 E M k4 h4 x1 x2 x3
  · refine rv_iload_n (q := 74) E.x dX12_unresolvedOf_73 rfl rfl ?_
    exact rR_iret E rfl dX12_unresolvedOf_74
theorem b12_unresolvedOf_4 {p : Program} {l : Launch} {e : Env} {s : State} {m : MethodId} {args : Array Value} {below : List Frame} {meth : Method} {c : Code} {D : va_G} {cI cZ : ClassId} {ad : Nat → Nat} (E : rR_E D cI cZ ad cX12_unresolvedOf 5 (some .int) p s m args meth c) (M : rv_Mem)   : ∀ (n : Nat), ∀ (x1 : Int32) (x2 : Int32) (x3 : Int32), rv_M (rR_G D cI cZ ad) (rR_A ad) p l e rm12_unresolvedOf s m args below meth c 0 0 (rR_qI D cI cZ ad below args s M) (f12_unresolvedOf_4 M n x1 x2 x3) 4 [some (.ref (ad 67)), some (.int x1), some (.int x2), some (.int x3), none] [] M := by
  intro n
  induction n with
  | zero => exact fun _ _ _ => rv_stuck
  | succ n ih => exact b12_unresolvedOf_4_s E M (f12_unresolvedOf_4 M n) ih
set_option maxRecDepth 100000 in
theorem b12_unresolvedOf {p : Program} {l : Launch} {e : Env} {s : State} {m : MethodId} {args : Array Value} {below : List Frame} {meth : Method} {c : Code} {D : va_G} {cI cZ : ClassId} {ad : Nat → Nat} (E : rR_E D cI cZ ad cX12_unresolvedOf 5 (some .int) p s m args meth c) (M : rv_Mem) (a1 : Int32) : rv_M (rR_G D cI cZ ad) (rR_A ad) p l e rm12_unresolvedOf s m args below meth c 0 0  (rR_qI D cI cZ ad below args s M) (f12_unresolvedOf M a1) 0 [some (.ref (ad 67)), some (.int a1), none, none, none] [] M := by
  unfold f12_unresolvedOf
  refine rv_iconst (q := 1) E.x dX12_unresolvedOf_0 rv_ki0 rfl ?_
  refine rv_istore_n (q := 2) (lv' := [_, _, _, _, _]) E.x dX12_unresolvedOf_1 (Nat.le_of_ble_eq_true rfl) rfl rfl rfl ?_
  refine rv_iconst (q := 3) E.x dX12_unresolvedOf_2 rv_ki0 rfl ?_
  refine rv_istore_n (q := 4) (lv' := [_, _, _, _, _]) E.x dX12_unresolvedOf_3 (Nat.le_of_ble_eq_true rfl) rfl rfl rfl ?_
  refine rv_wk [true, true, true, true, false] ?_
  exact b12_unresolvedOf_4 E M rv_FU a1 0 0
theorem c12_unresolvedOf {l : Launch} {D : va_G} {cI cZ : ClassId} {ad : Nat → Nat} (hI : rR_I ad) {M : rv_Mem} {a1 : Int32} {r : Int32} (h : f12_unresolvedOf M a1 = some r) : Met l yX12_unresolvedOf (rv_ws yX12_unresolvedOf cX12_unresolvedOf 5 (some .int)) rm12_unresolvedOf (rR_Pc D cI cZ ad [.ref (ad 67), .int a1] M) (rR_QI D cI cZ ad r M) 0 0 (rR_A ad) := rR_met hI rfl (rv_cat rfl) (Nat.le_of_ble_eq_true rfl) (fun p e s m args below meth c E => ⟨(rR_qI D cI cZ ad below args s M), rfl, b12_unresolvedOf E M a1⟩) h
abbrev rm12_isParentIn : Room := { frames := 3, cells := 0, slots := 0, locals := 67 }
set_option maxRecDepth 100000 in
theorem b12_isParentIn_30 {p : Program} {l : Launch} {e : Env} {s : State} {m : MethodId} {args : Array Value} {below : List Frame} {meth : Method} {c : Code} {D : va_G} {cI cZ : ClassId} {ad : Nat → Nat} (E : rR_E D cI cZ ad cX12_isParentIn 4 (some .boolean) p s m args meth c) (M : rv_Mem)   : rv_M (rR_G D cI cZ ad) (rR_A ad) p l e rm12_isParentIn s m args below meth c 0 0 (rR_qZ D cI cZ ad below args s M) (f12_isParentIn_30 M) 30 [some (.ref (ad 67)), none, none, none] [] M := by
  unfold f12_isParentIn_30
  refine rv_iconst (q := 31) E.x dX12_isParentIn_30 rv_ki1 rfl ?_
  refine rv_goto (q := 35) E.x dX12_isParentIn_31 (by decide) ?_
  exact rR_zret E true rfl dX12_isParentIn_35
set_option maxRecDepth 100000 in
theorem b12_isParentIn {p : Program} {l : Launch} {e : Env} {s : State} {m : MethodId} {args : Array Value} {below : List Frame} {meth : Method} {c : Code} {D : va_G} {cI cZ : ClassId} {ad : Nat → Nat} (E : rR_E D cI cZ ad cX12_isParentIn 4 (some .boolean) p s m args meth c) (M : rv_Mem) (a1 : Int32) (a2 : Int32) : rv_M (rR_G D cI cZ ad) (rR_A ad) p l e rm12_isParentIn s m args below meth c 0 0  (rR_qZ D cI cZ ad below args s M) (f12_isParentIn M a1 a2) 0 [some (.ref (ad 67)), some (.int a1), some (.int a2), none] [] M := by
  unfold f12_isParentIn
  refine rv_aload_n (q := 1) E.x dX12_isParentIn_0 rfl rfl ?_
  refine rv_iload_n (q := 2) E.x dX12_isParentIn_1 rfl rfl ?_
  refine rv_b1 (fun r2 e1 => ?_)
  refine rR_calli (q := 5) E (c12_parent E.2.2.1 e1) gX12_parent hX12_parent ⟨rfl, rfl⟩ ⟨Nat.le_of_ble_eq_true rfl, Nat.le_of_ble_eq_true rfl⟩ rfl rfl rfl (Nat.le_of_ble_eq_true rfl) dX12_isParentIn_2 rfl ?_
  refine rv_istore_n (q := 6) (lv' := [_, _, _, _]) E.x dX12_isParentIn_5 (Nat.le_of_ble_eq_true rfl) rfl rfl rfl ?_
  refine rv_iload_n (q := 7) E.x dX12_isParentIn_6 rfl rfl ?_
  refine rv_iconst (q := 8) E.x dX12_isParentIn_7 rv_kim1 rfl ?_
  refine rv_icmp_eq (q := 11) (tgt := 30) E.x dX12_isParentIn_8 (by decide) rfl ?_ ?_
  · refine rv_aload_n (q := 12) E.x dX12_isParentIn_11 rfl rfl ?_
    refine rR_get (q := 15) E 13 wf12_13 rfl (Nat.le_of_ble_eq_true rfl) rfl dX12_isParentIn_12 rfl ?_
    refine rv_iload_n (q := 16) E.x dX12_isParentIn_15 rfl rfl ?_
    refine rR_iald (q := 17) (n := 20) E (Nat.le_of_ble_eq_true rfl) rfl rfl dX12_isParentIn_16 rfl ?_
    refine rv_iconst (q := 18) E.x dX12_isParentIn_17 rv_ki1 rfl ?_
    refine rv_icmp_eq (q := 21) (tgt := 30) E.x dX12_isParentIn_18 (by decide) rfl ?_ ?_
    · refine rv_iload_n (q := 22) E.x dX12_isParentIn_21 rfl rfl ?_
      refine rv_iload_n (q := 23) E.x dX12_isParentIn_22 rfl rfl ?_
      refine rv_ishr (q := 24) E.x dX12_isParentIn_23 rfl ?_
      refine rv_iconst (q := 25) E.x dX12_isParentIn_24 rv_ki1 rfl ?_
      refine rv_iand (q := 26) E.x dX12_isParentIn_25 rfl ?_
      refine rv_iconst (q := 27) E.x dX12_isParentIn_26 rv_ki1 rfl ?_
      refine rv_icmp_ne (q := 30) (tgt := 34) E.x dX12_isParentIn_27 (by decide) rfl ?_ ?_
      · refine rv_wk [true, false, false, false] ?_
        exact b12_isParentIn_30 E M
      · refine rv_iconst (q := 35) E.x dX12_isParentIn_34 rv_ki0 rfl ?_
        exact rR_zret E false rfl dX12_isParentIn_35
    · refine rv_wk [true, false, false, false] ?_
      exact b12_isParentIn_30 E M
  · refine rv_wk [true, false, false, false] ?_
    exact b12_isParentIn_30 E M
theorem c12_isParentIn {l : Launch} {D : va_G} {cI cZ : ClassId} {ad : Nat → Nat} (hI : rR_I ad) {M : rv_Mem} {a1 : Int32} {a2 : Int32} {r : Bool} (h : f12_isParentIn M a1 a2 = some r) : Met l yX12_isParentIn (rv_ws yX12_isParentIn cX12_isParentIn 4 (some .boolean)) rm12_isParentIn (rR_Pc D cI cZ ad [.ref (ad 67), .int a1, .int a2] M) (rR_QI D cI cZ ad (rv_i r) M) 0 0 (rR_A ad) := rR_met hI rfl (rv_cat rfl) (Nat.le_of_ble_eq_true rfl) (fun p e s m args below meth c E => ⟨(rR_qZ D cI cZ ad below args s M), rfl, b12_isParentIn E M a1 a2⟩) h
abbrev rm12_factsOf : Room := { frames := 8, cells := 0, slots := 0, locals := 216 }
set_option maxRecDepth 100000 in
theorem b12_factsOf_163 {p : Program} {l : Launch} {e : Env} {s : State} {m : MethodId} {args : Array Value} {below : List Frame} {meth : Method} {c : Code} {D : va_G} {cI cZ : ClassId} {ad : Nat → Nat} (E : rR_E D cI cZ ad cX12_factsOf 4 (some .int) p s m args meth c)   : ∀ (M : rv_Mem) (s0 : Int32) (s1 : Int32), rv_M (rR_G D cI cZ ad) (rR_A ad) p l e rm12_factsOf s m args below meth c 0 0 (rR_qIW D cI cZ ad below args s) (f12_factsOf_163 M s0 s1) 163 [some (.ref (ad 67)), none, none, none] [.int s1, .int s0] M := by
  intro M s0 s1
  unfold f12_factsOf_163
  refine rv_ior (q := 164) E.x dX12_factsOf_163 rfl ?_
  exact rR_iret E rfl dX12_factsOf_164
set_option maxRecDepth 100000 in
theorem b12_factsOf_133 {p : Program} {l : Launch} {e : Env} {s : State} {m : MethodId} {args : Array Value} {below : List Frame} {meth : Method} {c : Code} {D : va_G} {cI cZ : ClassId} {ad : Nat → Nat} (E : rR_E D cI cZ ad cX12_factsOf 4 (some .int) p s m args meth c)   : ∀ (M : rv_Mem) (x1 : Int32) (s0 : Int32) (s1 : Int32), rv_M (rR_G D cI cZ ad) (rR_A ad) p l e rm12_factsOf s m args below meth c 0 0 (rR_qIW D cI cZ ad below args s) (f12_factsOf_133 M x1 s0 s1) 133 [some (.ref (ad 67)), some (.int x1), none, none] [.int s1, .int s0] M := by
  intro M x1 s0 s1
  unfold f12_factsOf_133
  refine rv_ior (q := 134) E.x dX12_factsOf_133 rfl ?_
  refine rv_istore_n (q := 135) (lv' := [_, _, _, _]) E.x dX12_factsOf_134 (Nat.le_of_ble_eq_true rfl) rfl rfl rfl ?_
  refine rv_iload_n (q := 136) E.x dX12_factsOf_135 rfl rfl ?_
  refine rv_aload_n (q := 137) E.x dX12_factsOf_136 rfl rfl ?_
  refine rv_iload_n (q := 138) E.x dX12_factsOf_137 rfl rfl ?_
  refine rv_iconst (q := 139) E.x dX12_factsOf_138 rv_ki0 rfl ?_
  refine rv_iconst (q := 140) E.x dX12_factsOf_139 rv_ki2 rfl ?_
  refine rv_aload_n (q := 141) E.x dX12_factsOf_140 rfl rfl ?_
  refine rR_get (q := 144) E 7 wf12_7 rfl (Nat.le_of_ble_eq_true rfl) rfl dX12_factsOf_141 rfl ?_
  refine rv_aload_n (q := 145) E.x dX12_factsOf_144 rfl rfl ?_
  refine rv_iload_n (q := 146) E.x dX12_factsOf_145 rfl rfl ?_
  refine rv_b1 (fun r2 e1 => ?_)
  refine rR_calli (q := 149) E (c12_current E.2.2.1 e1) gX12_current hX12_current ⟨rfl, rfl⟩ ⟨Nat.le_of_ble_eq_true rfl, Nat.le_of_ble_eq_true rfl⟩ rfl rfl rfl (Nat.le_of_ble_eq_true rfl) dX12_factsOf_146 rfl ?_
  refine rR_iald (q := 150) (n := 82) E (Nat.le_of_ble_eq_true rfl) rfl rfl dX12_factsOf_149 rfl ?_
  refine rv_b2 (fun r4 M5 e3 => ?_)
  refine rR_calli (q := 153) E (c12_isVoted E.2.2.1 e3) gX12_isVoted hX12_isVoted ⟨rfl, rfl⟩ ⟨Nat.le_of_ble_eq_true rfl, Nat.le_of_ble_eq_true rfl⟩ rfl rfl rfl (Nat.le_of_ble_eq_true rfl) dX12_factsOf_150 rfl ?_
  refine rv_ifz_eq (q := 156) (tgt := 162) E.x dX12_factsOf_153 (by decide) rfl ?_ ?_
  · refine rv_sipush (q := 159) E.x dX12_factsOf_156 rv_ks128 rfl ?_
    refine rv_goto (q := 163) E.x dX12_factsOf_159 (by decide) ?_
    refine rv_wk [true, false, false, false] ?_
    exact b12_factsOf_163 E M5 (s0 ||| s1) 128
  · refine rv_iconst (q := 163) E.x dX12_factsOf_162 rv_ki0 rfl ?_
    refine rv_wk [true, false, false, false] ?_
    exact b12_factsOf_163 E M5 (s0 ||| s1) 0
set_option maxRecDepth 100000 in
theorem b12_factsOf_115 {p : Program} {l : Launch} {e : Env} {s : State} {m : MethodId} {args : Array Value} {below : List Frame} {meth : Method} {c : Code} {D : va_G} {cI cZ : ClassId} {ad : Nat → Nat} (E : rR_E D cI cZ ad cX12_factsOf 4 (some .int) p s m args meth c)   : ∀ (M : rv_Mem) (x1 : Int32) (x2 : Int32) (s0 : Int32) (s1 : Int32), rv_M (rR_G D cI cZ ad) (rR_A ad) p l e rm12_factsOf s m args below meth c 0 0 (rR_qIW D cI cZ ad below args s) (f12_factsOf_115 M x1 x2 s0 s1) 115 [some (.ref (ad 67)), some (.int x1), some (.int x2), none] [.int s1, .int s0] M := by
  intro M x1 x2 s0 s1
  unfold f12_factsOf_115
  refine rv_ior (q := 116) E.x dX12_factsOf_115 rfl ?_
  refine rv_istore_n (q := 117) (lv' := [_, _, _, _]) E.x dX12_factsOf_116 (Nat.le_of_ble_eq_true rfl) rfl rfl rfl ?_
  refine rv_iload_n (q := 118) E.x dX12_factsOf_117 rfl rfl ?_
  refine rv_aload_n (q := 119) E.x dX12_factsOf_118 rfl rfl ?_
  refine rv_iload_n (q := 120) E.x dX12_factsOf_119 rfl rfl ?_
  refine rv_iload_n (q := 121) E.x dX12_factsOf_120 rfl rfl ?_
  refine rv_b1 (fun r2 e1 => ?_)
  refine rR_calli (q := 124) E (c12_isParentIn E.2.2.1 e1) gX12_isParentIn hX12_isParentIn ⟨rfl, rfl⟩ ⟨Nat.le_of_ble_eq_true rfl, Nat.le_of_ble_eq_true rfl⟩ rfl rfl rfl (Nat.le_of_ble_eq_true rfl) dX12_factsOf_121 rfl ?_
  refine rv_ifz_eq (q := 127) (tgt := 132) E.x dX12_factsOf_124 (by decide) rfl ?_ ?_
  · refine rv_bipush (q := 129) E.x dX12_factsOf_127 rv_kb64 rfl ?_
    refine rv_goto (q := 133) E.x dX12_factsOf_129 (by decide) ?_
    refine rv_wk [true, true, false, false] ?_
    exact b12_factsOf_133 E M x1 (s0 ||| s1) 64
  · refine rv_iconst (q := 133) E.x dX12_factsOf_132 rv_ki0 rfl ?_
    refine rv_wk [true, true, false, false] ?_
    exact b12_factsOf_133 E M x1 (s0 ||| s1) 0
set_option maxRecDepth 100000 in
theorem b12_factsOf_97 {p : Program} {l : Launch} {e : Env} {s : State} {m : MethodId} {args : Array Value} {below : List Frame} {meth : Method} {c : Code} {D : va_G} {cI cZ : ClassId} {ad : Nat → Nat} (E : rR_E D cI cZ ad cX12_factsOf 4 (some .int) p s m args meth c)   : ∀ (M : rv_Mem) (x1 : Int32) (x2 : Int32) (s0 : Int32) (s1 : Int32), rv_M (rR_G D cI cZ ad) (rR_A ad) p l e rm12_factsOf s m args below meth c 0 0 (rR_qIW D cI cZ ad below args s) (f12_factsOf_97 M x1 x2 s0 s1) 97 [some (.ref (ad 67)), some (.int x1), some (.int x2), none] [.int s1, .int s0] M := by
  intro M x1 x2 s0 s1
  unfold f12_factsOf_97
  refine rv_ior (q := 98) E.x dX12_factsOf_97 rfl ?_
  refine rv_istore_n (q := 99) (lv' := [_, _, _, _]) E.x dX12_factsOf_98 (Nat.le_of_ble_eq_true rfl) rfl rfl rfl ?_
  refine rv_iload_n (q := 100) E.x dX12_factsOf_99 rfl rfl ?_
  refine rv_aload_n (q := 101) E.x dX12_factsOf_100 rfl rfl ?_
  refine rR_get (q := 104) E 16 wf12_16 rfl (Nat.le_of_ble_eq_true rfl) rfl dX12_factsOf_101 rfl ?_
  refine rv_iload_n (q := 105) E.x dX12_factsOf_104 rfl rfl ?_
  refine rR_zald (q := 106) (n := 20) E (Nat.le_of_ble_eq_true rfl) rfl rfl dX12_factsOf_105 rfl ?_
  refine rv_ifz_eq (q := 109) (tgt := 114) E.x dX12_factsOf_106 (by decide) rfl ?_ ?_
  · refine rv_bipush (q := 111) E.x dX12_factsOf_109 rv_kb32 rfl ?_
    refine rv_goto (q := 115) E.x dX12_factsOf_111 (by decide) ?_
    refine rv_wk [true, true, true, false] ?_
    exact b12_factsOf_115 E M x1 x2 (s0 ||| s1) 32
  · refine rv_iconst (q := 115) E.x dX12_factsOf_114 rv_ki0 rfl ?_
    refine rv_wk [true, true, true, false] ?_
    exact b12_factsOf_115 E M x1 x2 (s0 ||| s1) 0
set_option maxRecDepth 100000 in
theorem b12_factsOf_79 {p : Program} {l : Launch} {e : Env} {s : State} {m : MethodId} {args : Array Value} {below : List Frame} {meth : Method} {c : Code} {D : va_G} {cI cZ : ClassId} {ad : Nat → Nat} (E : rR_E D cI cZ ad cX12_factsOf 4 (some .int) p s m args meth c)   : ∀ (M : rv_Mem) (x1 : Int32) (x2 : Int32) (s0 : Int32) (s1 : Int32), rv_M (rR_G D cI cZ ad) (rR_A ad) p l e rm12_factsOf s m args below meth c 0 0 (rR_qIW D cI cZ ad below args s) (f12_factsOf_79 M x1 x2 s0 s1) 79 [some (.ref (ad 67)), some (.int x1), some (.int x2), none] [.int s1, .int s0] M := by
  intro M x1 x2 s0 s1
  unfold f12_factsOf_79
  refine rv_ior (q := 80) E.x dX12_factsOf_79 rfl ?_
  refine rv_istore_n (q := 81) (lv' := [_, _, _, _]) E.x dX12_factsOf_80 (Nat.le_of_ble_eq_true rfl) rfl rfl rfl ?_
  refine rv_iload_n (q := 82) E.x dX12_factsOf_81 rfl rfl ?_
  refine rv_aload_n (q := 83) E.x dX12_factsOf_82 rfl rfl ?_
  refine rR_get (q := 86) E 15 wf12_15 rfl (Nat.le_of_ble_eq_true rfl) rfl dX12_factsOf_83 rfl ?_
  refine rv_iload_n (q := 87) E.x dX12_factsOf_86 rfl rfl ?_
  refine rR_zald (q := 88) (n := 20) E (Nat.le_of_ble_eq_true rfl) rfl rfl dX12_factsOf_87 rfl ?_
  refine rv_ifz_eq (q := 91) (tgt := 96) E.x dX12_factsOf_88 (by decide) rfl ?_ ?_
  · refine rv_bipush (q := 93) E.x dX12_factsOf_91 rv_kb16 rfl ?_
    refine rv_goto (q := 97) E.x dX12_factsOf_93 (by decide) ?_
    refine rv_wk [true, true, true, false] ?_
    exact b12_factsOf_97 E M x1 x2 (s0 ||| s1) 16
  · refine rv_iconst (q := 97) E.x dX12_factsOf_96 rv_ki0 rfl ?_
    refine rv_wk [true, true, true, false] ?_
    exact b12_factsOf_97 E M x1 x2 (s0 ||| s1) 0
set_option maxRecDepth 100000 in
theorem b12_factsOf_62 {p : Program} {l : Launch} {e : Env} {s : State} {m : MethodId} {args : Array Value} {below : List Frame} {meth : Method} {c : Code} {D : va_G} {cI cZ : ClassId} {ad : Nat → Nat} (E : rR_E D cI cZ ad cX12_factsOf 4 (some .int) p s m args meth c)   : ∀ (M : rv_Mem) (x1 : Int32) (x2 : Int32) (s0 : Int32) (s1 : Int32), rv_M (rR_G D cI cZ ad) (rR_A ad) p l e rm12_factsOf s m args below meth c 0 0 (rR_qIW D cI cZ ad below args s) (f12_factsOf_62 M x1 x2 s0 s1) 62 [some (.ref (ad 67)), some (.int x1), some (.int x2), none] [.int s1, .int s0] M := by
  intro M x1 x2 s0 s1
  unfold f12_factsOf_62
  refine rv_ior (q := 63) E.x dX12_factsOf_62 rfl ?_
  refine rv_istore_n (q := 64) (lv' := [_, _, _, _]) E.x dX12_factsOf_63 (Nat.le_of_ble_eq_true rfl) rfl rfl rfl ?_
  refine rv_iload_n (q := 65) E.x dX12_factsOf_64 rfl rfl ?_
  refine rv_aload_n (q := 66) E.x dX12_factsOf_65 rfl rfl ?_
  refine rv_iload_n (q := 67) E.x dX12_factsOf_66 rfl rfl ?_
  refine rv_b1 (fun r2 e1 => ?_)
  refine rR_calli (q := 70) E (c12_unresolvedOf E.2.2.1 e1) gX12_unresolvedOf hX12_unresolvedOf ⟨rfl, rfl⟩ ⟨Nat.le_of_ble_eq_true rfl, Nat.le_of_ble_eq_true rfl⟩ rfl rfl rfl (Nat.le_of_ble_eq_true rfl) dX12_factsOf_67 rfl ?_
  refine rv_if_ne (q := 73) (tgt := 78) E.x dX12_factsOf_70 (by decide) rfl ?_ ?_
  · refine rv_bipush (q := 75) E.x dX12_factsOf_73 rv_kb8 rfl ?_
    refine rv_goto (q := 79) E.x dX12_factsOf_75 (by decide) ?_
    refine rv_wk [true, true, true, false] ?_
    exact b12_factsOf_79 E M x1 x2 (s0 ||| s1) 8
  · refine rv_iconst (q := 79) E.x dX12_factsOf_78 rv_ki0 rfl ?_
    refine rv_wk [true, true, true, false] ?_
    exact b12_factsOf_79 E M x1 x2 (s0 ||| s1) 0
set_option maxRecDepth 100000 in
theorem b12_factsOf_61 {p : Program} {l : Launch} {e : Env} {s : State} {m : MethodId} {args : Array Value} {below : List Frame} {meth : Method} {c : Code} {D : va_G} {cI cZ : ClassId} {ad : Nat → Nat} (E : rR_E D cI cZ ad cX12_factsOf 4 (some .int) p s m args meth c)   : ∀ (M : rv_Mem) (x1 : Int32) (x2 : Int32) (s0 : Int32), rv_M (rR_G D cI cZ ad) (rR_A ad) p l e rm12_factsOf s m args below meth c 0 0 (rR_qIW D cI cZ ad below args s) (f12_factsOf_61 M x1 x2 s0) 61 [some (.ref (ad 67)), some (.int x1), some (.int x2), none] [.int s0] M := by
  intro M x1 x2 s0
  unfold f12_factsOf_61
  refine rv_iconst (q := 62) E.x dX12_factsOf_61 rv_ki0 rfl ?_
  refine rv_wk [true, true, true, false] ?_
  exact b12_factsOf_62 E M x1 x2 s0 0
set_option maxRecDepth 100000 in
theorem b12_factsOf_32 {p : Program} {l : Launch} {e : Env} {s : State} {m : MethodId} {args : Array Value} {below : List Frame} {meth : Method} {c : Code} {D : va_G} {cI cZ : ClassId} {ad : Nat → Nat} (E : rR_E D cI cZ ad cX12_factsOf 4 (some .int) p s m args meth c)   : ∀ (M : rv_Mem) (x1 : Int32) (x2 : Int32) (s0 : Bool) (s1 : Int32), rv_M (rR_G D cI cZ ad) (rR_A ad) p l e rm12_factsOf s m args below meth c 0 0 (rR_qIW D cI cZ ad below args s) (f12_factsOf_32 M x1 x2 s0 s1) 32 [some (.ref (ad 67)), some (.int x1), some (.int x2), none] [.int s1, .int (rv_i s0)] M := by
  intro M x1 x2 s0 s1
  unfold f12_factsOf_32
  refine rv_ior (q := 33) E.x dX12_factsOf_32 rfl ?_
  refine rv_istore_n (q := 34) (lv' := [_, _, _, _]) E.x dX12_factsOf_33 (Nat.le_of_ble_eq_true rfl) rfl rfl rfl ?_
  refine rv_iload_n (q := 35) E.x dX12_factsOf_34 rfl rfl ?_
  refine rv_aload_n (q := 36) E.x dX12_factsOf_35 rfl rfl ?_
  refine rv_iload_n (q := 37) E.x dX12_factsOf_36 rfl rfl ?_
  refine rv_iconst (q := 38) E.x dX12_factsOf_37 rv_ki1 rfl ?_
  refine rv_iconst (q := 39) E.x dX12_factsOf_38 rv_ki1 rfl ?_
  refine rv_iconst (q := 40) E.x dX12_factsOf_39 rv_kim1 rfl ?_
  refine rv_b2 (fun r2 M3 e1 => ?_)
  refine rR_calli (q := 43) E (c12_isVoted E.2.2.1 e1) gX12_isVoted hX12_isVoted ⟨rfl, rfl⟩ ⟨Nat.le_of_ble_eq_true rfl, Nat.le_of_ble_eq_true rfl⟩ rfl rfl rfl (Nat.le_of_ble_eq_true rfl) dX12_factsOf_40 rfl ?_
  refine rv_ifz_eq (q := 46) (tgt := 61) E.x dX12_factsOf_43 (by decide) rfl ?_ ?_
  · refine rv_aload_n (q := 47) E.x dX12_factsOf_46 rfl rfl ?_
    refine rv_iload_n (q := 48) E.x dX12_factsOf_47 rfl rfl ?_
    refine rv_iconst (q := 49) E.x dX12_factsOf_48 rv_ki1 rfl ?_
    refine rv_iconst (q := 50) E.x dX12_factsOf_49 rv_kim1 rfl ?_
    refine rv_iconst (q := 51) E.x dX12_factsOf_50 rv_kim1 rfl ?_
    refine rv_b2 (fun r5 M6 e4 => ?_)
    refine rR_calli (q := 54) E (c12_isVoted E.2.2.1 e4) gX12_isVoted hX12_isVoted ⟨rfl, rfl⟩ ⟨Nat.le_of_ble_eq_true rfl, Nat.le_of_ble_eq_true rfl⟩ rfl rfl rfl (Nat.le_of_ble_eq_true rfl) dX12_factsOf_51 rfl ?_
    refine rv_ifz_ne (q := 57) (tgt := 61) E.x dX12_factsOf_54 (by decide) rfl ?_ ?_
    · refine rv_iconst (q := 58) E.x dX12_factsOf_57 rv_ki4 rfl ?_
      refine rv_goto (q := 62) E.x dX12_factsOf_58 (by decide) ?_
      refine rv_wk [true, true, true, false] ?_
      exact b12_factsOf_62 E M6 x1 x2 ((rv_i s0) ||| s1) 4
    · refine rv_wk [true, true, true, false] ?_
      exact b12_factsOf_61 E M6 x1 x2 ((rv_i s0) ||| s1)
  · refine rv_wk [true, true, true, false] ?_
    exact b12_factsOf_61 E M3 x1 x2 ((rv_i s0) ||| s1)
set_option maxRecDepth 100000 in
theorem b12_factsOf_13 {p : Program} {l : Launch} {e : Env} {s : State} {m : MethodId} {args : Array Value} {below : List Frame} {meth : Method} {c : Code} {D : va_G} {cI cZ : ClassId} {ad : Nat → Nat} (E : rR_E D cI cZ ad cX12_factsOf 4 (some .int) p s m args meth c)   : ∀ (M : rv_Mem) (x1 : Int32) (x2 : Int32) (s0 : Bool), rv_M (rR_G D cI cZ ad) (rR_A ad) p l e rm12_factsOf s m args below meth c 0 0 (rR_qIW D cI cZ ad below args s) (f12_factsOf_13 M x1 x2 s0) 13 [some (.ref (ad 67)), some (.int x1), some (.int x2), none] [.int (rv_i s0)] M := by
  intro M x1 x2 s0
  unfold f12_factsOf_13
  refine rv_istore_n (q := 14) (lv' := [_, _, _, _]) E.x dX12_factsOf_13 (Nat.le_of_ble_eq_true rfl) rfl rfl rfl ?_
  refine rv_iload_n (q := 15) E.x dX12_factsOf_14 rfl rfl ?_
  refine rv_aload_n (q := 16) E.x dX12_factsOf_15 rfl rfl ?_
  refine rv_iload_n (q := 17) E.x dX12_factsOf_16 rfl rfl ?_
  refine rv_iconst (q := 18) E.x dX12_factsOf_17 rv_ki0 rfl ?_
  refine rv_bipush (q := 20) E.x dX12_factsOf_18 rv_kbm2 rfl ?_
  refine rv_iconst (q := 21) E.x dX12_factsOf_20 rv_kim1 rfl ?_
  refine rv_b2 (fun r2 M3 e1 => ?_)
  refine rR_calli (q := 24) E (c12_isVoted E.2.2.1 e1) gX12_isVoted hX12_isVoted ⟨rfl, rfl⟩ ⟨Nat.le_of_ble_eq_true rfl, Nat.le_of_ble_eq_true rfl⟩ rfl rfl rfl (Nat.le_of_ble_eq_true rfl) dX12_factsOf_21 rfl ?_
  refine rv_ifz_eq (q := 27) (tgt := 31) E.x dX12_factsOf_24 (by decide) rfl ?_ ?_
  · refine rv_iconst (q := 28) E.x dX12_factsOf_27 rv_ki0 rfl ?_
    refine rv_goto (q := 32) E.x dX12_factsOf_28 (by decide) ?_
    refine rv_wk [true, true, true, false] ?_
    exact b12_factsOf_32 E M3 x1 x2 s0 0
  · refine rv_iconst (q := 32) E.x dX12_factsOf_31 rv_ki2 rfl ?_
    refine rv_wk [true, true, true, false] ?_
    exact b12_factsOf_32 E M3 x1 x2 s0 2
set_option maxRecDepth 100000 in
theorem b12_factsOf {p : Program} {l : Launch} {e : Env} {s : State} {m : MethodId} {args : Array Value} {below : List Frame} {meth : Method} {c : Code} {D : va_G} {cI cZ : ClassId} {ad : Nat → Nat} (E : rR_E D cI cZ ad cX12_factsOf 4 (some .int) p s m args meth c) (M : rv_Mem) (a1 : Int32) (a2 : Int32) : rv_M (rR_G D cI cZ ad) (rR_A ad) p l e rm12_factsOf s m args below meth c 0 0  (rR_qIW D cI cZ ad below args s) (f12_factsOf M a1 a2) 0 [some (.ref (ad 67)), some (.int a1), some (.int a2), none] [] M := by
  unfold f12_factsOf
  refine rv_aload_n (q := 1) E.x dX12_factsOf_0 rfl rfl ?_
  refine rv_iload_n (q := 2) E.x dX12_factsOf_1 rfl rfl ?_
  refine rv_b2 (fun r2 M3 e1 => ?_)
  refine rR_calli (q := 5) E (c12_isApproved E.2.2.1 e1) gX12_isApproved hX12_isApproved ⟨rfl, rfl⟩ ⟨Nat.le_of_ble_eq_true rfl, Nat.le_of_ble_eq_true rfl⟩ rfl rfl rfl (Nat.le_of_ble_eq_true rfl) dX12_factsOf_2 rfl ?_
  refine rv_ifz_eq (q := 8) (tgt := 12) E.x dX12_factsOf_5 (by decide) rfl ?_ ?_
  · refine rv_iconst (q := 9) E.x dX12_factsOf_8 rv_ki1 rfl ?_
    refine rv_goto (q := 13) E.x dX12_factsOf_9 (by decide) ?_
    refine rv_wk [true, true, true, false] ?_
    exact b12_factsOf_13 E M3 a1 a2 true
  · refine rv_iconst (q := 13) E.x dX12_factsOf_12 rv_ki0 rfl ?_
    refine rv_wk [true, true, true, false] ?_
    exact b12_factsOf_13 E M3 a1 a2 false
theorem c12_factsOf {l : Launch} {D : va_G} {cI cZ : ClassId} {ad : Nat → Nat} (hI : rR_I ad) {M : rv_Mem} {a1 : Int32} {a2 : Int32} {r : Int32} {M1 : rv_Mem} (h : f12_factsOf M a1 a2 = some (r, M1)) : Met l yX12_factsOf (rv_ws yX12_factsOf cX12_factsOf 4 (some .int)) rm12_factsOf (rR_Pc D cI cZ ad [.ref (ad 67), .int a1, .int a2] M) (rR_QI D cI cZ ad r M1) 0 0 (rR_A ad) := rR_met hI rfl (rv_cat rfl) (Nat.le_of_ble_eq_true rfl) (fun p e s m args below meth c E => ⟨(rR_qIW D cI cZ ad below args s), rfl, b12_factsOf E M a1 a2⟩) h
