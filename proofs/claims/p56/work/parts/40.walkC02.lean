abbrev rm2_makeMergedFile : Room := { frames := 2, cells := 0, slots := 0, locals := 46 }
set_option maxRecDepth 100000 in
theorem b2_makeMergedFile_163 {p : Program} {l : Launch} {e : Env} {s : State} {m : MethodId} {args : Array Value} {below : List Frame} {meth : Method} {c : Code} {D : va_G} {cI cZ cO : ClassId} {ad : Nat → Nat} {gh : rC_gh} {de : Nat} (E : rC_E D cI cZ cO ad gh (rC_K ad gh) RX2 cX2_makeMergedFile 7 (some .boolean) p s m args meth c) (k12 : rv_Mem → Int32 → Int32 → Int32 → Option (Bool × rv_Mem)) (h12 : ∀ (M : rv_Mem) (x1 : Int32) (x2 : Int32) (x3 : Int32), rv_M (rC_G D cI cZ cO ad gh de) (rC_K ad gh) p l e rm2_makeMergedFile s m args below meth c 0 0 (rC_qZW D cI cZ cO ad gh de below args s) (k12 M x1 x2 x3) 12 [some (.ref (ad 2)), some (.int x1), some (.int x2), some (.int x3), none, none, none] [] M) : ∀ (M : rv_Mem) (x1 : Int32) (x2 : Int32) (x3 : Int32), rv_M (rC_G D cI cZ cO ad gh de) (rC_K ad gh) p l e rm2_makeMergedFile s m args below meth c 0 0 (rC_qZW D cI cZ cO ad gh de below args s) (f2_makeMergedFile_163 gh k12 M x1 x2 x3) 163 [some (.ref (ad 2)), some (.int x1), some (.int x2), some (.int x3), none, none, none] [] M := by
  intro M x1 x2 x3
  unfold f2_makeMergedFile_163
  refine rv_iinc (q := 166) (lv' := [_, _, _, _, _, _, _]) E.x dX2_makeMergedFile_163 rv_ki1 rfl rfl rfl rfl ?_
  refine rv_goto (q := 12) E.x dX2_makeMergedFile_166 (by decide) ?_
  refine rv_wk [true, true, true, true, false, false, false] ?_
  exact h12 M x1 x2 (x3 + 1)
set_option maxRecDepth 100000 in
theorem b2_makeMergedFile_125 {p : Program} {l : Launch} {e : Env} {s : State} {m : MethodId} {args : Array Value} {below : List Frame} {meth : Method} {c : Code} {D : va_G} {cI cZ cO : ClassId} {ad : Nat → Nat} {gh : rC_gh} {de : Nat} (E : rC_E D cI cZ cO ad gh (rC_K ad gh) RX2 cX2_makeMergedFile 7 (some .boolean) p s m args meth c) (k12 : rv_Mem → Int32 → Int32 → Int32 → Option (Bool × rv_Mem)) (h12 : ∀ (M : rv_Mem) (x1 : Int32) (x2 : Int32) (x3 : Int32), rv_M (rC_G D cI cZ cO ad gh de) (rC_K ad gh) p l e rm2_makeMergedFile s m args below meth c 0 0 (rC_qZW D cI cZ cO ad gh de below args s) (k12 M x1 x2 x3) 12 [some (.ref (ad 2)), some (.int x1), some (.int x2), some (.int x3), none, none, none] [] M) : ∀ (M : rv_Mem) (x1 : Int32) (x2 : Int32) (x3 : Int32), rv_M (rC_G D cI cZ cO ad gh de) (rC_K ad gh) p l e rm2_makeMergedFile s m args below meth c 0 0 (rC_qZW D cI cZ cO ad gh de below args s) (f2_makeMergedFile_125 gh k12 M x1 x2 x3) 125 [some (.ref (ad 2)), some (.int x1), some (.int x2), some (.int x3), none, none, none] [] M := by
  intro M x1 x2 x3
  unfold f2_makeMergedFile_125
  refine rv_iload_n (q := 126) E.x dX2_makeMergedFile_125 rfl rfl ?_
  refine rv_aload_n (q := 127) E.x dX2_makeMergedFile_126 rfl rfl ?_
  refine rC_getX2 (q := 130) E 2 1 wfX2_12 rfl (Nat.le_of_ble_eq_true rfl) ⟨rfl, rfl⟩ rfl dX2_makeMergedFile_127 rfl ?_
  refine rC_getX3 (q := 133) E 7 8 wfX2_47 rfl (Nat.le_of_ble_eq_true rfl) ⟨rfl, rfl⟩ rfl dX2_makeMergedFile_130 rfl ?_
  refine rv_icmp_ge (q := 136) (tgt := 163) E.x dX2_makeMergedFile_133 (by decide) rfl ?_ ?_
  · refine rv_iload_n (q := 137) E.x dX2_makeMergedFile_136 rfl rfl ?_
    refine rv_iload_n (q := 138) E.x dX2_makeMergedFile_137 rfl rfl ?_
    refine rv_icmp_lt (q := 141) (tgt := 163) E.x dX2_makeMergedFile_138 (by decide) rfl ?_ ?_
    · refine rv_aload_n (q := 142) E.x dX2_makeMergedFile_141 rfl rfl ?_
      refine rC_getX2 (q := 145) E 2 0 wfX2_25 rfl (Nat.le_of_ble_eq_true rfl) ⟨rfl, rfl⟩ rfl dX2_makeMergedFile_142 rfl ?_
      refine rv_iload_n (q := 146) E.x dX2_makeMergedFile_145 rfl rfl ?_
      refine rv_aload_n (q := 147) E.x dX2_makeMergedFile_146 rfl rfl ?_
      refine rC_getX2 (q := 150) E 2 1 wfX2_12 rfl (Nat.le_of_ble_eq_true rfl) ⟨rfl, rfl⟩ rfl dX2_makeMergedFile_147 rfl ?_
      refine rC_getX3 (q := 153) E 7 0 wfX2_71 rfl (Nat.le_of_ble_eq_true rfl) ⟨rfl, rfl⟩ rfl dX2_makeMergedFile_150 rfl ?_
      refine rv_iload_n (q := 154) E.x dX2_makeMergedFile_153 rfl rfl ?_
      refine rC_iald (q := 155) (n := 10) E ⟨rfl, rfl, rfl⟩ dX2_makeMergedFile_154 rfl ?_
      refine rv_b2 (fun r2 M3 e1 => ?_)
      refine rC_calliX9 (q := 158) E ⟨rfl, rfl⟩ (c9_addLine E.2.2.1 e1) gX2_67 hX9_addLine ⟨rfl, rfl⟩ ⟨Nat.le_of_ble_eq_true rfl, Nat.le_of_ble_eq_true rfl⟩ ⟨Nat.le_of_ble_eq_true rfl, Nat.le_of_ble_eq_true rfl⟩ rfl rfl rfl (Nat.le_of_ble_eq_true rfl) dX2_makeMergedFile_155 rfl ?_
      refine rv_ifz_ne (q := 161) (tgt := 163) E.x dX2_makeMergedFile_158 (by decide) rfl ?_ ?_
      · refine rv_iconst (q := 162) E.x dX2_makeMergedFile_161 rv_ki0 rfl ?_
        exact rC_zret E false rfl dX2_makeMergedFile_162
      · refine rv_wk [true, true, true, true, false, false, false] ?_
        exact b2_makeMergedFile_163 E k12 h12 M3 x1 x2 x3
    · refine rv_wk [true, true, true, true, false, false, false] ?_
      exact b2_makeMergedFile_163 E k12 h12 M x1 x2 x3
  · refine rv_wk [true, true, true, true, false, false, false] ?_
    exact b2_makeMergedFile_163 E k12 h12 M x1 x2 x3
set_option maxRecDepth 100000 in
theorem b2_makeMergedFile_76_s {p : Program} {l : Launch} {e : Env} {s : State} {m : MethodId} {args : Array Value} {below : List Frame} {meth : Method} {c : Code} {D : va_G} {cI cZ cO : ClassId} {ad : Nat → Nat} {gh : rC_gh} {de : Nat} (E : rC_E D cI cZ cO ad gh (rC_K ad gh) RX2 cX2_makeMergedFile 7 (some .boolean) p s m args meth c) (k12 : rv_Mem → Int32 → Int32 → Int32 → Option (Bool × rv_Mem)) (h12 : ∀ (M : rv_Mem) (x1 : Int32) (x2 : Int32) (x3 : Int32), rv_M (rC_G D cI cZ cO ad gh de) (rC_K ad gh) p l e rm2_makeMergedFile s m args below meth c 0 0 (rC_qZW D cI cZ cO ad gh de below args s) (k12 M x1 x2 x3) 12 [some (.ref (ad 2)), some (.int x1), some (.int x2), some (.int x3), none, none, none] [] M) (k76 : rv_Mem → Int32 → Int32 → Int32 → Nat → Int32 → Int32 → Option (Bool × rv_Mem)) (h76 : ∀ (M : rv_Mem) (x1 : Int32) (x2 : Int32) (x3 : Int32) (x4 : Nat) (x5 : Int32) (x6 : Int32), rv_M (rC_G D cI cZ cO ad gh de) (rC_K ad gh) p l e rm2_makeMergedFile s m args below meth c 0 0 (rC_qZW D cI cZ cO ad gh de below args s) (k76 M x1 x2 x3 x4 x5 x6) 76 [some (.ref (ad 2)), some (.int x1), some (.int x2), some (.int x3), some (.ref (ad x4)), some (.int x5), some (.int x6)] [] M) : ∀ (M : rv_Mem) (x1 : Int32) (x2 : Int32) (x3 : Int32) (x4 : Nat) (x5 : Int32) (x6 : Int32), rv_M (rC_G D cI cZ cO ad gh de) (rC_K ad gh) p l e rm2_makeMergedFile s m args below meth c 0 0 (rC_qZW D cI cZ cO ad gh de below args s) (f2_makeMergedFile_76_s gh k12 k76 M x1 x2 x3 x4 x5 x6) 76 [some (.ref (ad 2)), some (.int x1), some (.int x2), some (.int x3), some (.ref (ad x4)), some (.int x5), some (.int x6)] [] M := by
  intro M x1 x2 x3 x4 x5 x6
  unfold f2_makeMergedFile_76_s
  refine rv_iload (q := 78) E.x dX2_makeMergedFile_76 rfl rfl ?_
  refine rv_aload (q := 80) E.x dX2_makeMergedFile_78 rfl rfl ?_
  refine rv_g (fun g1 => ?_)
  refine rC_getX3 (q := 83) E x4 7 wfX2_58 rfl (Nat.le_of_ble_eq_true rfl) (rC_at_of g1) rfl dX2_makeMergedFile_80 rfl ?_
  refine rv_iload (q := 85) E.x dX2_makeMergedFile_83 rfl rfl ?_
  refine rC_iald (q := 86) (n := 11) E (rC_arCm g1 32 (by decide)) dX2_makeMergedFile_85 rfl ?_
  refine rv_icmp_ge (q := 89) (tgt := 125) E.x dX2_makeMergedFile_86 (by decide) rfl ?_ ?_
  · refine rv_aload_n (q := 90) E.x dX2_makeMergedFile_89 rfl rfl ?_
    refine rC_getX2 (q := 93) E 2 0 wfX2_25 rfl (Nat.le_of_ble_eq_true rfl) ⟨rfl, rfl⟩ rfl dX2_makeMergedFile_90 rfl ?_
    refine rv_iload_n (q := 94) E.x dX2_makeMergedFile_93 rfl rfl ?_
    refine rv_aload (q := 96) E.x dX2_makeMergedFile_94 rfl rfl ?_
    refine rC_getX3 (q := 99) E x4 1 wfX2_61 rfl (Nat.le_of_ble_eq_true rfl) (rC_at_of g1) rfl dX2_makeMergedFile_96 rfl ?_
    refine rv_aload (q := 101) E.x dX2_makeMergedFile_99 rfl rfl ?_
    refine rC_getX3 (q := 104) E x4 6 wfX2_64 rfl (Nat.le_of_ble_eq_true rfl) (rC_at_of g1) rfl dX2_makeMergedFile_101 rfl ?_
    refine rv_iload (q := 106) E.x dX2_makeMergedFile_104 rfl rfl ?_
    refine rC_iald (q := 107) (n := 11) E (rC_arCm g1 30 (by decide)) dX2_makeMergedFile_106 rfl ?_
    refine rv_iload (q := 109) E.x dX2_makeMergedFile_107 rfl rfl ?_
    refine rv_iadd (q := 110) E.x dX2_makeMergedFile_109 rfl ?_
    refine rC_iald (q := 111) (n := 10) E (rC_arCm g1 20 (by decide)) dX2_makeMergedFile_110 rfl ?_
    refine rv_b2 (fun r3 M4 e2 => ?_)
    refine rC_calliX9 (q := 114) E ⟨rfl, rfl⟩ (c9_addLine E.2.2.1 e2) gX2_67 hX9_addLine ⟨rfl, rfl⟩ ⟨Nat.le_of_ble_eq_true rfl, Nat.le_of_ble_eq_true rfl⟩ ⟨Nat.le_of_ble_eq_true rfl, Nat.le_of_ble_eq_true rfl⟩ rfl rfl rfl (Nat.le_of_ble_eq_true rfl) dX2_makeMergedFile_111 rfl ?_
    refine rv_ifz_ne (q := 117) (tgt := 119) E.x dX2_makeMergedFile_114 (by decide) rfl ?_ ?_
    · refine rv_iconst (q := 118) E.x dX2_makeMergedFile_117 rv_ki0 rfl ?_
      exact rC_zret E false rfl dX2_makeMergedFile_118
    · refine rv_iinc (q := 122) (lv' := [_, _, _, _, _, _, _]) E.x dX2_makeMergedFile_119 rv_ki1 rfl rfl rfl rfl ?_
      refine rv_goto (q := 76) E.x dX2_makeMergedFile_122 (by decide) ?_
      refine rv_wk [true, true, true, true, true, true, true] ?_
      exact h76 M4 x1 x2 x3 x4 x5 (x6 + 1)
  · refine rv_wk [true, true, true, true, false, false, false] ?_
    exact b2_makeMergedFile_125 E k12 h12 M x1 x2 x3
theorem b2_makeMergedFile_76 {p : Program} {l : Launch} {e : Env} {s : State} {m : MethodId} {args : Array Value} {below : List Frame} {meth : Method} {c : Code} {D : va_G} {cI cZ cO : ClassId} {ad : Nat → Nat} {gh : rC_gh} {de : Nat} (E : rC_E D cI cZ cO ad gh (rC_K ad gh) RX2 cX2_makeMergedFile 7 (some .boolean) p s m args meth c) (k12 : rv_Mem → Int32 → Int32 → Int32 → Option (Bool × rv_Mem)) (h12 : ∀ (M : rv_Mem) (x1 : Int32) (x2 : Int32) (x3 : Int32), rv_M (rC_G D cI cZ cO ad gh de) (rC_K ad gh) p l e rm2_makeMergedFile s m args below meth c 0 0 (rC_qZW D cI cZ cO ad gh de below args s) (k12 M x1 x2 x3) 12 [some (.ref (ad 2)), some (.int x1), some (.int x2), some (.int x3), none, none, none] [] M) : ∀ (n : Nat), ∀ (M : rv_Mem) (x1 : Int32) (x2 : Int32) (x3 : Int32) (x4 : Nat) (x5 : Int32) (x6 : Int32), rv_M (rC_G D cI cZ cO ad gh de) (rC_K ad gh) p l e rm2_makeMergedFile s m args below meth c 0 0 (rC_qZW D cI cZ cO ad gh de below args s) (f2_makeMergedFile_76 gh k12 n M x1 x2 x3 x4 x5 x6) 76 [some (.ref (ad 2)), some (.int x1), some (.int x2), some (.int x3), some (.ref (ad x4)), some (.int x5), some (.int x6)] [] M := by
  intro n
  induction n with
  | zero => exact fun _ _ _ _ _ _ _ => rv_stuck
  | succ n ih => exact b2_makeMergedFile_76_s E k12 h12 (f2_makeMergedFile_76 gh k12 n) ih
set_option maxRecDepth 100000 in
theorem b2_makeMergedFile_46 {p : Program} {l : Launch} {e : Env} {s : State} {m : MethodId} {args : Array Value} {below : List Frame} {meth : Method} {c : Code} {D : va_G} {cI cZ cO : ClassId} {ad : Nat → Nat} {gh : rC_gh} {de : Nat} (E : rC_E D cI cZ cO ad gh (rC_K ad gh) RX2 cX2_makeMergedFile 7 (some .boolean) p s m args meth c) (k12 : rv_Mem → Int32 → Int32 → Int32 → Option (Bool × rv_Mem)) (h12 : ∀ (M : rv_Mem) (x1 : Int32) (x2 : Int32) (x3 : Int32), rv_M (rC_G D cI cZ cO ad gh de) (rC_K ad gh) p l e rm2_makeMergedFile s m args below meth c 0 0 (rC_qZW D cI cZ cO ad gh de below args s) (k12 M x1 x2 x3) 12 [some (.ref (ad 2)), some (.int x1), some (.int x2), some (.int x3), none, none, none] [] M) : ∀ (M : rv_Mem) (x1 : Int32) (x2 : Int32) (x3 : Int32) (s0 : Nat), rv_M (rC_G D cI cZ cO ad gh de) (rC_K ad gh) p l e rm2_makeMergedFile s m args below meth c 0 0 (rC_qZW D cI cZ cO ad gh de below args s) (f2_makeMergedFile_46 gh k12 M x1 x2 x3 s0) 46 [some (.ref (ad 2)), some (.int x1), some (.int x2), some (.int x3), none, none, none] [.ref (ad s0)] M := by
  intro M x1 x2 x3 s0
  unfold f2_makeMergedFile_46
  refine rv_astore (q := 48) (lv' := [_, _, _, _, _, _, _]) E.x dX2_makeMergedFile_46 (Nat.le_of_ble_eq_true rfl) rfl rfl rfl ?_
  refine rv_aload (q := 50) E.x dX2_makeMergedFile_48 rfl rfl ?_
  refine rv_iload_n (q := 51) E.x dX2_makeMergedFile_50 rfl rfl ?_
  refine rv_g (fun g1 => ?_)
  refine rv_b1 (fun r3 e2 => ?_)
  refine rC_calliX3 (q := 54) E (rC_at_of g1) (c3_hunkFrom E.2.2.1 e2) gX2_51 hX3_hunkFrom ⟨rfl, rfl⟩ ⟨Nat.le_of_ble_eq_true rfl, Nat.le_of_ble_eq_true rfl⟩ ⟨Nat.le_of_ble_eq_true rfl, Nat.le_of_ble_eq_true rfl⟩ rfl rfl rfl (Nat.le_of_ble_eq_true rfl) dX2_makeMergedFile_51 rfl ?_
  refine rv_istore (q := 56) (lv' := [_, _, _, _, _, _, _]) E.x dX2_makeMergedFile_54 (Nat.le_of_ble_eq_true rfl) rfl rfl rfl ?_
  refine rv_iload (q := 58) E.x dX2_makeMergedFile_56 rfl rfl ?_
  refine rv_iconst (q := 59) E.x dX2_makeMergedFile_58 rv_kim1 rfl ?_
  refine rv_icmp_eq (q := 62) (tgt := 125) E.x dX2_makeMergedFile_59 (by decide) rfl ?_ ?_
  · refine rv_iload_n (q := 63) E.x dX2_makeMergedFile_62 rfl rfl ?_
    refine rv_aload (q := 65) E.x dX2_makeMergedFile_63 rfl rfl ?_
    refine rC_getX3 (q := 68) E s0 5 wfX2_55 rfl (Nat.le_of_ble_eq_true rfl) (rC_at_of g1) rfl dX2_makeMergedFile_65 rfl ?_
    refine rv_iload (q := 70) E.x dX2_makeMergedFile_68 rfl rfl ?_
    refine rC_iald (q := 71) (n := 11) E (rC_arCm g1 28 (by decide)) dX2_makeMergedFile_70 rfl ?_
    refine rv_iadd (q := 72) E.x dX2_makeMergedFile_71 rfl ?_
    refine rv_istore_n (q := 73) (lv' := [_, _, _, _, _, _, _]) E.x dX2_makeMergedFile_72 (Nat.le_of_ble_eq_true rfl) rfl rfl rfl ?_
    refine rv_iconst (q := 74) E.x dX2_makeMergedFile_73 rv_ki0 rfl ?_
    refine rv_istore (q := 76) (lv' := [_, _, _, _, _, _, _]) E.x dX2_makeMergedFile_74 (Nat.le_of_ble_eq_true rfl) rfl rfl rfl ?_
    refine rv_wk [true, true, true, true, true, true, true] ?_
    exact b2_makeMergedFile_76 E k12 h12 rv_FU M x1 (x3 + (M (s0 + 28) (r3).toNatClampNeg)) x3 s0 r3 0
  · refine rv_wk [true, true, true, true, false, false, false] ?_
    exact b2_makeMergedFile_125 E k12 h12 M x1 x2 x3
set_option maxRecDepth 100000 in
theorem b2_makeMergedFile_12_s {p : Program} {l : Launch} {e : Env} {s : State} {m : MethodId} {args : Array Value} {below : List Frame} {meth : Method} {c : Code} {D : va_G} {cI cZ cO : ClassId} {ad : Nat → Nat} {gh : rC_gh} {de : Nat} (E : rC_E D cI cZ cO ad gh (rC_K ad gh) RX2 cX2_makeMergedFile 7 (some .boolean) p s m args meth c)   (k12 : rv_Mem → Int32 → Int32 → Int32 → Option (Bool × rv_Mem)) (h12 : ∀ (M : rv_Mem) (x1 : Int32) (x2 : Int32) (x3 : Int32), rv_M (rC_G D cI cZ cO ad gh de) (rC_K ad gh) p l e rm2_makeMergedFile s m args below meth c 0 0 (rC_qZW D cI cZ cO ad gh de below args s) (k12 M x1 x2 x3) 12 [some (.ref (ad 2)), some (.int x1), some (.int x2), some (.int x3), none, none, none] [] M) : ∀ (M : rv_Mem) (x1 : Int32) (x2 : Int32) (x3 : Int32), rv_M (rC_G D cI cZ cO ad gh de) (rC_K ad gh) p l e rm2_makeMergedFile s m args below meth c 0 0 (rC_qZW D cI cZ cO ad gh de below args s) (f2_makeMergedFile_12_s gh k12 M x1 x2 x3) 12 [some (.ref (ad 2)), some (.int x1), some (.int x2), some (.int x3), none, none, none] [] M := by
  intro M x1 x2 x3
  unfold f2_makeMergedFile_12_s
  refine rv_iload_n (q := 13) E.x dX2_makeMergedFile_12 rfl rfl ?_
  refine rv_aload_n (q := 14) E.x dX2_makeMergedFile_13 rfl rfl ?_
  refine rC_getX2 (q := 17) E 2 1 wfX2_12 rfl (Nat.le_of_ble_eq_true rfl) ⟨rfl, rfl⟩ rfl dX2_makeMergedFile_14 rfl ?_
  refine rC_getX3 (q := 20) E 7 8 wfX2_47 rfl (Nat.le_of_ble_eq_true rfl) ⟨rfl, rfl⟩ rfl dX2_makeMergedFile_17 rfl ?_
  refine rv_icmp_gt (q := 23) (tgt := 169) E.x dX2_makeMergedFile_20 (by decide) rfl ?_ ?_
  · refine rv_aload_n (q := 24) E.x dX2_makeMergedFile_23 rfl rfl ?_
    refine rC_getX2 (q := 27) E 2 1 wfX2_12 rfl (Nat.le_of_ble_eq_true rfl) ⟨rfl, rfl⟩ rfl dX2_makeMergedFile_24 rfl ?_
    refine rv_iload_n (q := 28) E.x dX2_makeMergedFile_27 rfl rfl ?_
    refine rv_b1 (fun r2 e1 => ?_)
    refine rC_calliX3 (q := 31) E ⟨rfl, rfl⟩ (c3_hunkFrom E.2.2.1 e1) gX2_51 hX3_hunkFrom ⟨rfl, rfl⟩ ⟨Nat.le_of_ble_eq_true rfl, Nat.le_of_ble_eq_true rfl⟩ ⟨Nat.le_of_ble_eq_true rfl, Nat.le_of_ble_eq_true rfl⟩ rfl rfl rfl (Nat.le_of_ble_eq_true rfl) dX2_makeMergedFile_28 rfl ?_
    refine rv_iconst (q := 32) E.x dX2_makeMergedFile_31 rv_kim1 rfl ?_
    refine rv_icmp_eq (q := 35) (tgt := 42) E.x dX2_makeMergedFile_32 (by decide) rfl ?_ ?_
    · refine rv_aload_n (q := 36) E.x dX2_makeMergedFile_35 rfl rfl ?_
      refine rC_getX2 (q := 39) E 2 1 wfX2_12 rfl (Nat.le_of_ble_eq_true rfl) ⟨rfl, rfl⟩ rfl dX2_makeMergedFile_36 rfl ?_
      refine rv_goto (q := 46) E.x dX2_makeMergedFile_39 (by decide) ?_
      refine rv_wk [true, true, true, true, false, false, false] ?_
      exact b2_makeMergedFile_46 E k12 h12 M x1 x2 x3 7
    · refine rv_aload_n (q := 43) E.x dX2_makeMergedFile_42 rfl rfl ?_
      refine rC_getX2 (q := 46) E 2 2 wfX2_18 rfl (Nat.le_of_ble_eq_true rfl) ⟨rfl, rfl⟩ rfl dX2_makeMergedFile_43 rfl ?_
      refine rv_wk [true, true, true, true, false, false, false] ?_
      exact b2_makeMergedFile_46 E k12 h12 M x1 x2 x3 8
  · refine rv_iconst (q := 170) E.x dX2_makeMergedFile_169 rv_ki1 rfl ?_
    exact rC_zret E true rfl dX2_makeMergedFile_170
theorem b2_makeMergedFile_12 {p : Program} {l : Launch} {e : Env} {s : State} {m : MethodId} {args : Array Value} {below : List Frame} {meth : Method} {c : Code} {D : va_G} {cI cZ cO : ClassId} {ad : Nat → Nat} {gh : rC_gh} {de : Nat} (E : rC_E D cI cZ cO ad gh (rC_K ad gh) RX2 cX2_makeMergedFile 7 (some .boolean) p s m args meth c)   : ∀ (n : Nat), ∀ (M : rv_Mem) (x1 : Int32) (x2 : Int32) (x3 : Int32), rv_M (rC_G D cI cZ cO ad gh de) (rC_K ad gh) p l e rm2_makeMergedFile s m args below meth c 0 0 (rC_qZW D cI cZ cO ad gh de below args s) (f2_makeMergedFile_12 gh n M x1 x2 x3) 12 [some (.ref (ad 2)), some (.int x1), some (.int x2), some (.int x3), none, none, none] [] M := by
  intro n
  induction n with
  | zero => exact fun _ _ _ _ => rv_stuck
  | succ n ih => exact b2_makeMergedFile_12_s E  (f2_makeMergedFile_12 gh n) ih
set_option maxRecDepth 100000 in
theorem b2_makeMergedFile {p : Program} {l : Launch} {e : Env} {s : State} {m : MethodId} {args : Array Value} {below : List Frame} {meth : Method} {c : Code} {D : va_G} {cI cZ cO : ClassId} {ad : Nat → Nat} {gh : rC_gh} {de : Nat} (E : rC_E D cI cZ cO ad gh (rC_K ad gh) RX2 cX2_makeMergedFile 7 (some .boolean) p s m args meth c) (M : rv_Mem) (a1 : Int32) : rv_M (rC_G D cI cZ cO ad gh de) (rC_K ad gh) p l e rm2_makeMergedFile s m args below meth c 0 0 (rC_qZW D cI cZ cO ad gh de below args s) (f2_makeMergedFile gh M a1) 0 [some (.ref (ad 2)), some (.int a1), none, none, none, none, none] [] M := by
  unfold f2_makeMergedFile
  refine rv_iconst (q := 1) E.x dX2_makeMergedFile_0 rv_ki0 rfl ?_
  refine rv_istore_n (q := 2) (lv' := [_, _, _, _, _, _, _]) E.x dX2_makeMergedFile_1 (Nat.le_of_ble_eq_true rfl) rfl rfl rfl ?_
  refine rv_aload_n (q := 3) E.x dX2_makeMergedFile_2 rfl rfl ?_
  refine rC_getX2 (q := 6) E 2 0 wfX2_25 rfl (Nat.le_of_ble_eq_true rfl) ⟨rfl, rfl⟩ rfl dX2_makeMergedFile_3 rfl ?_
  refine rv_iload_n (q := 7) E.x dX2_makeMergedFile_6 rfl rfl ?_
  refine rv_b1 (fun M2 e1 => ?_)
  refine rC_callvX9 (q := 10) E ⟨rfl, rfl⟩ (c9_startFile E.2.2.1 e1) gX2_41 hX9_startFile ⟨rfl, rfl⟩ ⟨Nat.le_of_ble_eq_true rfl, Nat.le_of_ble_eq_true rfl⟩ ⟨Nat.le_of_ble_eq_true rfl, Nat.le_of_ble_eq_true rfl⟩ rfl rfl rfl (Nat.le_of_ble_eq_true rfl) dX2_makeMergedFile_7 rfl ?_
  refine rv_iconst (q := 11) E.x dX2_makeMergedFile_10 rv_ki0 rfl ?_
  refine rv_istore_n (q := 12) (lv' := [_, _, _, _, _, _, _]) E.x dX2_makeMergedFile_11 (Nat.le_of_ble_eq_true rfl) rfl rfl rfl ?_
  refine rv_wk [true, true, true, true, false, false, false] ?_
  exact b2_makeMergedFile_12 E rv_FU M2 a1 0 0
theorem c2_makeMergedFile {l : Launch} {D : va_G} {cI cZ cO : ClassId} {ad : Nat → Nat} {gh : rC_gh} {de : Nat} (hI : rC_I ad gh) {M : rv_Mem} {a1 : Int32} {r : Bool} {M1 : rv_Mem} (h : f2_makeMergedFile gh M a1 = some (r, M1)) : Met l yX2_makeMergedFile (rv_ws yX2_makeMergedFile cX2_makeMergedFile 7 (some .boolean)) rm2_makeMergedFile (rC_Pc D cI cZ cO ad gh de [.ref (ad 2), .int a1] M) (rC_QI D cI cZ cO ad gh de (rv_i r) M1) 0 0 (rC_K ad gh) := rC_met hI rfl (by decide) (Nat.le_of_ble_eq_true rfl) (fun p e s m args below meth c E => ⟨(rC_qZW D cI cZ cO ad gh de below args s), rfl, b2_makeMergedFile E M a1⟩) h
abbrev rm2_mergeRows : Room := { frames := 3, cells := 0, slots := 0, locals := 82 }
set_option maxRecDepth 100000 in
theorem b2_mergeRows_3_s {p : Program} {l : Launch} {e : Env} {s : State} {m : MethodId} {args : Array Value} {below : List Frame} {meth : Method} {c : Code} {D : va_G} {cI cZ cO : ClassId} {ad : Nat → Nat} {gh : rC_gh} {de : Nat} (E : rC_E D cI cZ cO ad gh (rC_K ad gh) RX2 cX2_mergeRows 5 (some .boolean) p s m args meth c)   (k3 : rv_Mem → Int32 → Int32 → Int32 → Int32 → Option (Bool × rv_Mem)) (h3 : ∀ (M : rv_Mem) (x1 : Int32) (x2 : Int32) (x3 : Int32) (x4 : Int32), rv_M (rC_G D cI cZ cO ad gh de) (rC_K ad gh) p l e rm2_mergeRows s m args below meth c 0 0 (rC_qZW D cI cZ cO ad gh de below args s) (k3 M x1 x2 x3 x4) 3 [some (.ref (ad 2)), some (.int x1), some (.int x2), some (.int x3), some (.int x4)] [] M) : ∀ (M : rv_Mem) (x1 : Int32) (x2 : Int32) (x3 : Int32) (x4 : Int32), rv_M (rC_G D cI cZ cO ad gh de) (rC_K ad gh) p l e rm2_mergeRows s m args below meth c 0 0 (rC_qZW D cI cZ cO ad gh de below args s) (f2_mergeRows_3_s gh k3 M x1 x2 x3 x4) 3 [some (.ref (ad 2)), some (.int x1), some (.int x2), some (.int x3), some (.int x4)] [] M := by
  intro M x1 x2 x3 x4
  unfold f2_mergeRows_3_s
  refine rv_iload (q := 5) E.x dX2_mergeRows_3 rfl rfl ?_
  refine rv_iconst (q := 6) E.x dX2_mergeRows_5 rv_ki4 rfl ?_
  refine rv_icmp_ge (q := 9) (tgt := 72) E.x dX2_mergeRows_6 (by decide) rfl ?_ ?_
  · refine rv_aload_n (q := 10) E.x dX2_mergeRows_9 rfl rfl ?_
    refine rC_getX2 (q := 13) E 2 1 wfX2_12 rfl (Nat.le_of_ble_eq_true rfl) ⟨rfl, rfl⟩ rfl dX2_mergeRows_10 rfl ?_
    refine rv_aload_n (q := 14) E.x dX2_mergeRows_13 rfl rfl ?_
    refine rC_getX2 (q := 17) E 2 0 wfX2_25 rfl (Nat.le_of_ble_eq_true rfl) ⟨rfl, rfl⟩ rfl dX2_mergeRows_14 rfl ?_
    refine rv_iload_n (q := 18) E.x dX2_mergeRows_17 rfl rfl ?_
    refine rv_iload_n (q := 19) E.x dX2_mergeRows_18 rfl rfl ?_
    refine rv_iload (q := 21) E.x dX2_mergeRows_19 rfl rfl ?_
    refine rv_iconst (q := 22) E.x dX2_mergeRows_21 rv_ki0 rfl ?_
    refine rv_b1 (fun M2 e1 => ?_)
    refine rC_callvX3 (q := 25) E ⟨rfl, rfl⟩ (c3_compare E.2.2.1 e1) gX2_29 hX3_compare ⟨rfl, rfl⟩ ⟨Nat.le_of_ble_eq_true rfl, Nat.le_of_ble_eq_true rfl⟩ ⟨Nat.le_of_ble_eq_true rfl, Nat.le_of_ble_eq_true rfl⟩ rfl rfl rfl (Nat.le_of_ble_eq_true rfl) dX2_mergeRows_22 rfl ?_
    refine rv_aload_n (q := 26) E.x dX2_mergeRows_25 rfl rfl ?_
    refine rC_getX2 (q := 29) E 2 2 wfX2_18 rfl (Nat.le_of_ble_eq_true rfl) ⟨rfl, rfl⟩ rfl dX2_mergeRows_26 rfl ?_
    refine rv_aload_n (q := 30) E.x dX2_mergeRows_29 rfl rfl ?_
    refine rC_getX2 (q := 33) E 2 0 wfX2_25 rfl (Nat.le_of_ble_eq_true rfl) ⟨rfl, rfl⟩ rfl dX2_mergeRows_30 rfl ?_
    refine rv_iload_n (q := 34) E.x dX2_mergeRows_33 rfl rfl ?_
    refine rv_iload_n (q := 35) E.x dX2_mergeRows_34 rfl rfl ?_
    refine rv_iload (q := 37) E.x dX2_mergeRows_35 rfl rfl ?_
    refine rv_iconst (q := 38) E.x dX2_mergeRows_37 rv_ki0 rfl ?_
    refine rv_b1 (fun M4 e3 => ?_)
    refine rC_callvX3 (q := 41) E ⟨rfl, rfl⟩ (c3_compare E.2.2.1 e3) gX2_29 hX3_compare ⟨rfl, rfl⟩ ⟨Nat.le_of_ble_eq_true rfl, Nat.le_of_ble_eq_true rfl⟩ ⟨Nat.le_of_ble_eq_true rfl, Nat.le_of_ble_eq_true rfl⟩ rfl rfl rfl (Nat.le_of_ble_eq_true rfl) dX2_mergeRows_38 rfl ?_
    refine rv_aload_n (q := 42) E.x dX2_mergeRows_41 rfl rfl ?_
    refine rC_getX2 (q := 45) E 2 1 wfX2_12 rfl (Nat.le_of_ble_eq_true rfl) ⟨rfl, rfl⟩ rfl dX2_mergeRows_42 rfl ?_
    refine rv_aload_n (q := 46) E.x dX2_mergeRows_45 rfl rfl ?_
    refine rC_getX2 (q := 49) E 2 2 wfX2_18 rfl (Nat.le_of_ble_eq_true rfl) ⟨rfl, rfl⟩ rfl dX2_mergeRows_46 rfl ?_
    refine rv_b1 (fun r6 e5 => ?_)
    refine rC_calliX3 (q := 52) E ⟨rfl, rfl⟩ (c3_isInConflict E.2.2.1 e5) gX2_33 hX3_isInConflict ⟨rfl, rfl⟩ ⟨Nat.le_of_ble_eq_true rfl, Nat.le_of_ble_eq_true rfl⟩ ⟨Nat.le_of_ble_eq_true rfl, Nat.le_of_ble_eq_true rfl⟩ rfl rfl rfl (Nat.le_of_ble_eq_true rfl) dX2_mergeRows_49 rfl ?_
    refine rv_ifz_ne (q := 55) (tgt := 64) E.x dX2_mergeRows_52 (by decide) rfl ?_ ?_
    · refine rv_aload_n (q := 56) E.x dX2_mergeRows_55 rfl rfl ?_
      refine rv_iload (q := 58) E.x dX2_mergeRows_56 rfl rfl ?_
      refine rv_b2 (fun r8 M9 e7 => ?_)
      refine rC_calliX2 (q := 61) E ⟨rfl, rfl⟩ (c2_makeMergedFile E.2.2.1 e7) gX2_37 hX2_makeMergedFile ⟨rfl, rfl⟩ ⟨Nat.le_of_ble_eq_true rfl, Nat.le_of_ble_eq_true rfl⟩ ⟨Nat.le_of_ble_eq_true rfl, Nat.le_of_ble_eq_true rfl⟩ rfl rfl rfl (Nat.le_of_ble_eq_true rfl) dX2_mergeRows_58 rfl ?_
      refine rv_ifz_ne (q := 64) (tgt := 66) E.x dX2_mergeRows_61 (by decide) rfl ?_ ?_
      · refine rv_iconst (q := 65) E.x dX2_mergeRows_64 rv_ki0 rfl ?_
        exact rC_zret E false rfl dX2_mergeRows_65
      · refine rv_iinc (q := 69) (lv' := [_, _, _, _, _]) E.x dX2_mergeRows_66 rv_ki1 rfl rfl rfl rfl ?_
        refine rv_goto (q := 3) E.x dX2_mergeRows_69 (by decide) ?_
        refine rv_wk [true, true, true, true, true] ?_
        exact h3 M9 x1 x2 x3 (x4 + 1)
    · refine rv_iconst (q := 65) E.x dX2_mergeRows_64 rv_ki0 rfl ?_
      exact rC_zret E false rfl dX2_mergeRows_65
  · refine rv_iconst (q := 73) E.x dX2_mergeRows_72 rv_ki1 rfl ?_
    exact rC_zret E true rfl dX2_mergeRows_73
theorem b2_mergeRows_3 {p : Program} {l : Launch} {e : Env} {s : State} {m : MethodId} {args : Array Value} {below : List Frame} {meth : Method} {c : Code} {D : va_G} {cI cZ cO : ClassId} {ad : Nat → Nat} {gh : rC_gh} {de : Nat} (E : rC_E D cI cZ cO ad gh (rC_K ad gh) RX2 cX2_mergeRows 5 (some .boolean) p s m args meth c)   : ∀ (n : Nat), ∀ (M : rv_Mem) (x1 : Int32) (x2 : Int32) (x3 : Int32) (x4 : Int32), rv_M (rC_G D cI cZ cO ad gh de) (rC_K ad gh) p l e rm2_mergeRows s m args below meth c 0 0 (rC_qZW D cI cZ cO ad gh de below args s) (f2_mergeRows_3 gh n M x1 x2 x3 x4) 3 [some (.ref (ad 2)), some (.int x1), some (.int x2), some (.int x3), some (.int x4)] [] M := by
  intro n
  induction n with
  | zero => exact fun _ _ _ _ _ => rv_stuck
  | succ n ih => exact b2_mergeRows_3_s E  (f2_mergeRows_3 gh n) ih
set_option maxRecDepth 100000 in
theorem b2_mergeRows {p : Program} {l : Launch} {e : Env} {s : State} {m : MethodId} {args : Array Value} {below : List Frame} {meth : Method} {c : Code} {D : va_G} {cI cZ cO : ClassId} {ad : Nat → Nat} {gh : rC_gh} {de : Nat} (E : rC_E D cI cZ cO ad gh (rC_K ad gh) RX2 cX2_mergeRows 5 (some .boolean) p s m args meth c) (M : rv_Mem) (a1 : Int32) (a2 : Int32) (a3 : Int32) : rv_M (rC_G D cI cZ cO ad gh de) (rC_K ad gh) p l e rm2_mergeRows s m args below meth c 0 0 (rC_qZW D cI cZ cO ad gh de below args s) (f2_mergeRows gh M a1 a2 a3) 0 [some (.ref (ad 2)), some (.int a1), some (.int a2), some (.int a3), none] [] M := by
  unfold f2_mergeRows
  refine rv_iconst (q := 1) E.x dX2_mergeRows_0 rv_ki0 rfl ?_
  refine rv_istore (q := 3) (lv' := [_, _, _, _, _]) E.x dX2_mergeRows_1 (Nat.le_of_ble_eq_true rfl) rfl rfl rfl ?_
  refine rv_wk [true, true, true, true, true] ?_
  exact b2_mergeRows_3 E rv_FU M a1 a2 a3 0
theorem c2_mergeRows {l : Launch} {D : va_G} {cI cZ cO : ClassId} {ad : Nat → Nat} {gh : rC_gh} {de : Nat} (hI : rC_I ad gh) {M : rv_Mem} {a1 : Int32} {a2 : Int32} {a3 : Int32} {r : Bool} {M1 : rv_Mem} (h : f2_mergeRows gh M a1 a2 a3 = some (r, M1)) : Met l yX2_mergeRows (rv_ws yX2_mergeRows cX2_mergeRows 5 (some .boolean)) rm2_mergeRows (rC_Pc D cI cZ cO ad gh de [.ref (ad 2), .int a1, .int a2, .int a3] M) (rC_QI D cI cZ cO ad gh de (rv_i r) M1) 0 0 (rC_K ad gh) := rC_met hI rfl (by decide) (Nat.le_of_ble_eq_true rfl) (fun p e s m args below meth c E => ⟨(rC_qZW D cI cZ cO ad gh de below args s), rfl, b2_mergeRows E M a1 a2 a3⟩) h
abbrev rm9_baseOf : Room := { frames := 1, cells := 0, slots := 0, locals := 21 }
set_option maxRecDepth 100000 in
theorem b9_baseOf {p : Program} {l : Launch} {e : Env} {s : State} {m : MethodId} {args : Array Value} {below : List Frame} {meth : Method} {c : Code} {D : va_G} {cI cZ cO : ClassId} {ad : Nat → Nat} {gh : rC_gh} {de : Nat} (E : rC_E D cI cZ cO ad gh (rC_K ad gh) RX9 cX9_baseOf 2 (some .int) p s m args meth c) (M : rv_Mem) (a1 : Int32) : rv_M (rC_G D cI cZ cO ad gh de) (rC_K ad gh) p l e rm9_baseOf s m args below meth c 0 0 (rC_qI D cI cZ cO ad gh de below args s M) (f9_baseOf gh M a1) 0 [some (.ref (ad 1)), some (.int a1)] [] M := by
  unfold f9_baseOf
  refine rv_aload_n (q := 1) E.x dX9_baseOf_0 rfl rfl ?_
  refine rC_getX9 (q := 4) E 1 3 wfX9_21 rfl (Nat.le_of_ble_eq_true rfl) ⟨rfl, rfl⟩ rfl dX9_baseOf_1 rfl ?_
  refine rv_iload_n (q := 5) E.x dX9_baseOf_4 rfl rfl ?_
  refine rv_b1 (fun r2 e1 => ?_)
  refine rC_callsi (q := 8) E (c9_read E.2.2.1 e1) gX9_52 hX9_read ⟨rfl, rfl⟩ ⟨Nat.le_of_ble_eq_true rfl, Nat.le_of_ble_eq_true rfl⟩ ⟨Nat.le_of_ble_eq_true rfl, Nat.le_of_ble_eq_true rfl⟩ rfl rfl rfl (Nat.le_of_ble_eq_true rfl) dX9_baseOf_5 rfl ?_
  exact rC_iret E rfl dX9_baseOf_8
theorem c9_baseOf {l : Launch} {D : va_G} {cI cZ cO : ClassId} {ad : Nat → Nat} {gh : rC_gh} {de : Nat} (hI : rC_I ad gh) {M : rv_Mem} {a1 : Int32} {r : Int32} (h : f9_baseOf gh M a1 = some r) : Met l yX9_baseOf (rv_ws yX9_baseOf cX9_baseOf 2 (some .int)) rm9_baseOf (rC_Pc D cI cZ cO ad gh de [.ref (ad 1), .int a1] M) (rC_QI D cI cZ cO ad gh de r M) 0 0 (rC_K ad gh) := rC_met hI rfl (by decide) (Nat.le_of_ble_eq_true rfl) (fun p e s m args below meth c E => ⟨(rC_qI D cI cZ cO ad gh de below args s M), rfl, b9_baseOf E M a1⟩) h
abbrev rm9_isSameFile : Room := { frames := 1, cells := 0, slots := 0, locals := 25 }
set_option maxRecDepth 100000 in
theorem b9_isSameFile_65 {p : Program} {l : Launch} {e : Env} {s : State} {m : MethodId} {args : Array Value} {below : List Frame} {meth : Method} {c : Code} {D : va_G} {cI cZ cO : ClassId} {ad : Nat → Nat} {gh : rC_gh} {de : Nat} (E : rC_E D cI cZ cO ad gh (rC_K ad gh) RX9 cX9_isSameFile 7 (some .boolean) p s m args meth c) (M : rv_Mem) (k29 : Int32 → Int32 → Int32 → Int32 → Bool → Int32 → Option (Bool)) (h29 : ∀ (x1 : Int32) (x2 : Int32) (x3 : Int32) (x4 : Int32) (x5 : Bool) (x6 : Int32), rv_M (rC_G D cI cZ cO ad gh de) (rC_K ad gh) p l e rm9_isSameFile s m args below meth c 0 0 (rC_qZ D cI cZ cO ad gh de below args s M) (k29 x1 x2 x3 x4 x5 x6) 29 [some (.ref (ad 1)), some (.int x1), some (.int x2), some (.int x3), some (.int x4), some (.int (rv_i x5)), some (.int x6)] [] M) : ∀ (x1 : Int32) (x2 : Int32) (x3 : Int32) (x4 : Int32) (x6 : Int32) (s0 : Bool), rv_M (rC_G D cI cZ cO ad gh de) (rC_K ad gh) p l e rm9_isSameFile s m args below meth c 0 0 (rC_qZ D cI cZ cO ad gh de below args s M) (f9_isSameFile_65 gh M k29 x1 x2 x3 x4 x6 s0) 65 [some (.ref (ad 1)), some (.int x1), some (.int x2), some (.int x3), some (.int x4), none, some (.int x6)] [.int (rv_i s0)] M := by
  intro x1 x2 x3 x4 x6 s0
  unfold f9_isSameFile_65
  refine rv_istore (q := 67) (lv' := [_, _, _, _, _, _, _]) E.x dX9_isSameFile_65 (Nat.le_of_ble_eq_true rfl) rfl rfl rfl ?_
  refine rv_iinc (q := 70) (lv' := [_, _, _, _, _, _, _]) E.x dX9_isSameFile_67 rv_ki1 rfl rfl rfl rfl ?_
  refine rv_goto (q := 29) E.x dX9_isSameFile_70 (by decide) ?_
  refine rv_wk [true, true, true, true, true, true, true] ?_
  exact h29 x1 x2 x3 x4 s0 (x6 + 1)
set_option maxRecDepth 100000 in
theorem b9_isSameFile_29_s {p : Program} {l : Launch} {e : Env} {s : State} {m : MethodId} {args : Array Value} {below : List Frame} {meth : Method} {c : Code} {D : va_G} {cI cZ cO : ClassId} {ad : Nat → Nat} {gh : rC_gh} {de : Nat} (E : rC_E D cI cZ cO ad gh (rC_K ad gh) RX9 cX9_isSameFile 7 (some .boolean) p s m args meth c) (M : rv_Mem)   (k29 : Int32 → Int32 → Int32 → Int32 → Bool → Int32 → Option (Bool)) (h29 : ∀ (x1 : Int32) (x2 : Int32) (x3 : Int32) (x4 : Int32) (x5 : Bool) (x6 : Int32), rv_M (rC_G D cI cZ cO ad gh de) (rC_K ad gh) p l e rm9_isSameFile s m args below meth c 0 0 (rC_qZ D cI cZ cO ad gh de below args s M) (k29 x1 x2 x3 x4 x5 x6) 29 [some (.ref (ad 1)), some (.int x1), some (.int x2), some (.int x3), some (.int x4), some (.int (rv_i x5)), some (.int x6)] [] M) : ∀ (x1 : Int32) (x2 : Int32) (x3 : Int32) (x4 : Int32) (x5 : Bool) (x6 : Int32), rv_M (rC_G D cI cZ cO ad gh de) (rC_K ad gh) p l e rm9_isSameFile s m args below meth c 0 0 (rC_qZ D cI cZ cO ad gh de below args s M) (f9_isSameFile_29_s gh M k29 x1 x2 x3 x4 x5 x6) 29 [some (.ref (ad 1)), some (.int x1), some (.int x2), some (.int x3), some (.int x4), some (.int (rv_i x5)), some (.int x6)] [] M := by
  intro x1 x2 x3 x4 x5 x6
  unfold f9_isSameFile_29_s
  refine rv_iload (q := 31) E.x dX9_isSameFile_29 rfl rfl ?_
  refine rv_iload (q := 33) E.x dX9_isSameFile_31 rfl rfl ?_
  refine rv_icmp_ge (q := 36) (tgt := 73) E.x dX9_isSameFile_33 (by decide) rfl ?_ ?_
  · refine rv_iload (q := 38) E.x dX9_isSameFile_36 rfl rfl ?_
    refine rv_ifz_eq (q := 41) (tgt := 73) E.x dX9_isSameFile_38 (by decide) rfl ?_ ?_
    · refine rv_aload_n (q := 42) E.x dX9_isSameFile_41 rfl rfl ?_
      refine rv_iload_n (q := 43) E.x dX9_isSameFile_42 rfl rfl ?_
      refine rv_iload_n (q := 44) E.x dX9_isSameFile_43 rfl rfl ?_
      refine rv_iload (q := 46) E.x dX9_isSameFile_44 rfl rfl ?_
      refine rv_b1 (fun r2 e1 => ?_)
      refine rC_calliX9 (q := 49) E ⟨rfl, rfl⟩ (c9_lineAt E.2.2.1 e1) gX9_77 hX9_lineAt ⟨rfl, rfl⟩ ⟨Nat.le_of_ble_eq_true rfl, Nat.le_of_ble_eq_true rfl⟩ ⟨Nat.le_of_ble_eq_true rfl, Nat.le_of_ble_eq_true rfl⟩ rfl rfl rfl (Nat.le_of_ble_eq_true rfl) dX9_isSameFile_46 rfl ?_
      refine rv_aload_n (q := 50) E.x dX9_isSameFile_49 rfl rfl ?_
      refine rv_iload_n (q := 51) E.x dX9_isSameFile_50 rfl rfl ?_
      refine rv_iload_n (q := 52) E.x dX9_isSameFile_51 rfl rfl ?_
      refine rv_iload (q := 54) E.x dX9_isSameFile_52 rfl rfl ?_
      refine rv_b1 (fun r4 e3 => ?_)
      refine rC_calliX9 (q := 57) E ⟨rfl, rfl⟩ (c9_lineAt E.2.2.1 e3) gX9_77 hX9_lineAt ⟨rfl, rfl⟩ ⟨Nat.le_of_ble_eq_true rfl, Nat.le_of_ble_eq_true rfl⟩ ⟨Nat.le_of_ble_eq_true rfl, Nat.le_of_ble_eq_true rfl⟩ rfl rfl rfl (Nat.le_of_ble_eq_true rfl) dX9_isSameFile_54 rfl ?_
      refine rv_icmp_ne (q := 60) (tgt := 64) E.x dX9_isSameFile_57 (by decide) rfl ?_ ?_
      · refine rv_iconst (q := 61) E.x dX9_isSameFile_60 rv_ki1 rfl ?_
        refine rv_goto (q := 65) E.x dX9_isSameFile_61 (by decide) ?_
        refine rv_wk [true, true, true, true, true, false, true] ?_
        exact b9_isSameFile_65 E M k29 h29 x1 x2 x3 x4 x6 true
      · refine rv_iconst (q := 65) E.x dX9_isSameFile_64 rv_ki0 rfl ?_
        refine rv_wk [true, true, true, true, true, false, true] ?_
        exact b9_isSameFile_65 E M k29 h29 x1 x2 x3 x4 x6 false
    · refine rv_iload (q := 75) E.x dX9_isSameFile_73 rfl rfl ?_
      exact rC_zret E x5 rfl dX9_isSameFile_75
  · refine rv_iload (q := 75) E.x dX9_isSameFile_73 rfl rfl ?_
    exact rC_zret E x5 rfl dX9_isSameFile_75
theorem b9_isSameFile_29 {p : Program} {l : Launch} {e : Env} {s : State} {m : MethodId} {args : Array Value} {below : List Frame} {meth : Method} {c : Code} {D : va_G} {cI cZ cO : ClassId} {ad : Nat → Nat} {gh : rC_gh} {de : Nat} (E : rC_E D cI cZ cO ad gh (rC_K ad gh) RX9 cX9_isSameFile 7 (some .boolean) p s m args meth c) (M : rv_Mem)   : ∀ (n : Nat), ∀ (x1 : Int32) (x2 : Int32) (x3 : Int32) (x4 : Int32) (x5 : Bool) (x6 : Int32), rv_M (rC_G D cI cZ cO ad gh de) (rC_K ad gh) p l e rm9_isSameFile s m args below meth c 0 0 (rC_qZ D cI cZ cO ad gh de below args s M) (f9_isSameFile_29 gh M n x1 x2 x3 x4 x5 x6) 29 [some (.ref (ad 1)), some (.int x1), some (.int x2), some (.int x3), some (.int x4), some (.int (rv_i x5)), some (.int x6)] [] M := by
  intro n
  induction n with
  | zero => exact fun _ _ _ _ _ _ => rv_stuck
  | succ n ih => exact b9_isSameFile_29_s E M (f9_isSameFile_29 gh M n) ih
set_option maxRecDepth 100000 in
theorem b9_isSameFile_24 {p : Program} {l : Launch} {e : Env} {s : State} {m : MethodId} {args : Array Value} {below : List Frame} {meth : Method} {c : Code} {D : va_G} {cI cZ cO : ClassId} {ad : Nat → Nat} {gh : rC_gh} {de : Nat} (E : rC_E D cI cZ cO ad gh (rC_K ad gh) RX9 cX9_isSameFile 7 (some .boolean) p s m args meth c) (M : rv_Mem)   : ∀ (x1 : Int32) (x2 : Int32) (x3 : Int32) (x4 : Int32) (s0 : Bool), rv_M (rC_G D cI cZ cO ad gh de) (rC_K ad gh) p l e rm9_isSameFile s m args below meth c 0 0 (rC_qZ D cI cZ cO ad gh de below args s M) (f9_isSameFile_24 gh M x1 x2 x3 x4 s0) 24 [some (.ref (ad 1)), some (.int x1), some (.int x2), some (.int x3), some (.int x4), none, none] [.int (rv_i s0)] M := by
  intro x1 x2 x3 x4 s0
  unfold f9_isSameFile_24
  refine rv_istore (q := 26) (lv' := [_, _, _, _, _, _, _]) E.x dX9_isSameFile_24 (Nat.le_of_ble_eq_true rfl) rfl rfl rfl ?_
  refine rv_iconst (q := 27) E.x dX9_isSameFile_26 rv_ki0 rfl ?_
  refine rv_istore (q := 29) (lv' := [_, _, _, _, _, _, _]) E.x dX9_isSameFile_27 (Nat.le_of_ble_eq_true rfl) rfl rfl rfl ?_
  refine rv_wk [true, true, true, true, true, true, true] ?_
  exact b9_isSameFile_29 E M rv_FU x1 x2 x3 x4 s0 0
set_option maxRecDepth 100000 in
theorem b9_isSameFile {p : Program} {l : Launch} {e : Env} {s : State} {m : MethodId} {args : Array Value} {below : List Frame} {meth : Method} {c : Code} {D : va_G} {cI cZ cO : ClassId} {ad : Nat → Nat} {gh : rC_gh} {de : Nat} (E : rC_E D cI cZ cO ad gh (rC_K ad gh) RX9 cX9_isSameFile 7 (some .boolean) p s m args meth c) (M : rv_Mem) (a1 : Int32) (a2 : Int32) (a3 : Int32) : rv_M (rC_G D cI cZ cO ad gh de) (rC_K ad gh) p l e rm9_isSameFile s m args below meth c 0 0 (rC_qZ D cI cZ cO ad gh de below args s M) (f9_isSameFile gh M a1 a2 a3) 0 [some (.ref (ad 1)), some (.int a1), some (.int a2), some (.int a3), none, none, none] [] M := by
  unfold f9_isSameFile
  refine rv_aload_n (q := 1) E.x dX9_isSameFile_0 rfl rfl ?_
  refine rv_iload_n (q := 2) E.x dX9_isSameFile_1 rfl rfl ?_
  refine rv_iload_n (q := 3) E.x dX9_isSameFile_2 rfl rfl ?_
  refine rv_b1 (fun r2 e1 => ?_)
  refine rC_calliX9 (q := 6) E ⟨rfl, rfl⟩ (c9_sizeOf E.2.2.1 e1) gX9_66 hX9_sizeOf ⟨rfl, rfl⟩ ⟨Nat.le_of_ble_eq_true rfl, Nat.le_of_ble_eq_true rfl⟩ ⟨Nat.le_of_ble_eq_true rfl, Nat.le_of_ble_eq_true rfl⟩ rfl rfl rfl (Nat.le_of_ble_eq_true rfl) dX9_isSameFile_3 rfl ?_
  refine rv_istore (q := 8) (lv' := [_, _, _, _, _, _, _]) E.x dX9_isSameFile_6 (Nat.le_of_ble_eq_true rfl) rfl rfl rfl ?_
  refine rv_iload (q := 10) E.x dX9_isSameFile_8 rfl rfl ?_
  refine rv_aload_n (q := 11) E.x dX9_isSameFile_10 rfl rfl ?_
  refine rv_iload_n (q := 12) E.x dX9_isSameFile_11 rfl rfl ?_
  refine rv_iload_n (q := 13) E.x dX9_isSameFile_12 rfl rfl ?_
  refine rv_b1 (fun r4 e3 => ?_)
  refine rC_calliX9 (q := 16) E ⟨rfl, rfl⟩ (c9_sizeOf E.2.2.1 e3) gX9_66 hX9_sizeOf ⟨rfl, rfl⟩ ⟨Nat.le_of_ble_eq_true rfl, Nat.le_of_ble_eq_true rfl⟩ ⟨Nat.le_of_ble_eq_true rfl, Nat.le_of_ble_eq_true rfl⟩ rfl rfl rfl (Nat.le_of_ble_eq_true rfl) dX9_isSameFile_13 rfl ?_
  refine rv_icmp_ne (q := 19) (tgt := 23) E.x dX9_isSameFile_16 (by decide) rfl ?_ ?_
  · refine rv_iconst (q := 20) E.x dX9_isSameFile_19 rv_ki1 rfl ?_
    refine rv_goto (q := 24) E.x dX9_isSameFile_20 (by decide) ?_
    refine rv_wk [true, true, true, true, true, false, false] ?_
    exact b9_isSameFile_24 E M a1 a2 a3 r2 true
  · refine rv_iconst (q := 24) E.x dX9_isSameFile_23 rv_ki0 rfl ?_
    refine rv_wk [true, true, true, true, true, false, false] ?_
    exact b9_isSameFile_24 E M a1 a2 a3 r2 false
theorem c9_isSameFile {l : Launch} {D : va_G} {cI cZ cO : ClassId} {ad : Nat → Nat} {gh : rC_gh} {de : Nat} (hI : rC_I ad gh) {M : rv_Mem} {a1 : Int32} {a2 : Int32} {a3 : Int32} {r : Bool} (h : f9_isSameFile gh M a1 a2 a3 = some r) : Met l yX9_isSameFile (rv_ws yX9_isSameFile cX9_isSameFile 7 (some .boolean)) rm9_isSameFile (rC_Pc D cI cZ cO ad gh de [.ref (ad 1), .int a1, .int a2, .int a3] M) (rC_QI D cI cZ cO ad gh de (rv_i r) M) 0 0 (rC_K ad gh) := rC_met hI rfl (by decide) (Nat.le_of_ble_eq_true rfl) (fun p e s m args below meth c E => ⟨(rC_qZ D cI cZ cO ad gh de below args s M), rfl, b9_isSameFile E M a1 a2 a3⟩) h
abbrev rm3_isAlikeOneByOne : Room := { frames := 1, cells := 0, slots := 0, locals := 25 }
set_option maxRecDepth 100000 in
theorem b3_isAlikeOneByOne_19_s {p : Program} {l : Launch} {e : Env} {s : State} {m : MethodId} {args : Array Value} {below : List Frame} {meth : Method} {c : Code} {D : va_G} {cI cZ cO : ClassId} {ad : Nat → Nat} {gh : rC_gh} {de : Nat} (E : rC_E D cI cZ cO ad gh (rC_K ad gh) RX3 cX3_isAlikeOneByOne 4 (some .boolean) p s m args meth c) (M : rv_Mem)   (k19 : Nat → Nat → Bool → Int32 → Option (Bool)) (h19 : ∀ (x0 : Nat) (x1 : Nat) (x2 : Bool) (x3 : Int32), rv_M (rC_G D cI cZ cO ad gh de) (rC_K ad gh) p l e rm3_isAlikeOneByOne s m args below meth c 0 0 (rC_qZ D cI cZ cO ad gh de below args s M) (k19 x0 x1 x2 x3) 19 [some (.ref (ad x0)), some (.ref (ad x1)), some (.int (rv_i x2)), some (.int x3)] [] M) : ∀ (x0 : Nat) (x1 : Nat) (x2 : Bool) (x3 : Int32), rv_M (rC_G D cI cZ cO ad gh de) (rC_K ad gh) p l e rm3_isAlikeOneByOne s m args below meth c 0 0 (rC_qZ D cI cZ cO ad gh de below args s M) (f3_isAlikeOneByOne_19_s gh M k19 x0 x1 x2 x3) 19 [some (.ref (ad x0)), some (.ref (ad x1)), some (.int (rv_i x2)), some (.int x3)] [] M := by
  intro x0 x1 x2 x3
  unfold f3_isAlikeOneByOne_19_s
  refine rv_iload_n (q := 20) E.x dX3_isAlikeOneByOne_19 rfl rfl ?_
  refine rv_aload_n (q := 21) E.x dX3_isAlikeOneByOne_20 rfl rfl ?_
  refine rv_g (fun g1 => ?_)
  refine rC_getX3 (q := 24) E x0 10 wfX3_80 rfl (Nat.le_of_ble_eq_true rfl) (rC_at_of g1) rfl dX3_isAlikeOneByOne_21 rfl ?_
  refine rv_icmp_ge (q := 27) (tgt := 45) E.x dX3_isAlikeOneByOne_24 (by decide) rfl ?_ ?_
  · refine rv_iload_n (q := 28) E.x dX3_isAlikeOneByOne_27 rfl rfl ?_
    refine rv_ifz_eq (q := 31) (tgt := 45) E.x dX3_isAlikeOneByOne_28 (by decide) rfl ?_ ?_
    · refine rv_aload_n (q := 32) E.x dX3_isAlikeOneByOne_31 rfl rfl ?_
      refine rv_iload_n (q := 33) E.x dX3_isAlikeOneByOne_32 rfl rfl ?_
      refine rv_aload_n (q := 34) E.x dX3_isAlikeOneByOne_33 rfl rfl ?_
      refine rv_iload_n (q := 35) E.x dX3_isAlikeOneByOne_34 rfl rfl ?_
      refine rv_b1 (fun r3 e2 => ?_)
      refine rC_calliX3 (q := 38) E (rC_at_of g1) (c3_isAlike E.2.2.1 e2) gX3_83 hX3_isAlike ⟨rfl, rfl⟩ ⟨Nat.le_of_ble_eq_true rfl, Nat.le_of_ble_eq_true rfl⟩ ⟨Nat.le_of_ble_eq_true rfl, Nat.le_of_ble_eq_true rfl⟩ rfl rfl rfl (Nat.le_of_ble_eq_true rfl) dX3_isAlikeOneByOne_35 rfl ?_
      refine rv_istore_n (q := 39) (lv' := [_, _, _, _]) E.x dX3_isAlikeOneByOne_38 (Nat.le_of_ble_eq_true rfl) rfl rfl rfl ?_
      refine rv_iinc (q := 42) (lv' := [_, _, _, _]) E.x dX3_isAlikeOneByOne_39 rv_ki1 rfl rfl rfl rfl ?_
      refine rv_goto (q := 19) E.x dX3_isAlikeOneByOne_42 (by decide) ?_
      refine rv_wk [true, true, true, true] ?_
      exact h19 x0 x1 r3 (x3 + 1)
    · refine rv_iload_n (q := 46) E.x dX3_isAlikeOneByOne_45 rfl rfl ?_
      exact rC_zret E x2 rfl dX3_isAlikeOneByOne_46
  · refine rv_iload_n (q := 46) E.x dX3_isAlikeOneByOne_45 rfl rfl ?_
    exact rC_zret E x2 rfl dX3_isAlikeOneByOne_46
theorem b3_isAlikeOneByOne_19 {p : Program} {l : Launch} {e : Env} {s : State} {m : MethodId} {args : Array Value} {below : List Frame} {meth : Method} {c : Code} {D : va_G} {cI cZ cO : ClassId} {ad : Nat → Nat} {gh : rC_gh} {de : Nat} (E : rC_E D cI cZ cO ad gh (rC_K ad gh) RX3 cX3_isAlikeOneByOne 4 (some .boolean) p s m args meth c) (M : rv_Mem)   : ∀ (n : Nat), ∀ (x0 : Nat) (x1 : Nat) (x2 : Bool) (x3 : Int32), rv_M (rC_G D cI cZ cO ad gh de) (rC_K ad gh) p l e rm3_isAlikeOneByOne s m args below meth c 0 0 (rC_qZ D cI cZ cO ad gh de below args s M) (f3_isAlikeOneByOne_19 gh M n x0 x1 x2 x3) 19 [some (.ref (ad x0)), some (.ref (ad x1)), some (.int (rv_i x2)), some (.int x3)] [] M := by
  intro n
  induction n with
  | zero => exact fun _ _ _ _ => rv_stuck
  | succ n ih => exact b3_isAlikeOneByOne_19_s E M (f3_isAlikeOneByOne_19 gh M n) ih
set_option maxRecDepth 100000 in
theorem b3_isAlikeOneByOne_16 {p : Program} {l : Launch} {e : Env} {s : State} {m : MethodId} {args : Array Value} {below : List Frame} {meth : Method} {c : Code} {D : va_G} {cI cZ cO : ClassId} {ad : Nat → Nat} {gh : rC_gh} {de : Nat} (E : rC_E D cI cZ cO ad gh (rC_K ad gh) RX3 cX3_isAlikeOneByOne 4 (some .boolean) p s m args meth c) (M : rv_Mem)   : ∀ (x0 : Nat) (x1 : Nat) (s0 : Bool), rv_M (rC_G D cI cZ cO ad gh de) (rC_K ad gh) p l e rm3_isAlikeOneByOne s m args below meth c 0 0 (rC_qZ D cI cZ cO ad gh de below args s M) (f3_isAlikeOneByOne_16 gh M x0 x1 s0) 16 [some (.ref (ad x0)), some (.ref (ad x1)), none, none] [.int (rv_i s0)] M := by
  intro x0 x1 s0
  unfold f3_isAlikeOneByOne_16
  refine rv_istore_n (q := 17) (lv' := [_, _, _, _]) E.x dX3_isAlikeOneByOne_16 (Nat.le_of_ble_eq_true rfl) rfl rfl rfl ?_
  refine rv_iconst (q := 18) E.x dX3_isAlikeOneByOne_17 rv_ki0 rfl ?_
  refine rv_istore_n (q := 19) (lv' := [_, _, _, _]) E.x dX3_isAlikeOneByOne_18 (Nat.le_of_ble_eq_true rfl) rfl rfl rfl ?_
  refine rv_wk [true, true, true, true] ?_
  exact b3_isAlikeOneByOne_19 E M rv_FU x0 x1 s0 0
set_option maxRecDepth 100000 in
theorem b3_isAlikeOneByOne {p : Program} {l : Launch} {e : Env} {s : State} {m : MethodId} {args : Array Value} {below : List Frame} {meth : Method} {c : Code} {D : va_G} {cI cZ cO : ClassId} {ad : Nat → Nat} {gh : rC_gh} {de : Nat} (E : rC_E D cI cZ cO ad gh (rC_K ad gh) RX3 cX3_isAlikeOneByOne 4 (some .boolean) p s m args meth c) (M : rv_Mem) (a0 : Nat) (a1 : Nat) : rv_M (rC_G D cI cZ cO ad gh de) (rC_K ad gh) p l e rm3_isAlikeOneByOne s m args below meth c 0 0 (rC_qZ D cI cZ cO ad gh de below args s M) (f3_isAlikeOneByOne gh M a0 a1) 0 [some (.ref (ad a0)), some (.ref (ad a1)), none, none] [] M := by
  unfold f3_isAlikeOneByOne
  refine rv_aload_n (q := 1) E.x dX3_isAlikeOneByOne_0 rfl rfl ?_
  refine rv_g (fun g1 => ?_)
  refine rC_getX3 (q := 4) E a0 10 wfX3_80 rfl (Nat.le_of_ble_eq_true rfl) (rC_at_of g1) rfl dX3_isAlikeOneByOne_1 rfl ?_
  refine rv_aload_n (q := 5) E.x dX3_isAlikeOneByOne_4 rfl rfl ?_
  refine rv_g (fun g2 => ?_)
  refine rC_getX3 (q := 8) E a1 10 wfX3_80 rfl (Nat.le_of_ble_eq_true rfl) (rC_at_of g2) rfl dX3_isAlikeOneByOne_5 rfl ?_
  refine rv_icmp_ne (q := 11) (tgt := 15) E.x dX3_isAlikeOneByOne_8 (by decide) rfl ?_ ?_
  · refine rv_iconst (q := 12) E.x dX3_isAlikeOneByOne_11 rv_ki1 rfl ?_
    refine rv_goto (q := 16) E.x dX3_isAlikeOneByOne_12 (by decide) ?_
    refine rv_wk [true, true, false, false] ?_
    exact b3_isAlikeOneByOne_16 E M a0 a1 true
  · refine rv_iconst (q := 16) E.x dX3_isAlikeOneByOne_15 rv_ki0 rfl ?_
    refine rv_wk [true, true, false, false] ?_
    exact b3_isAlikeOneByOne_16 E M a0 a1 false
theorem c3_isAlikeOneByOne {l : Launch} {D : va_G} {cI cZ cO : ClassId} {ad : Nat → Nat} {gh : rC_gh} {de : Nat} (hI : rC_I ad gh) {M : rv_Mem} {a0 : Nat} {a1 : Nat} {r : Bool} (h : f3_isAlikeOneByOne gh M a0 a1 = some r) : Met l yX3_isAlikeOneByOne (rv_ws yX3_isAlikeOneByOne cX3_isAlikeOneByOne 4 (some .boolean)) rm3_isAlikeOneByOne (rC_Pc D cI cZ cO ad gh de [.ref (ad a0), .ref (ad a1)] M) (rC_QI D cI cZ cO ad gh de (rv_i r) M) 0 0 (rC_K ad gh) := rC_met hI rfl (by decide) (Nat.le_of_ble_eq_true rfl) (fun p e s m args below meth c E => ⟨(rC_qZ D cI cZ cO ad gh de below args s M), rfl, b3_isAlikeOneByOne E M a0 a1⟩) h
abbrev rm2_isChangedAlike : Room := { frames := 3, cells := 0, slots := 0, locals := 82 }
set_option maxRecDepth 100000 in
theorem b2_isChangedAlike {p : Program} {l : Launch} {e : Env} {s : State} {m : MethodId} {args : Array Value} {below : List Frame} {meth : Method} {c : Code} {D : va_G} {cI cZ cO : ClassId} {ad : Nat → Nat} {gh : rC_gh} {de : Nat} (E : rC_E D cI cZ cO ad gh (rC_K ad gh) RX2 cX2_isChangedAlike 4 (some .boolean) p s m args meth c) (M : rv_Mem) (a1 : Int32) (a2 : Int32) (a3 : Int32) : rv_M (rC_G D cI cZ cO ad gh de) (rC_K ad gh) p l e rm2_isChangedAlike s m args below meth c 0 0 (rC_qZW D cI cZ cO ad gh de below args s) (f2_isChangedAlike gh M a1 a2 a3) 0 [some (.ref (ad 2)), some (.int a1), some (.int a2), some (.int a3)] [] M := by
  unfold f2_isChangedAlike
  refine rv_aload_n (q := 1) E.x dX2_isChangedAlike_0 rfl rfl ?_
  refine rC_getX2 (q := 4) E 2 1 wfX2_12 rfl (Nat.le_of_ble_eq_true rfl) ⟨rfl, rfl⟩ rfl dX2_isChangedAlike_1 rfl ?_
  refine rv_aload_n (q := 5) E.x dX2_isChangedAlike_4 rfl rfl ?_
  refine rC_getX2 (q := 8) E 2 0 wfX2_25 rfl (Nat.le_of_ble_eq_true rfl) ⟨rfl, rfl⟩ rfl dX2_isChangedAlike_5 rfl ?_
  refine rv_aload_n (q := 9) E.x dX2_isChangedAlike_8 rfl rfl ?_
  refine rC_getX2 (q := 12) E 2 0 wfX2_25 rfl (Nat.le_of_ble_eq_true rfl) ⟨rfl, rfl⟩ rfl dX2_isChangedAlike_9 rfl ?_
  refine rv_iload_n (q := 13) E.x dX2_isChangedAlike_12 rfl rfl ?_
  refine rv_b1 (fun r2 e1 => ?_)
  refine rC_calliX9 (q := 16) E ⟨rfl, rfl⟩ (c9_baseOf E.2.2.1 e1) gX2_74 hX9_baseOf ⟨rfl, rfl⟩ ⟨Nat.le_of_ble_eq_true rfl, Nat.le_of_ble_eq_true rfl⟩ ⟨Nat.le_of_ble_eq_true rfl, Nat.le_of_ble_eq_true rfl⟩ rfl rfl rfl (Nat.le_of_ble_eq_true rfl) dX2_isChangedAlike_13 rfl ?_
  refine rv_iload_n (q := 17) E.x dX2_isChangedAlike_16 rfl rfl ?_
  refine rv_iload_n (q := 18) E.x dX2_isChangedAlike_17 rfl rfl ?_
  refine rv_iconst (q := 19) E.x dX2_isChangedAlike_18 rv_ki0 rfl ?_
  refine rv_b1 (fun M4 e3 => ?_)
  refine rC_callvX3 (q := 22) E ⟨rfl, rfl⟩ (c3_compare E.2.2.1 e3) gX2_29 hX3_compare ⟨rfl, rfl⟩ ⟨Nat.le_of_ble_eq_true rfl, Nat.le_of_ble_eq_true rfl⟩ ⟨Nat.le_of_ble_eq_true rfl, Nat.le_of_ble_eq_true rfl⟩ rfl rfl rfl (Nat.le_of_ble_eq_true rfl) dX2_isChangedAlike_19 rfl ?_
  refine rv_aload_n (q := 23) E.x dX2_isChangedAlike_22 rfl rfl ?_
  refine rC_getX2 (q := 26) E 2 2 wfX2_18 rfl (Nat.le_of_ble_eq_true rfl) ⟨rfl, rfl⟩ rfl dX2_isChangedAlike_23 rfl ?_
  refine rv_aload_n (q := 27) E.x dX2_isChangedAlike_26 rfl rfl ?_
  refine rC_getX2 (q := 30) E 2 0 wfX2_25 rfl (Nat.le_of_ble_eq_true rfl) ⟨rfl, rfl⟩ rfl dX2_isChangedAlike_27 rfl ?_
  refine rv_aload_n (q := 31) E.x dX2_isChangedAlike_30 rfl rfl ?_
  refine rC_getX2 (q := 34) E 2 0 wfX2_25 rfl (Nat.le_of_ble_eq_true rfl) ⟨rfl, rfl⟩ rfl dX2_isChangedAlike_31 rfl ?_
  refine rv_iload_n (q := 35) E.x dX2_isChangedAlike_34 rfl rfl ?_
  refine rv_b1 (fun r6 e5 => ?_)
  refine rC_calliX9 (q := 38) E ⟨rfl, rfl⟩ (c9_baseOf E.2.2.1 e5) gX2_74 hX9_baseOf ⟨rfl, rfl⟩ ⟨Nat.le_of_ble_eq_true rfl, Nat.le_of_ble_eq_true rfl⟩ ⟨Nat.le_of_ble_eq_true rfl, Nat.le_of_ble_eq_true rfl⟩ rfl rfl rfl (Nat.le_of_ble_eq_true rfl) dX2_isChangedAlike_35 rfl ?_
  refine rv_iload_n (q := 39) E.x dX2_isChangedAlike_38 rfl rfl ?_
  refine rv_iload_n (q := 40) E.x dX2_isChangedAlike_39 rfl rfl ?_
  refine rv_iconst (q := 41) E.x dX2_isChangedAlike_40 rv_ki0 rfl ?_
  refine rv_b1 (fun M8 e7 => ?_)
  refine rC_callvX3 (q := 44) E ⟨rfl, rfl⟩ (c3_compare E.2.2.1 e7) gX2_29 hX3_compare ⟨rfl, rfl⟩ ⟨Nat.le_of_ble_eq_true rfl, Nat.le_of_ble_eq_true rfl⟩ ⟨Nat.le_of_ble_eq_true rfl, Nat.le_of_ble_eq_true rfl⟩ rfl rfl rfl (Nat.le_of_ble_eq_true rfl) dX2_isChangedAlike_41 rfl ?_
  refine rv_aload_n (q := 45) E.x dX2_isChangedAlike_44 rfl rfl ?_
  refine rC_getX2 (q := 48) E 2 1 wfX2_12 rfl (Nat.le_of_ble_eq_true rfl) ⟨rfl, rfl⟩ rfl dX2_isChangedAlike_45 rfl ?_
  refine rv_aload_n (q := 49) E.x dX2_isChangedAlike_48 rfl rfl ?_
  refine rC_getX2 (q := 52) E 2 2 wfX2_18 rfl (Nat.le_of_ble_eq_true rfl) ⟨rfl, rfl⟩ rfl dX2_isChangedAlike_49 rfl ?_
  refine rv_b1 (fun r10 e9 => ?_)
  refine rC_calliX3 (q := 55) E ⟨rfl, rfl⟩ (c3_isAlikeOneByOne E.2.2.1 e9) gX2_84 hX3_isAlikeOneByOne ⟨rfl, rfl⟩ ⟨Nat.le_of_ble_eq_true rfl, Nat.le_of_ble_eq_true rfl⟩ ⟨Nat.le_of_ble_eq_true rfl, Nat.le_of_ble_eq_true rfl⟩ rfl rfl rfl (Nat.le_of_ble_eq_true rfl) dX2_isChangedAlike_52 rfl ?_
  exact rC_zret E r10 rfl dX2_isChangedAlike_55
theorem c2_isChangedAlike {l : Launch} {D : va_G} {cI cZ cO : ClassId} {ad : Nat → Nat} {gh : rC_gh} {de : Nat} (hI : rC_I ad gh) {M : rv_Mem} {a1 : Int32} {a2 : Int32} {a3 : Int32} {r : Bool} {M1 : rv_Mem} (h : f2_isChangedAlike gh M a1 a2 a3 = some (r, M1)) : Met l yX2_isChangedAlike (rv_ws yX2_isChangedAlike cX2_isChangedAlike 4 (some .boolean)) rm2_isChangedAlike (rC_Pc D cI cZ cO ad gh de [.ref (ad 2), .int a1, .int a2, .int a3] M) (rC_QI D cI cZ cO ad gh de (rv_i r) M1) 0 0 (rC_K ad gh) := rC_met hI rfl (by decide) (Nat.le_of_ble_eq_true rfl) (fun p e s m args below meth c E => ⟨(rC_qZW D cI cZ cO ad gh de below args s), rfl, b2_isChangedAlike E M a1 a2 a3⟩) h
abbrev rm2_kindBetween : Room := { frames := 4, cells := 0, slots := 0, locals := 105 }
set_option maxRecDepth 100000 in
theorem b2_kindBetween_60 {p : Program} {l : Launch} {e : Env} {s : State} {m : MethodId} {args : Array Value} {below : List Frame} {meth : Method} {c : Code} {D : va_G} {cI cZ cO : ClassId} {ad : Nat → Nat} {gh : rC_gh} {de : Nat} (E : rC_E D cI cZ cO ad gh (rC_K ad gh) RX2 cX2_kindBetween 6 (some .int) p s m args meth c) (k28 : rv_Mem → Int32 → Int32 → Bool → Int32 → Option (Int32 × rv_Mem)) (h28 : ∀ (M : rv_Mem) (x1 : Int32) (x2 : Int32) (x3 : Bool) (x4 : Int32), rv_M (rC_G D cI cZ cO ad gh de) (rC_K ad gh) p l e rm2_kindBetween s m args below meth c 0 0 (rC_qIW D cI cZ cO ad gh de below args s) (k28 M x1 x2 x3 x4) 28 [some (.ref (ad 2)), some (.int x1), some (.int x2), some (.int (rv_i x3)), some (.int x4), none] [] M) : ∀ (M : rv_Mem) (x1 : Int32) (x2 : Int32) (x3 : Bool) (x4 : Int32) (s0 : Bool), rv_M (rC_G D cI cZ cO ad gh de) (rC_K ad gh) p l e rm2_kindBetween s m args below meth c 0 0 (rC_qIW D cI cZ cO ad gh de below args s) (f2_kindBetween_60 gh k28 M x1 x2 x3 x4 s0) 60 [some (.ref (ad 2)), some (.int x1), some (.int x2), some (.int (rv_i x3)), some (.int x4), none] [.int (rv_i s0)] M := by
  intro M x1 x2 x3 x4 s0
  unfold f2_kindBetween_60
  refine rv_istore (q := 62) (lv' := [_, _, _, _, _, _]) E.x dX2_kindBetween_60 (Nat.le_of_ble_eq_true rfl) rfl rfl rfl ?_
  refine rv_iload (q := 64) E.x dX2_kindBetween_62 rfl rfl ?_
  refine rv_ifz_ne (q := 67) (tgt := 69) E.x dX2_kindBetween_64 (by decide) rfl ?_ ?_
  · refine rv_iconst (q := 68) E.x dX2_kindBetween_67 rv_ki0 rfl ?_
    exact rC_iret E rfl dX2_kindBetween_68
  · refine rv_iinc (q := 72) (lv' := [_, _, _, _, _, _]) E.x dX2_kindBetween_69 rv_ki1 rfl rfl rfl rfl ?_
    refine rv_goto (q := 28) E.x dX2_kindBetween_72 (by decide) ?_
    refine rv_wk [true, true, true, true, true, false] ?_
    exact h28 M x1 x2 x3 (x4 + 1)
set_option maxRecDepth 100000 in
theorem b2_kindBetween_28_s {p : Program} {l : Launch} {e : Env} {s : State} {m : MethodId} {args : Array Value} {below : List Frame} {meth : Method} {c : Code} {D : va_G} {cI cZ cO : ClassId} {ad : Nat → Nat} {gh : rC_gh} {de : Nat} (E : rC_E D cI cZ cO ad gh (rC_K ad gh) RX2 cX2_kindBetween 6 (some .int) p s m args meth c)   (k28 : rv_Mem → Int32 → Int32 → Bool → Int32 → Option (Int32 × rv_Mem)) (h28 : ∀ (M : rv_Mem) (x1 : Int32) (x2 : Int32) (x3 : Bool) (x4 : Int32), rv_M (rC_G D cI cZ cO ad gh de) (rC_K ad gh) p l e rm2_kindBetween s m args below meth c 0 0 (rC_qIW D cI cZ cO ad gh de below args s) (k28 M x1 x2 x3 x4) 28 [some (.ref (ad 2)), some (.int x1), some (.int x2), some (.int (rv_i x3)), some (.int x4), none] [] M) : ∀ (M : rv_Mem) (x1 : Int32) (x2 : Int32) (x3 : Bool) (x4 : Int32), rv_M (rC_G D cI cZ cO ad gh de) (rC_K ad gh) p l e rm2_kindBetween s m args below meth c 0 0 (rC_qIW D cI cZ cO ad gh de below args s) (f2_kindBetween_28_s gh k28 M x1 x2 x3 x4) 28 [some (.ref (ad 2)), some (.int x1), some (.int x2), some (.int (rv_i x3)), some (.int x4), none] [] M := by
  intro M x1 x2 x3 x4
  unfold f2_kindBetween_28_s
  refine rv_iload (q := 30) E.x dX2_kindBetween_28 rfl rfl ?_
  refine rv_iconst (q := 31) E.x dX2_kindBetween_30 rv_ki4 rfl ?_
  refine rv_icmp_ge (q := 34) (tgt := 75) E.x dX2_kindBetween_31 (by decide) rfl ?_ ?_
  · refine rv_iload_n (q := 35) E.x dX2_kindBetween_34 rfl rfl ?_
    refine rv_ifz_eq (q := 38) (tgt := 52) E.x dX2_kindBetween_35 (by decide) rfl ?_ ?_
    · refine rv_aload_n (q := 39) E.x dX2_kindBetween_38 rfl rfl ?_
      refine rC_getX2 (q := 42) E 2 0 wfX2_25 rfl (Nat.le_of_ble_eq_true rfl) ⟨rfl, rfl⟩ rfl dX2_kindBetween_39 rfl ?_
      refine rv_iload_n (q := 43) E.x dX2_kindBetween_42 rfl rfl ?_
      refine rv_iload_n (q := 44) E.x dX2_kindBetween_43 rfl rfl ?_
      refine rv_iload (q := 46) E.x dX2_kindBetween_44 rfl rfl ?_
      refine rv_b1 (fun r2 e1 => ?_)
      refine rC_calliX9 (q := 49) E ⟨rfl, rfl⟩ (c9_isSameFile E.2.2.1 e1) gX2_77 hX9_isSameFile ⟨rfl, rfl⟩ ⟨Nat.le_of_ble_eq_true rfl, Nat.le_of_ble_eq_true rfl⟩ ⟨Nat.le_of_ble_eq_true rfl, Nat.le_of_ble_eq_true rfl⟩ rfl rfl rfl (Nat.le_of_ble_eq_true rfl) dX2_kindBetween_46 rfl ?_
      refine rv_goto (q := 60) E.x dX2_kindBetween_49 (by decide) ?_
      refine rv_wk [true, true, true, true, true, false] ?_
      exact b2_kindBetween_60 E k28 h28 M x1 x2 x3 x4 r2
    · refine rv_aload_n (q := 53) E.x dX2_kindBetween_52 rfl rfl ?_
      refine rv_iload_n (q := 54) E.x dX2_kindBetween_53 rfl rfl ?_
      refine rv_iload_n (q := 55) E.x dX2_kindBetween_54 rfl rfl ?_
      refine rv_iload (q := 57) E.x dX2_kindBetween_55 rfl rfl ?_
      refine rv_b2 (fun r4 M5 e3 => ?_)
      refine rC_calliX2 (q := 60) E ⟨rfl, rfl⟩ (c2_isChangedAlike E.2.2.1 e3) gX2_81 hX2_isChangedAlike ⟨rfl, rfl⟩ ⟨Nat.le_of_ble_eq_true rfl, Nat.le_of_ble_eq_true rfl⟩ ⟨Nat.le_of_ble_eq_true rfl, Nat.le_of_ble_eq_true rfl⟩ rfl rfl rfl (Nat.le_of_ble_eq_true rfl) dX2_kindBetween_57 rfl ?_
      refine rv_wk [true, true, true, true, true, false] ?_
      exact b2_kindBetween_60 E k28 h28 M5 x1 x2 x3 x4 r4
  · refine rv_iload_n (q := 76) E.x dX2_kindBetween_75 rfl rfl ?_
    refine rv_ifz_eq (q := 79) (tgt := 83) E.x dX2_kindBetween_76 (by decide) rfl ?_ ?_
    · refine rv_iconst (q := 80) E.x dX2_kindBetween_79 rv_ki2 rfl ?_
      refine rv_goto (q := 84) E.x dX2_kindBetween_80 (by decide) ?_
      exact rC_iret E rfl dX2_kindBetween_84
    · refine rv_iconst (q := 84) E.x dX2_kindBetween_83 rv_ki1 rfl ?_
      exact rC_iret E rfl dX2_kindBetween_84
theorem b2_kindBetween_28 {p : Program} {l : Launch} {e : Env} {s : State} {m : MethodId} {args : Array Value} {below : List Frame} {meth : Method} {c : Code} {D : va_G} {cI cZ cO : ClassId} {ad : Nat → Nat} {gh : rC_gh} {de : Nat} (E : rC_E D cI cZ cO ad gh (rC_K ad gh) RX2 cX2_kindBetween 6 (some .int) p s m args meth c)   : ∀ (n : Nat), ∀ (M : rv_Mem) (x1 : Int32) (x2 : Int32) (x3 : Bool) (x4 : Int32), rv_M (rC_G D cI cZ cO ad gh de) (rC_K ad gh) p l e rm2_kindBetween s m args below meth c 0 0 (rC_qIW D cI cZ cO ad gh de below args s) (f2_kindBetween_28 gh n M x1 x2 x3 x4) 28 [some (.ref (ad 2)), some (.int x1), some (.int x2), some (.int (rv_i x3)), some (.int x4), none] [] M := by
  intro n
  induction n with
  | zero => exact fun _ _ _ _ _ => rv_stuck
  | succ n ih => exact b2_kindBetween_28_s E  (f2_kindBetween_28 gh n) ih
set_option maxRecDepth 100000 in
theorem b2_kindBetween_24 {p : Program} {l : Launch} {e : Env} {s : State} {m : MethodId} {args : Array Value} {below : List Frame} {meth : Method} {c : Code} {D : va_G} {cI cZ cO : ClassId} {ad : Nat → Nat} {gh : rC_gh} {de : Nat} (E : rC_E D cI cZ cO ad gh (rC_K ad gh) RX2 cX2_kindBetween 6 (some .int) p s m args meth c)   : ∀ (M : rv_Mem) (x1 : Int32) (x2 : Int32) (s0 : Bool), rv_M (rC_G D cI cZ cO ad gh de) (rC_K ad gh) p l e rm2_kindBetween s m args below meth c 0 0 (rC_qIW D cI cZ cO ad gh de below args s) (f2_kindBetween_24 gh M x1 x2 s0) 24 [some (.ref (ad 2)), some (.int x1), some (.int x2), none, none, none] [.int (rv_i s0)] M := by
  intro M x1 x2 s0
  unfold f2_kindBetween_24
  refine rv_istore_n (q := 25) (lv' := [_, _, _, _, _, _]) E.x dX2_kindBetween_24 (Nat.le_of_ble_eq_true rfl) rfl rfl rfl ?_
  refine rv_iconst (q := 26) E.x dX2_kindBetween_25 rv_ki0 rfl ?_
  refine rv_istore (q := 28) (lv' := [_, _, _, _, _, _]) E.x dX2_kindBetween_26 (Nat.le_of_ble_eq_true rfl) rfl rfl rfl ?_
  refine rv_wk [true, true, true, true, true, false] ?_
  exact b2_kindBetween_28 E rv_FU M x1 x2 s0 0
set_option maxRecDepth 100000 in
theorem b2_kindBetween {p : Program} {l : Launch} {e : Env} {s : State} {m : MethodId} {args : Array Value} {below : List Frame} {meth : Method} {c : Code} {D : va_G} {cI cZ cO : ClassId} {ad : Nat → Nat} {gh : rC_gh} {de : Nat} (E : rC_E D cI cZ cO ad gh (rC_K ad gh) RX2 cX2_kindBetween 6 (some .int) p s m args meth c) (M : rv_Mem) (a1 : Int32) (a2 : Int32) : rv_M (rC_G D cI cZ cO ad gh de) (rC_K ad gh) p l e rm2_kindBetween s m args below meth c 0 0 (rC_qIW D cI cZ cO ad gh de below args s) (f2_kindBetween gh M a1 a2) 0 [some (.ref (ad 2)), some (.int a1), some (.int a2), none, none, none] [] M := by
  unfold f2_kindBetween
  refine rv_aload_n (q := 1) E.x dX2_kindBetween_0 rfl rfl ?_
  refine rC_getX2 (q := 4) E 2 0 wfX2_25 rfl (Nat.le_of_ble_eq_true rfl) ⟨rfl, rfl⟩ rfl dX2_kindBetween_1 rfl ?_
  refine rv_iload_n (q := 5) E.x dX2_kindBetween_4 rfl rfl ?_
  refine rv_b1 (fun r2 e1 => ?_)
  refine rC_calliX9 (q := 8) E ⟨rfl, rfl⟩ (c9_baseOf E.2.2.1 e1) gX2_74 hX9_baseOf ⟨rfl, rfl⟩ ⟨Nat.le_of_ble_eq_true rfl, Nat.le_of_ble_eq_true rfl⟩ ⟨Nat.le_of_ble_eq_true rfl, Nat.le_of_ble_eq_true rfl⟩ rfl rfl rfl (Nat.le_of_ble_eq_true rfl) dX2_kindBetween_5 rfl ?_
  refine rv_aload_n (q := 9) E.x dX2_kindBetween_8 rfl rfl ?_
  refine rC_getX2 (q := 12) E 2 0 wfX2_25 rfl (Nat.le_of_ble_eq_true rfl) ⟨rfl, rfl⟩ rfl dX2_kindBetween_9 rfl ?_
  refine rv_iload_n (q := 13) E.x dX2_kindBetween_12 rfl rfl ?_
  refine rv_b1 (fun r4 e3 => ?_)
  refine rC_calliX9 (q := 16) E ⟨rfl, rfl⟩ (c9_baseOf E.2.2.1 e3) gX2_74 hX9_baseOf ⟨rfl, rfl⟩ ⟨Nat.le_of_ble_eq_true rfl, Nat.le_of_ble_eq_true rfl⟩ ⟨Nat.le_of_ble_eq_true rfl, Nat.le_of_ble_eq_true rfl⟩ rfl rfl rfl (Nat.le_of_ble_eq_true rfl) dX2_kindBetween_13 rfl ?_
  refine rv_icmp_ne (q := 19) (tgt := 23) E.x dX2_kindBetween_16 (by decide) rfl ?_ ?_
  · refine rv_iconst (q := 20) E.x dX2_kindBetween_19 rv_ki1 rfl ?_
    refine rv_goto (q := 24) E.x dX2_kindBetween_20 (by decide) ?_
    refine rv_wk [true, true, true, false, false, false] ?_
    exact b2_kindBetween_24 E M a1 a2 true
  · refine rv_iconst (q := 24) E.x dX2_kindBetween_23 rv_ki0 rfl ?_
    refine rv_wk [true, true, true, false, false, false] ?_
    exact b2_kindBetween_24 E M a1 a2 false
theorem c2_kindBetween {l : Launch} {D : va_G} {cI cZ cO : ClassId} {ad : Nat → Nat} {gh : rC_gh} {de : Nat} (hI : rC_I ad gh) {M : rv_Mem} {a1 : Int32} {a2 : Int32} {r : Int32} {M1 : rv_Mem} (h : f2_kindBetween gh M a1 a2 = some (r, M1)) : Met l yX2_kindBetween (rv_ws yX2_kindBetween cX2_kindBetween 6 (some .int)) rm2_kindBetween (rC_Pc D cI cZ cO ad gh de [.ref (ad 2), .int a1, .int a2] M) (rC_QI D cI cZ cO ad gh de r M1) 0 0 (rC_K ad gh) := rC_met hI rfl (by decide) (Nat.le_of_ble_eq_true rfl) (fun p e s m args below meth c E => ⟨(rC_qIW D cI cZ cO ad gh de below args s), rfl, b2_kindBetween E M a1 a2⟩) h
abbrev rm3_hasAlike : Room := { frames := 1, cells := 0, slots := 0, locals := 25 }
set_option maxRecDepth 100000 in
theorem b3_hasAlike_2_s {p : Program} {l : Launch} {e : Env} {s : State} {m : MethodId} {args : Array Value} {below : List Frame} {meth : Method} {c : Code} {D : va_G} {cI cZ cO : ClassId} {ad : Nat → Nat} {gh : rC_gh} {de : Nat} (E : rC_E D cI cZ cO ad gh (rC_K ad gh) RX3 cX3_hasAlike 4 (some .boolean) p s m args meth c) (M : rv_Mem)   (k2 : Nat → Nat → Int32 → Int32 → Option (Bool)) (h2 : ∀ (x0 : Nat) (x1 : Nat) (x2 : Int32) (x3 : Int32), rv_M (rC_G D cI cZ cO ad gh de) (rC_K ad gh) p l e rm3_hasAlike s m args below meth c 0 0 (rC_qZ D cI cZ cO ad gh de below args s M) (k2 x0 x1 x2 x3) 2 [some (.ref (ad x0)), some (.ref (ad x1)), some (.int x2), some (.int x3)] [] M) : ∀ (x0 : Nat) (x1 : Nat) (x2 : Int32) (x3 : Int32), rv_M (rC_G D cI cZ cO ad gh de) (rC_K ad gh) p l e rm3_hasAlike s m args below meth c 0 0 (rC_qZ D cI cZ cO ad gh de below args s M) (f3_hasAlike_2_s gh M k2 x0 x1 x2 x3) 2 [some (.ref (ad x0)), some (.ref (ad x1)), some (.int x2), some (.int x3)] [] M := by
  intro x0 x1 x2 x3
  unfold f3_hasAlike_2_s
  refine rv_iload_n (q := 3) E.x dX3_hasAlike_2 rfl rfl ?_
  refine rv_aload_n (q := 4) E.x dX3_hasAlike_3 rfl rfl ?_
  refine rv_g (fun g1 => ?_)
  refine rC_getX3 (q := 7) E x0 10 wfX3_80 rfl (Nat.le_of_ble_eq_true rfl) (rC_at_of g1) rfl dX3_hasAlike_4 rfl ?_
  refine rv_icmp_ge (q := 10) (tgt := 28) E.x dX3_hasAlike_7 (by decide) rfl ?_ ?_
  · refine rv_aload_n (q := 11) E.x dX3_hasAlike_10 rfl rfl ?_
    refine rv_iload_n (q := 12) E.x dX3_hasAlike_11 rfl rfl ?_
    refine rv_aload_n (q := 13) E.x dX3_hasAlike_12 rfl rfl ?_
    refine rv_iload_n (q := 14) E.x dX3_hasAlike_13 rfl rfl ?_
    refine rv_b1 (fun r3 e2 => ?_)
    refine rC_calliX3 (q := 17) E (rC_at_of g1) (c3_isAlike E.2.2.1 e2) gX3_83 hX3_isAlike ⟨rfl, rfl⟩ ⟨Nat.le_of_ble_eq_true rfl, Nat.le_of_ble_eq_true rfl⟩ ⟨Nat.le_of_ble_eq_true rfl, Nat.le_of_ble_eq_true rfl⟩ rfl rfl rfl (Nat.le_of_ble_eq_true rfl) dX3_hasAlike_14 rfl ?_
    refine rv_ifz_eq (q := 20) (tgt := 22) E.x dX3_hasAlike_17 (by decide) rfl ?_ ?_
    · refine rv_iconst (q := 21) E.x dX3_hasAlike_20 rv_ki1 rfl ?_
      exact rC_zret E true rfl dX3_hasAlike_21
    · refine rv_iinc (q := 25) (lv' := [_, _, _, _]) E.x dX3_hasAlike_22 rv_ki1 rfl rfl rfl rfl ?_
      refine rv_goto (q := 2) E.x dX3_hasAlike_25 (by decide) ?_
      refine rv_wk [true, true, true, true] ?_
      exact h2 x0 x1 x2 (x3 + 1)
  · refine rv_iconst (q := 29) E.x dX3_hasAlike_28 rv_ki0 rfl ?_
    exact rC_zret E false rfl dX3_hasAlike_29
theorem b3_hasAlike_2 {p : Program} {l : Launch} {e : Env} {s : State} {m : MethodId} {args : Array Value} {below : List Frame} {meth : Method} {c : Code} {D : va_G} {cI cZ cO : ClassId} {ad : Nat → Nat} {gh : rC_gh} {de : Nat} (E : rC_E D cI cZ cO ad gh (rC_K ad gh) RX3 cX3_hasAlike 4 (some .boolean) p s m args meth c) (M : rv_Mem)   : ∀ (n : Nat), ∀ (x0 : Nat) (x1 : Nat) (x2 : Int32) (x3 : Int32), rv_M (rC_G D cI cZ cO ad gh de) (rC_K ad gh) p l e rm3_hasAlike s m args below meth c 0 0 (rC_qZ D cI cZ cO ad gh de below args s M) (f3_hasAlike_2 gh M n x0 x1 x2 x3) 2 [some (.ref (ad x0)), some (.ref (ad x1)), some (.int x2), some (.int x3)] [] M := by
  intro n
  induction n with
  | zero => exact fun _ _ _ _ => rv_stuck
  | succ n ih => exact b3_hasAlike_2_s E M (f3_hasAlike_2 gh M n) ih
set_option maxRecDepth 100000 in
theorem b3_hasAlike {p : Program} {l : Launch} {e : Env} {s : State} {m : MethodId} {args : Array Value} {below : List Frame} {meth : Method} {c : Code} {D : va_G} {cI cZ cO : ClassId} {ad : Nat → Nat} {gh : rC_gh} {de : Nat} (E : rC_E D cI cZ cO ad gh (rC_K ad gh) RX3 cX3_hasAlike 4 (some .boolean) p s m args meth c) (M : rv_Mem) (a0 : Nat) (a1 : Nat) (a2 : Int32) : rv_M (rC_G D cI cZ cO ad gh de) (rC_K ad gh) p l e rm3_hasAlike s m args below meth c 0 0 (rC_qZ D cI cZ cO ad gh de below args s M) (f3_hasAlike gh M a0 a1 a2) 0 [some (.ref (ad a0)), some (.ref (ad a1)), some (.int a2), none] [] M := by
  unfold f3_hasAlike
  refine rv_iconst (q := 1) E.x dX3_hasAlike_0 rv_ki0 rfl ?_
  refine rv_istore_n (q := 2) (lv' := [_, _, _, _]) E.x dX3_hasAlike_1 (Nat.le_of_ble_eq_true rfl) rfl rfl rfl ?_
  refine rv_wk [true, true, true, true] ?_
  exact b3_hasAlike_2 E M rv_FU a0 a1 a2 0
theorem c3_hasAlike {l : Launch} {D : va_G} {cI cZ cO : ClassId} {ad : Nat → Nat} {gh : rC_gh} {de : Nat} (hI : rC_I ad gh) {M : rv_Mem} {a0 : Nat} {a1 : Nat} {a2 : Int32} {r : Bool} (h : f3_hasAlike gh M a0 a1 a2 = some r) : Met l yX3_hasAlike (rv_ws yX3_hasAlike cX3_hasAlike 4 (some .boolean)) rm3_hasAlike (rC_Pc D cI cZ cO ad gh de [.ref (ad a0), .ref (ad a1), .int a2] M) (rC_QI D cI cZ cO ad gh de (rv_i r) M) 0 0 (rC_K ad gh) := rC_met hI rfl (by decide) (Nat.le_of_ble_eq_true rfl) (fun p e s m args below meth c E => ⟨(rC_qZ D cI cZ cO ad gh de below args s M), rfl, b3_hasAlike E M a0 a1 a2⟩) h
abbrev rm2_findLeft : Room := { frames := 3, cells := 0, slots := 0, locals := 82 }
set_option maxRecDepth 100000 in
theorem b2_findLeft_92 {p : Program} {l : Launch} {e : Env} {s : State} {m : MethodId} {args : Array Value} {below : List Frame} {meth : Method} {c : Code} {D : va_G} {cI cZ cO : ClassId} {ad : Nat → Nat} {gh : rC_gh} {de : Nat} (E : rC_E D cI cZ cO ad gh (rC_K ad gh) RX2 cX2_findLeft 7 (some .int) p s m args meth c) (k52 : rv_Mem → Int32 → Int32 → Option (Int32 × rv_Mem)) (h52 : ∀ (M : rv_Mem) (x5 : Int32) (x6 : Int32), rv_M (rC_G D cI cZ cO ad gh de) (rC_K ad gh) p l e rm2_findLeft s m args below meth c 0 0 (rC_qIW D cI cZ cO ad gh de below args s) (k52 M x5 x6) 52 [some (.ref (ad 2)), none, none, none, none, some (.int x5), some (.int x6)] [] M) : ∀ (M : rv_Mem) (x5 : Int32) (x6 : Int32), rv_M (rC_G D cI cZ cO ad gh de) (rC_K ad gh) p l e rm2_findLeft s m args below meth c 0 0 (rC_qIW D cI cZ cO ad gh de below args s) (f2_findLeft_92 gh k52 M x5 x6) 92 [some (.ref (ad 2)), none, none, none, none, some (.int x5), some (.int x6)] [] M := by
  intro M x5 x6
  unfold f2_findLeft_92
  refine rv_iinc (q := 95) (lv' := [_, _, _, _, _, _, _]) E.x dX2_findLeft_92 rv_ki1 rfl rfl rfl rfl ?_
  refine rv_goto (q := 52) E.x dX2_findLeft_95 (by decide) ?_
  refine rv_wk [true, false, false, false, false, true, true] ?_
  exact h52 M x5 (x6 + 1)
set_option maxRecDepth 100000 in
theorem b2_findLeft_52_s {p : Program} {l : Launch} {e : Env} {s : State} {m : MethodId} {args : Array Value} {below : List Frame} {meth : Method} {c : Code} {D : va_G} {cI cZ cO : ClassId} {ad : Nat → Nat} {gh : rC_gh} {de : Nat} (E : rC_E D cI cZ cO ad gh (rC_K ad gh) RX2 cX2_findLeft 7 (some .int) p s m args meth c)   (k52 : rv_Mem → Int32 → Int32 → Option (Int32 × rv_Mem)) (h52 : ∀ (M : rv_Mem) (x5 : Int32) (x6 : Int32), rv_M (rC_G D cI cZ cO ad gh de) (rC_K ad gh) p l e rm2_findLeft s m args below meth c 0 0 (rC_qIW D cI cZ cO ad gh de below args s) (k52 M x5 x6) 52 [some (.ref (ad 2)), none, none, none, none, some (.int x5), some (.int x6)] [] M) : ∀ (M : rv_Mem) (x5 : Int32) (x6 : Int32), rv_M (rC_G D cI cZ cO ad gh de) (rC_K ad gh) p l e rm2_findLeft s m args below meth c 0 0 (rC_qIW D cI cZ cO ad gh de below args s) (f2_findLeft_52_s gh k52 M x5 x6) 52 [some (.ref (ad 2)), none, none, none, none, some (.int x5), some (.int x6)] [] M := by
  intro M x5 x6
  unfold f2_findLeft_52_s
  refine rv_iload (q := 54) E.x dX2_findLeft_52 rfl rfl ?_
  refine rv_aload_n (q := 55) E.x dX2_findLeft_54 rfl rfl ?_
  refine rC_getX2 (q := 58) E 2 1 wfX2_12 rfl (Nat.le_of_ble_eq_true rfl) ⟨rfl, rfl⟩ rfl dX2_findLeft_55 rfl ?_
  refine rC_getX3 (q := 61) E 7 10 wfX2_87 rfl (Nat.le_of_ble_eq_true rfl) ⟨rfl, rfl⟩ rfl dX2_findLeft_58 rfl ?_
  refine rv_icmp_ge (q := 64) (tgt := 98) E.x dX2_findLeft_61 (by decide) rfl ?_ ?_
  · refine rv_aload_n (q := 65) E.x dX2_findLeft_64 rfl rfl ?_
    refine rC_getX2 (q := 68) E 2 2 wfX2_18 rfl (Nat.le_of_ble_eq_true rfl) ⟨rfl, rfl⟩ rfl dX2_findLeft_65 rfl ?_
    refine rv_aload_n (q := 69) E.x dX2_findLeft_68 rfl rfl ?_
    refine rC_getX2 (q := 72) E 2 1 wfX2_12 rfl (Nat.le_of_ble_eq_true rfl) ⟨rfl, rfl⟩ rfl dX2_findLeft_69 rfl ?_
    refine rv_iload (q := 74) E.x dX2_findLeft_72 rfl rfl ?_
    refine rv_b1 (fun r2 e1 => ?_)
    refine rC_calliX3 (q := 77) E ⟨rfl, rfl⟩ (c3_hasAlike E.2.2.1 e1) gX2_90 hX3_hasAlike ⟨rfl, rfl⟩ ⟨Nat.le_of_ble_eq_true rfl, Nat.le_of_ble_eq_true rfl⟩ ⟨Nat.le_of_ble_eq_true rfl, Nat.le_of_ble_eq_true rfl⟩ rfl rfl rfl (Nat.le_of_ble_eq_true rfl) dX2_findLeft_74 rfl ?_
    refine rv_ifz_ne (q := 80) (tgt := 92) E.x dX2_findLeft_77 (by decide) rfl ?_ ?_
    · refine rv_aload_n (q := 81) E.x dX2_findLeft_80 rfl rfl ?_
      refine rC_getX2 (q := 84) E 2 3 wfX2_21 rfl (Nat.le_of_ble_eq_true rfl) ⟨rfl, rfl⟩ rfl dX2_findLeft_81 rfl ?_
      refine rv_iload (q := 86) E.x dX2_findLeft_84 rfl rfl ?_
      refine rv_iload (q := 88) E.x dX2_findLeft_86 rfl rfl ?_
      refine rC_iast (q := 89) (n := 11) E ⟨rfl, rfl, rfl⟩ dX2_findLeft_88 rfl ?_
      refine rv_ltm (fun M3 => ?_)
      refine rv_iinc (q := 92) (lv' := [_, _, _, _, _, _, _]) E.x dX2_findLeft_89 rv_ki1 rfl rfl rfl rfl ?_
      refine rv_wk [true, false, false, false, false, true, true] ?_
      exact b2_findLeft_92 E k52 h52 M3 (x5 + 1) x6
    · refine rv_wk [true, false, false, false, false, true, true] ?_
      exact b2_findLeft_92 E k52 h52 M x5 x6
  · refine rv_iload (q := 100) E.x dX2_findLeft_98 rfl rfl ?_
    exact rC_iret E rfl dX2_findLeft_100
theorem b2_findLeft_52 {p : Program} {l : Launch} {e : Env} {s : State} {m : MethodId} {args : Array Value} {below : List Frame} {meth : Method} {c : Code} {D : va_G} {cI cZ cO : ClassId} {ad : Nat → Nat} {gh : rC_gh} {de : Nat} (E : rC_E D cI cZ cO ad gh (rC_K ad gh) RX2 cX2_findLeft 7 (some .int) p s m args meth c)   : ∀ (n : Nat), ∀ (M : rv_Mem) (x5 : Int32) (x6 : Int32), rv_M (rC_G D cI cZ cO ad gh de) (rC_K ad gh) p l e rm2_findLeft s m args below meth c 0 0 (rC_qIW D cI cZ cO ad gh de below args s) (f2_findLeft_52 gh n M x5 x6) 52 [some (.ref (ad 2)), none, none, none, none, some (.int x5), some (.int x6)] [] M := by
  intro n
  induction n with
  | zero => exact fun _ _ _ => rv_stuck
  | succ n ih => exact b2_findLeft_52_s E  (f2_findLeft_52 gh n) ih
set_option maxRecDepth 100000 in
theorem b2_findLeft {p : Program} {l : Launch} {e : Env} {s : State} {m : MethodId} {args : Array Value} {below : List Frame} {meth : Method} {c : Code} {D : va_G} {cI cZ cO : ClassId} {ad : Nat → Nat} {gh : rC_gh} {de : Nat} (E : rC_E D cI cZ cO ad gh (rC_K ad gh) RX2 cX2_findLeft 7 (some .int) p s m args meth c) (M : rv_Mem) (a1 : Int32) (a2 : Int32) (a3 : Int32) (a4 : Bool) : rv_M (rC_G D cI cZ cO ad gh de) (rC_K ad gh) p l e rm2_findLeft s m args below meth c 0 0 (rC_qIW D cI cZ cO ad gh de below args s) (f2_findLeft gh M a1 a2 a3 a4) 0 [some (.ref (ad 2)), some (.int a1), some (.int a2), some (.int a3), some (.int (rv_i a4)), none, none] [] M := by
  unfold f2_findLeft
  refine rv_aload_n (q := 1) E.x dX2_findLeft_0 rfl rfl ?_
  refine rC_getX2 (q := 4) E 2 1 wfX2_12 rfl (Nat.le_of_ble_eq_true rfl) ⟨rfl, rfl⟩ rfl dX2_findLeft_1 rfl ?_
  refine rv_aload_n (q := 5) E.x dX2_findLeft_4 rfl rfl ?_
  refine rC_getX2 (q := 8) E 2 0 wfX2_25 rfl (Nat.le_of_ble_eq_true rfl) ⟨rfl, rfl⟩ rfl dX2_findLeft_5 rfl ?_
  refine rv_iload_n (q := 9) E.x dX2_findLeft_8 rfl rfl ?_
  refine rv_iload_n (q := 10) E.x dX2_findLeft_9 rfl rfl ?_
  refine rv_iload_n (q := 11) E.x dX2_findLeft_10 rfl rfl ?_
  refine rv_iload (q := 13) E.x dX2_findLeft_11 rfl rfl ?_
  refine rv_b1 (fun M2 e1 => ?_)
  refine rC_callvX3 (q := 16) E ⟨rfl, rfl⟩ (c3_compare E.2.2.1 e1) gX2_29 hX3_compare ⟨rfl, rfl⟩ ⟨Nat.le_of_ble_eq_true rfl, Nat.le_of_ble_eq_true rfl⟩ ⟨Nat.le_of_ble_eq_true rfl, Nat.le_of_ble_eq_true rfl⟩ rfl rfl rfl (Nat.le_of_ble_eq_true rfl) dX2_findLeft_13 rfl ?_
  refine rv_aload_n (q := 17) E.x dX2_findLeft_16 rfl rfl ?_
  refine rC_getX2 (q := 20) E 2 2 wfX2_18 rfl (Nat.le_of_ble_eq_true rfl) ⟨rfl, rfl⟩ rfl dX2_findLeft_17 rfl ?_
  refine rv_aload_n (q := 21) E.x dX2_findLeft_20 rfl rfl ?_
  refine rC_getX2 (q := 24) E 2 0 wfX2_25 rfl (Nat.le_of_ble_eq_true rfl) ⟨rfl, rfl⟩ rfl dX2_findLeft_21 rfl ?_
  refine rv_aload_n (q := 25) E.x dX2_findLeft_24 rfl rfl ?_
  refine rC_getX2 (q := 28) E 2 0 wfX2_25 rfl (Nat.le_of_ble_eq_true rfl) ⟨rfl, rfl⟩ rfl dX2_findLeft_25 rfl ?_
  refine rv_iload_n (q := 29) E.x dX2_findLeft_28 rfl rfl ?_
  refine rv_b1 (fun r4 e3 => ?_)
  refine rC_calliX9 (q := 32) E ⟨rfl, rfl⟩ (c9_baseOf E.2.2.1 e3) gX2_74 hX9_baseOf ⟨rfl, rfl⟩ ⟨Nat.le_of_ble_eq_true rfl, Nat.le_of_ble_eq_true rfl⟩ ⟨Nat.le_of_ble_eq_true rfl, Nat.le_of_ble_eq_true rfl⟩ rfl rfl rfl (Nat.le_of_ble_eq_true rfl) dX2_findLeft_29 rfl ?_
  refine rv_aload_n (q := 33) E.x dX2_findLeft_32 rfl rfl ?_
  refine rC_getX2 (q := 36) E 2 0 wfX2_25 rfl (Nat.le_of_ble_eq_true rfl) ⟨rfl, rfl⟩ rfl dX2_findLeft_33 rfl ?_
  refine rv_iload_n (q := 37) E.x dX2_findLeft_36 rfl rfl ?_
  refine rv_b1 (fun r6 e5 => ?_)
  refine rC_calliX9 (q := 40) E ⟨rfl, rfl⟩ (c9_baseOf E.2.2.1 e5) gX2_74 hX9_baseOf ⟨rfl, rfl⟩ ⟨Nat.le_of_ble_eq_true rfl, Nat.le_of_ble_eq_true rfl⟩ ⟨Nat.le_of_ble_eq_true rfl, Nat.le_of_ble_eq_true rfl⟩ rfl rfl rfl (Nat.le_of_ble_eq_true rfl) dX2_findLeft_37 rfl ?_
  refine rv_iload_n (q := 41) E.x dX2_findLeft_40 rfl rfl ?_
  refine rv_iload (q := 43) E.x dX2_findLeft_41 rfl rfl ?_
  refine rv_b1 (fun M8 e7 => ?_)
  refine rC_callvX3 (q := 46) E ⟨rfl, rfl⟩ (c3_compare E.2.2.1 e7) gX2_29 hX3_compare ⟨rfl, rfl⟩ ⟨Nat.le_of_ble_eq_true rfl, Nat.le_of_ble_eq_true rfl⟩ ⟨Nat.le_of_ble_eq_true rfl, Nat.le_of_ble_eq_true rfl⟩ rfl rfl rfl (Nat.le_of_ble_eq_true rfl) dX2_findLeft_43 rfl ?_
  refine rv_iconst (q := 47) E.x dX2_findLeft_46 rv_ki0 rfl ?_
  refine rv_istore (q := 49) (lv' := [_, _, _, _, _, _, _]) E.x dX2_findLeft_47 (Nat.le_of_ble_eq_true rfl) rfl rfl rfl ?_
  refine rv_iconst (q := 50) E.x dX2_findLeft_49 rv_ki0 rfl ?_
  refine rv_istore (q := 52) (lv' := [_, _, _, _, _, _, _]) E.x dX2_findLeft_50 (Nat.le_of_ble_eq_true rfl) rfl rfl rfl ?_
  refine rv_wk [true, false, false, false, false, true, true] ?_
  exact b2_findLeft_52 E rv_FU M8 0 0
theorem c2_findLeft {l : Launch} {D : va_G} {cI cZ cO : ClassId} {ad : Nat → Nat} {gh : rC_gh} {de : Nat} (hI : rC_I ad gh) {M : rv_Mem} {a1 : Int32} {a2 : Int32} {a3 : Int32} {a4 : Bool} {r : Int32} {M1 : rv_Mem} (h : f2_findLeft gh M a1 a2 a3 a4 = some (r, M1)) : Met l yX2_findLeft (rv_ws yX2_findLeft cX2_findLeft 7 (some .int)) rm2_findLeft (rC_Pc D cI cZ cO ad gh de [.ref (ad 2), .int a1, .int a2, .int a3, .int (rv_i a4)] M) (rC_QI D cI cZ cO ad gh de r M1) 0 0 (rC_K ad gh) := rC_met hI rfl (by decide) (Nat.le_of_ble_eq_true rfl) (fun p e s m args below meth c E => ⟨(rC_qIW D cI cZ cO ad gh de below args s), rfl, b2_findLeft E M a1 a2 a3 a4⟩) h
abbrev rm2_tellLeft : Room := { frames := 1, cells := 0, slots := 0, locals := 21 }
set_option maxRecDepth 100000 in
theorem b2_tellLeft {p : Program} {l : Launch} {e : Env} {s : State} {m : MethodId} {args : Array Value} {below : List Frame} {meth : Method} {c : Code} {D : va_G} {cI cZ cO : ClassId} {ad : Nat → Nat} {gh : rC_gh} {de : Nat} (E : rC_E D cI cZ cO ad gh (rC_K ad gh) RX2 cX2_tellLeft 3 (some .int) p s m args meth c) (M : rv_Mem) (a1 : Int32) : rv_M (rC_G D cI cZ cO ad gh de) (rC_K ad gh) p l e rm2_tellLeft s m args below meth c 0 0 (rC_qI D cI cZ cO ad gh de below args s M) (f2_tellLeft gh M a1) 0 [some (.ref (ad 2)), some (.int a1), none] [] M := by
  unfold f2_tellLeft
  refine rv_aload_n (q := 1) E.x dX2_tellLeft_0 rfl rfl ?_
  refine rC_getX2 (q := 4) E 2 3 wfX2_21 rfl (Nat.le_of_ble_eq_true rfl) ⟨rfl, rfl⟩ rfl dX2_tellLeft_1 rfl ?_
  refine rv_iload_n (q := 5) E.x dX2_tellLeft_4 rfl rfl ?_
  refine rv_b1 (fun r2 e1 => ?_)
  refine rC_callsi (q := 8) E (c9_read E.2.2.1 e1) gX2_94 hX9_read ⟨rfl, rfl⟩ ⟨Nat.le_of_ble_eq_true rfl, Nat.le_of_ble_eq_true rfl⟩ ⟨Nat.le_of_ble_eq_true rfl, Nat.le_of_ble_eq_true rfl⟩ rfl rfl rfl (Nat.le_of_ble_eq_true rfl) dX2_tellLeft_5 rfl ?_
  refine rv_istore_n (q := 9) (lv' := [_, _, _]) E.x dX2_tellLeft_8 (Nat.le_of_ble_eq_true rfl) rfl rfl rfl ?_
  refine rv_iload_n (q := 10) E.x dX2_tellLeft_9 rfl rfl ?_
  refine rv_if_lt (q := 13) (tgt := 24) E.x dX2_tellLeft_10 (by decide) rfl ?_ ?_
  · refine rv_iload_n (q := 14) E.x dX2_tellLeft_13 rfl rfl ?_
    refine rv_aload_n (q := 15) E.x dX2_tellLeft_14 rfl rfl ?_
    refine rC_getX2 (q := 18) E 2 1 wfX2_12 rfl (Nat.le_of_ble_eq_true rfl) ⟨rfl, rfl⟩ rfl dX2_tellLeft_15 rfl ?_
    refine rC_getX3 (q := 21) E 7 10 wfX2_87 rfl (Nat.le_of_ble_eq_true rfl) ⟨rfl, rfl⟩ rfl dX2_tellLeft_18 rfl ?_
    refine rv_icmp_lt (q := 24) (tgt := 26) E.x dX2_tellLeft_21 (by decide) rfl ?_ ?_
    · refine rv_iconst (q := 25) E.x dX2_tellLeft_24 rv_kim1 rfl ?_
      exact rC_iret E rfl dX2_tellLeft_25
    · refine rC_ldc (q := 28) E (wkX2_98) dX2_tellLeft_26 rfl ?_
      refine rv_aload_n (q := 29) E.x dX2_tellLeft_28 rfl rfl ?_
      refine rC_getX2 (q := 32) E 2 1 wfX2_12 rfl (Nat.le_of_ble_eq_true rfl) ⟨rfl, rfl⟩ rfl dX2_tellLeft_29 rfl ?_
      refine rC_getX3 (q := 35) E 7 4 wfX2_99 rfl (Nat.le_of_ble_eq_true rfl) ⟨rfl, rfl⟩ rfl dX2_tellLeft_32 rfl ?_
      refine rv_iload_n (q := 36) E.x dX2_tellLeft_35 rfl rfl ?_
      refine rC_iald (q := 37) (n := 11) E ⟨rfl, rfl, rfl⟩ dX2_tellLeft_36 rfl ?_
      refine rv_imul (q := 38) E.x dX2_tellLeft_37 rfl ?_
      refine rv_sipush (q := 41) E.x dX2_tellLeft_38 rv_ks10000 rfl ?_
      refine rv_aload_n (q := 42) E.x dX2_tellLeft_41 rfl rfl ?_
      refine rC_getX2 (q := 45) E 2 1 wfX2_12 rfl (Nat.le_of_ble_eq_true rfl) ⟨rfl, rfl⟩ rfl dX2_tellLeft_42 rfl ?_
      refine rC_getX3 (q := 48) E 7 5 wfX2_55 rfl (Nat.le_of_ble_eq_true rfl) ⟨rfl, rfl⟩ rfl dX2_tellLeft_45 rfl ?_
      refine rv_iload_n (q := 49) E.x dX2_tellLeft_48 rfl rfl ?_
      refine rC_iald (q := 50) (n := 11) E ⟨rfl, rfl, rfl⟩ dX2_tellLeft_49 rfl ?_
      refine rv_imul (q := 51) E.x dX2_tellLeft_50 rfl ?_
      refine rv_iadd (q := 52) E.x dX2_tellLeft_51 rfl ?_
      refine rv_bipush (q := 54) E.x dX2_tellLeft_52 rv_kb100 rfl ?_
      refine rv_aload_n (q := 55) E.x dX2_tellLeft_54 rfl rfl ?_
      refine rC_getX2 (q := 58) E 2 1 wfX2_12 rfl (Nat.le_of_ble_eq_true rfl) ⟨rfl, rfl⟩ rfl dX2_tellLeft_55 rfl ?_
      refine rC_getX3 (q := 61) E 7 6 wfX2_64 rfl (Nat.le_of_ble_eq_true rfl) ⟨rfl, rfl⟩ rfl dX2_tellLeft_58 rfl ?_
      refine rv_iload_n (q := 62) E.x dX2_tellLeft_61 rfl rfl ?_
      refine rC_iald (q := 63) (n := 11) E ⟨rfl, rfl, rfl⟩ dX2_tellLeft_62 rfl ?_
      refine rv_imul (q := 64) E.x dX2_tellLeft_63 rfl ?_
      refine rv_iadd (q := 65) E.x dX2_tellLeft_64 rfl ?_
      refine rv_aload_n (q := 66) E.x dX2_tellLeft_65 rfl rfl ?_
      refine rC_getX2 (q := 69) E 2 1 wfX2_12 rfl (Nat.le_of_ble_eq_true rfl) ⟨rfl, rfl⟩ rfl dX2_tellLeft_66 rfl ?_
      refine rC_getX3 (q := 72) E 7 7 wfX2_58 rfl (Nat.le_of_ble_eq_true rfl) ⟨rfl, rfl⟩ rfl dX2_tellLeft_69 rfl ?_
      refine rv_iload_n (q := 73) E.x dX2_tellLeft_72 rfl rfl ?_
      refine rC_iald (q := 74) (n := 11) E ⟨rfl, rfl, rfl⟩ dX2_tellLeft_73 rfl ?_
      refine rv_iadd (q := 75) E.x dX2_tellLeft_74 rfl ?_
      exact rC_iret E rfl dX2_tellLeft_75
  · refine rv_iconst (q := 25) E.x dX2_tellLeft_24 rv_kim1 rfl ?_
    exact rC_iret E rfl dX2_tellLeft_25
theorem c2_tellLeft {l : Launch} {D : va_G} {cI cZ cO : ClassId} {ad : Nat → Nat} {gh : rC_gh} {de : Nat} (hI : rC_I ad gh) {M : rv_Mem} {a1 : Int32} {r : Int32} (h : f2_tellLeft gh M a1 = some r) : Met l yX2_tellLeft (rv_ws yX2_tellLeft cX2_tellLeft 3 (some .int)) rm2_tellLeft (rC_Pc D cI cZ cO ad gh de [.ref (ad 2), .int a1] M) (rC_QI D cI cZ cO ad gh de r M) 0 0 (rC_K ad gh) := rC_met hI rfl (by decide) (Nat.le_of_ble_eq_true rfl) (fun p e s m args below meth c E => ⟨(rC_qI D cI cZ cO ad gh de below args s M), rfl, b2_tellLeft E M a1⟩) h
abbrev rm11_isIn : Room := { frames := 0, cells := 0, slots := 0, locals := 0 }
set_option maxRecDepth 100000 in
theorem b11_isIn {p : Program} {l : Launch} {e : Env} {s : State} {m : MethodId} {args : Array Value} {below : List Frame} {meth : Method} {c : Code} (E : rP_E RX11 cX11_isIn 2 (some .boolean) p s m args meth c) (a1 : Int32) (a2 : Int32) : rv_M (fun (_ : Unit) _ => True) (fun _ => False) p l e rm11_isIn s m args below meth c 0 0 (rS_qZ below args s) (f11_isIn a1 a2) 0 [some (.int a1), some (.int a2)] [] () := by
  unfold f11_isIn
  refine rv_iload_n (q := 1) E.x dX11_isIn_0 rfl rfl ?_
  refine rv_iload_n (q := 2) E.x dX11_isIn_1 rfl rfl ?_
  refine rv_ishr (q := 3) E.x dX11_isIn_2 rfl ?_
  refine rv_iconst (q := 4) E.x dX11_isIn_3 rv_ki1 rfl ?_
  refine rv_iand (q := 5) E.x dX11_isIn_4 rfl ?_
  refine rv_iconst (q := 6) E.x dX11_isIn_5 rv_ki1 rfl ?_
  refine rv_icmp_ne (q := 9) (tgt := 13) E.x dX11_isIn_6 (by decide) rfl ?_ ?_
  · refine rv_iconst (q := 10) E.x dX11_isIn_9 rv_ki1 rfl ?_
    refine rv_goto (q := 14) E.x dX11_isIn_10 (by decide) ?_
    exact rP_szret E true rfl dX11_isIn_14
  · refine rv_iconst (q := 14) E.x dX11_isIn_13 rv_ki0 rfl ?_
    exact rP_szret E false rfl dX11_isIn_14
theorem c11_isIn {l : Launch} {a1 : Int32} {a2 : Int32} {r : Bool} (h : f11_isIn a1 a2 = some r) : Met l yX11_isIn (rv_ws yX11_isIn cX11_isIn 2 (some .boolean)) rm11_isIn (va_Pc [.int a1, .int a2] (fun _ => True)) (rR_SQ (rv_i r)) 0 0 (fun _ => False) := rP_mets rfl (by decide) (rv_cat rfl) (Nat.le_of_ble_eq_true rfl) (fun p e s m args below meth c E => ⟨rS_qZ below args s, rfl, b11_isIn E a1 a2⟩) h
abbrev rm2_follow : Room := { frames := 3, cells := 0, slots := 0, locals := 82 }
set_option maxRecDepth 100000 in
theorem b2_follow_74 {p : Program} {l : Launch} {e : Env} {s : State} {m : MethodId} {args : Array Value} {below : List Frame} {meth : Method} {c : Code} {D : va_G} {cI cZ cO : ClassId} {ad : Nat → Nat} {gh : rC_gh} {de : Nat} (E : rC_E D cI cZ cO ad gh (rC_K ad gh) RX2 cX2_follow 7 (some .int) p s m args meth c) (k22 : rv_Mem → Int32 → Int32 → Int32 → Option (Int32 × rv_Mem)) (h22 : ∀ (M : rv_Mem) (x1 : Int32) (x5 : Int32) (x6 : Int32), rv_M (rC_G D cI cZ cO ad gh de) (rC_K ad gh) p l e rm2_follow s m args below meth c 0 0 (rC_qIW D cI cZ cO ad gh de below args s) (k22 M x1 x5 x6) 22 [some (.ref (ad 2)), some (.int x1), none, none, none, some (.int x5), some (.int x6)] [] M) : ∀ (M : rv_Mem) (x1 : Int32) (x5 : Int32) (x6 : Int32), rv_M (rC_G D cI cZ cO ad gh de) (rC_K ad gh) p l e rm2_follow s m args below meth c 0 0 (rC_qIW D cI cZ cO ad gh de below args s) (f2_follow_74 gh k22 M x1 x5 x6) 74 [some (.ref (ad 2)), some (.int x1), none, none, none, some (.int x5), some (.int x6)] [] M := by
  intro M x1 x5 x6
  unfold f2_follow_74
  refine rv_iinc (q := 77) (lv' := [_, _, _, _, _, _, _]) E.x dX2_follow_74 rv_ki1 rfl rfl rfl rfl ?_
  refine rv_goto (q := 22) E.x dX2_follow_77 (by decide) ?_
  refine rv_wk [true, true, false, false, false, true, true] ?_
  exact h22 M x1 x5 (x6 + 1)
set_option maxRecDepth 100000 in
theorem b2_follow_22_s {p : Program} {l : Launch} {e : Env} {s : State} {m : MethodId} {args : Array Value} {below : List Frame} {meth : Method} {c : Code} {D : va_G} {cI cZ cO : ClassId} {ad : Nat → Nat} {gh : rC_gh} {de : Nat} (E : rC_E D cI cZ cO ad gh (rC_K ad gh) RX2 cX2_follow 7 (some .int) p s m args meth c)   (k22 : rv_Mem → Int32 → Int32 → Int32 → Option (Int32 × rv_Mem)) (h22 : ∀ (M : rv_Mem) (x1 : Int32) (x5 : Int32) (x6 : Int32), rv_M (rC_G D cI cZ cO ad gh de) (rC_K ad gh) p l e rm2_follow s m args below meth c 0 0 (rC_qIW D cI cZ cO ad gh de below args s) (k22 M x1 x5 x6) 22 [some (.ref (ad 2)), some (.int x1), none, none, none, some (.int x5), some (.int x6)] [] M) : ∀ (M : rv_Mem) (x1 : Int32) (x5 : Int32) (x6 : Int32), rv_M (rC_G D cI cZ cO ad gh de) (rC_K ad gh) p l e rm2_follow s m args below meth c 0 0 (rC_qIW D cI cZ cO ad gh de below args s) (f2_follow_22_s gh k22 M x1 x5 x6) 22 [some (.ref (ad 2)), some (.int x1), none, none, none, some (.int x5), some (.int x6)] [] M := by
  intro M x1 x5 x6
  unfold f2_follow_22_s
  refine rv_iload (q := 24) E.x dX2_follow_22 rfl rfl ?_
  refine rv_aload_n (q := 25) E.x dX2_follow_24 rfl rfl ?_
  refine rC_getX2 (q := 28) E 2 1 wfX2_12 rfl (Nat.le_of_ble_eq_true rfl) ⟨rfl, rfl⟩ rfl dX2_follow_25 rfl ?_
  refine rC_getX3 (q := 31) E 7 8 wfX2_47 rfl (Nat.le_of_ble_eq_true rfl) ⟨rfl, rfl⟩ rfl dX2_follow_28 rfl ?_
  refine rv_icmp_ge (q := 34) (tgt := 80) E.x dX2_follow_31 (by decide) rfl ?_ ?_
  · refine rv_iload_n (q := 35) E.x dX2_follow_34 rfl rfl ?_
    refine rv_iload (q := 37) E.x dX2_follow_35 rfl rfl ?_
    refine rv_b1 (fun r2 e1 => ?_)
    refine rC_calln (q := 40) E (c11_isIn e1) gX2_102 E.2.2.2.2.2.2.1 wsgX2_102 wi_ReviewForge hX11_isIn ⟨rfl, rfl⟩ ⟨Nat.le_of_ble_eq_true rfl, Nat.le_of_ble_eq_true rfl⟩ ⟨Nat.le_of_ble_eq_true rfl, Nat.le_of_ble_eq_true rfl⟩ rfl rfl rfl (Nat.le_of_ble_eq_true rfl) dX2_follow_37 rfl ?_
    refine rv_ifz_eq (q := 43) (tgt := 74) E.x dX2_follow_40 (by decide) rfl ?_ ?_
    · refine rv_aload_n (q := 44) E.x dX2_follow_43 rfl rfl ?_
      refine rC_getX2 (q := 47) E 2 1 wfX2_12 rfl (Nat.le_of_ble_eq_true rfl) ⟨rfl, rfl⟩ rfl dX2_follow_44 rfl ?_
      refine rC_getX3 (q := 50) E 7 3 wfX2_105 rfl (Nat.le_of_ble_eq_true rfl) ⟨rfl, rfl⟩ rfl dX2_follow_47 rfl ?_
      refine rv_iload (q := 52) E.x dX2_follow_50 rfl rfl ?_
      refine rC_iald (q := 53) (n := 10) E ⟨rfl, rfl, rfl⟩ dX2_follow_52 rfl ?_
      refine rv_iconst (q := 54) E.x dX2_follow_53 rv_kim1 rfl ?_
      refine rv_icmp_eq (q := 57) (tgt := 74) E.x dX2_follow_54 (by decide) rfl ?_ ?_
      · refine rv_iload (q := 59) E.x dX2_follow_57 rfl rfl ?_
        refine rv_iconst (q := 60) E.x dX2_follow_59 rv_ki1 rfl ?_
        refine rv_aload_n (q := 61) E.x dX2_follow_60 rfl rfl ?_
        refine rC_getX2 (q := 64) E 2 1 wfX2_12 rfl (Nat.le_of_ble_eq_true rfl) ⟨rfl, rfl⟩ rfl dX2_follow_61 rfl ?_
        refine rC_getX3 (q := 67) E 7 3 wfX2_105 rfl (Nat.le_of_ble_eq_true rfl) ⟨rfl, rfl⟩ rfl dX2_follow_64 rfl ?_
        refine rv_iload (q := 69) E.x dX2_follow_67 rfl rfl ?_
        refine rC_iald (q := 70) (n := 10) E ⟨rfl, rfl, rfl⟩ dX2_follow_69 rfl ?_
        refine rv_ishl (q := 71) E.x dX2_follow_70 rfl ?_
        refine rv_ior (q := 72) E.x dX2_follow_71 rfl ?_
        refine rv_istore (q := 74) (lv' := [_, _, _, _, _, _, _]) E.x dX2_follow_72 (Nat.le_of_ble_eq_true rfl) rfl rfl rfl ?_
        refine rv_wk [true, true, false, false, false, true, true] ?_
        exact b2_follow_74 E k22 h22 M x1 (x5 ||| ((1 : Int32) <<< ((M 31 (x6).toNatClampNeg) &&& 31))) x6
      · refine rv_wk [true, true, false, false, false, true, true] ?_
        exact b2_follow_74 E k22 h22 M x1 x5 x6
    · refine rv_wk [true, true, false, false, false, true, true] ?_
      exact b2_follow_74 E k22 h22 M x1 x5 x6
  · refine rv_iload (q := 82) E.x dX2_follow_80 rfl rfl ?_
    exact rC_iret E rfl dX2_follow_82
theorem b2_follow_22 {p : Program} {l : Launch} {e : Env} {s : State} {m : MethodId} {args : Array Value} {below : List Frame} {meth : Method} {c : Code} {D : va_G} {cI cZ cO : ClassId} {ad : Nat → Nat} {gh : rC_gh} {de : Nat} (E : rC_E D cI cZ cO ad gh (rC_K ad gh) RX2 cX2_follow 7 (some .int) p s m args meth c)   : ∀ (n : Nat), ∀ (M : rv_Mem) (x1 : Int32) (x5 : Int32) (x6 : Int32), rv_M (rC_G D cI cZ cO ad gh de) (rC_K ad gh) p l e rm2_follow s m args below meth c 0 0 (rC_qIW D cI cZ cO ad gh de below args s) (f2_follow_22 gh n M x1 x5 x6) 22 [some (.ref (ad 2)), some (.int x1), none, none, none, some (.int x5), some (.int x6)] [] M := by
  intro n
  induction n with
  | zero => exact fun _ _ _ _ => rv_stuck
  | succ n ih => exact b2_follow_22_s E  (f2_follow_22 gh n) ih
set_option maxRecDepth 100000 in
theorem b2_follow {p : Program} {l : Launch} {e : Env} {s : State} {m : MethodId} {args : Array Value} {below : List Frame} {meth : Method} {c : Code} {D : va_G} {cI cZ cO : ClassId} {ad : Nat → Nat} {gh : rC_gh} {de : Nat} (E : rC_E D cI cZ cO ad gh (rC_K ad gh) RX2 cX2_follow 7 (some .int) p s m args meth c) (M : rv_Mem) (a1 : Int32) (a2 : Int32) (a3 : Int32) (a4 : Int32) : rv_M (rC_G D cI cZ cO ad gh de) (rC_K ad gh) p l e rm2_follow s m args below meth c 0 0 (rC_qIW D cI cZ cO ad gh de below args s) (f2_follow gh M a1 a2 a3 a4) 0 [some (.ref (ad 2)), some (.int a1), some (.int a2), some (.int a3), some (.int a4), none, none] [] M := by
  unfold f2_follow
  refine rv_aload_n (q := 1) E.x dX2_follow_0 rfl rfl ?_
  refine rC_getX2 (q := 4) E 2 1 wfX2_12 rfl (Nat.le_of_ble_eq_true rfl) ⟨rfl, rfl⟩ rfl dX2_follow_1 rfl ?_
  refine rv_aload_n (q := 5) E.x dX2_follow_4 rfl rfl ?_
  refine rC_getX2 (q := 8) E 2 0 wfX2_25 rfl (Nat.le_of_ble_eq_true rfl) ⟨rfl, rfl⟩ rfl dX2_follow_5 rfl ?_
  refine rv_iload_n (q := 9) E.x dX2_follow_8 rfl rfl ?_
  refine rv_iload_n (q := 10) E.x dX2_follow_9 rfl rfl ?_
  refine rv_iload (q := 12) E.x dX2_follow_10 rfl rfl ?_
  refine rv_iconst (q := 13) E.x dX2_follow_12 rv_ki0 rfl ?_
  refine rv_b1 (fun M2 e1 => ?_)
  refine rC_callvX3 (q := 16) E ⟨rfl, rfl⟩ (c3_compare E.2.2.1 e1) gX2_29 hX3_compare ⟨rfl, rfl⟩ ⟨Nat.le_of_ble_eq_true rfl, Nat.le_of_ble_eq_true rfl⟩ ⟨Nat.le_of_ble_eq_true rfl, Nat.le_of_ble_eq_true rfl⟩ rfl rfl rfl (Nat.le_of_ble_eq_true rfl) dX2_follow_13 rfl ?_
  refine rv_iconst (q := 17) E.x dX2_follow_16 rv_ki0 rfl ?_
  refine rv_istore (q := 19) (lv' := [_, _, _, _, _, _, _]) E.x dX2_follow_17 (Nat.le_of_ble_eq_true rfl) rfl rfl rfl ?_
  refine rv_iconst (q := 20) E.x dX2_follow_19 rv_ki0 rfl ?_
  refine rv_istore (q := 22) (lv' := [_, _, _, _, _, _, _]) E.x dX2_follow_20 (Nat.le_of_ble_eq_true rfl) rfl rfl rfl ?_
  refine rv_wk [true, true, false, false, false, true, true] ?_
  exact b2_follow_22 E rv_FU M2 a1 0 0
theorem c2_follow {l : Launch} {D : va_G} {cI cZ cO : ClassId} {ad : Nat → Nat} {gh : rC_gh} {de : Nat} (hI : rC_I ad gh) {M : rv_Mem} {a1 : Int32} {a2 : Int32} {a3 : Int32} {a4 : Int32} {r : Int32} {M1 : rv_Mem} (h : f2_follow gh M a1 a2 a3 a4 = some (r, M1)) : Met l yX2_follow (rv_ws yX2_follow cX2_follow 7 (some .int)) rm2_follow (rC_Pc D cI cZ cO ad gh de [.ref (ad 2), .int a1, .int a2, .int a3, .int a4] M) (rC_QI D cI cZ cO ad gh de r M1) 0 0 (rC_K ad gh) := rC_met hI rfl (by decide) (Nat.le_of_ble_eq_true rfl) (fun p e s m args below meth c E => ⟨(rC_qIW D cI cZ cO ad gh de below args s), rfl, b2_follow E M a1 a2 a3 a4⟩) h
abbrev rm5_replaceWay : Room := { frames := 1, cells := 0, slots := 0, locals := 22 }
set_option maxRecDepth 100000 in
theorem b5_replaceWay {p : Program} {l : Launch} {e : Env} {s : State} {m : MethodId} {args : Array Value} {below : List Frame} {meth : Method} {c : Code} {D : va_G} {cI cZ cO : ClassId} {ad : Nat → Nat} {gh : rC_gh} {de : Nat} (E : rC_E D cI cZ cO ad gh (rC_K ad gh) RX5 cX5_replaceWay 4 (some .int) p s m args meth c) (M : rv_Mem) (a1 : Int32) (a2 : Int32) : rv_M (rC_G D cI cZ cO ad gh de) (rC_K ad gh) p l e rm5_replaceWay s m args below meth c 0 0 (rC_qIW D cI cZ cO ad gh de below args s) (f5_replaceWay gh M a1 a2) 0 [some (.ref (ad 6)), some (.int a1), some (.int a2), none] [] M := by
  unfold f5_replaceWay
  refine rv_aload_n (q := 1) E.x dX5_replaceWay_0 rfl rfl ?_
  refine rC_getX5 (q := 4) E 6 3 wfX5_9 rfl (Nat.le_of_ble_eq_true rfl) ⟨rfl, rfl⟩ rfl dX5_replaceWay_1 rfl ?_
  refine rv_iload_n (q := 5) E.x dX5_replaceWay_4 rfl rfl ?_
  refine rv_b1 (fun r2 e1 => ?_)
  refine rC_callsi (q := 8) E (c9_read E.2.2.1 e1) gX5_30 hX9_read ⟨rfl, rfl⟩ ⟨Nat.le_of_ble_eq_true rfl, Nat.le_of_ble_eq_true rfl⟩ ⟨Nat.le_of_ble_eq_true rfl, Nat.le_of_ble_eq_true rfl⟩ rfl rfl rfl (Nat.le_of_ble_eq_true rfl) dX5_replaceWay_5 rfl ?_
  refine rv_istore_n (q := 9) (lv' := [_, _, _, _]) E.x dX5_replaceWay_8 (Nat.le_of_ble_eq_true rfl) rfl rfl rfl ?_
  refine rv_aload_n (q := 10) E.x dX5_replaceWay_9 rfl rfl ?_
  refine rC_getX5 (q := 13) E 6 3 wfX5_9 rfl (Nat.le_of_ble_eq_true rfl) ⟨rfl, rfl⟩ rfl dX5_replaceWay_10 rfl ?_
  refine rv_iload_n (q := 14) E.x dX5_replaceWay_13 rfl rfl ?_
  refine rv_iload_n (q := 15) E.x dX5_replaceWay_14 rfl rfl ?_
  refine rv_b1 (fun M4 e3 => ?_)
  refine rC_callsv (q := 18) E (c9_write E.2.2.1 e3) gX5_36 hX9_write ⟨rfl, rfl⟩ ⟨Nat.le_of_ble_eq_true rfl, Nat.le_of_ble_eq_true rfl⟩ ⟨Nat.le_of_ble_eq_true rfl, Nat.le_of_ble_eq_true rfl⟩ rfl rfl rfl (Nat.le_of_ble_eq_true rfl) dX5_replaceWay_15 rfl ?_
  refine rv_iload_n (q := 19) E.x dX5_replaceWay_18 rfl rfl ?_
  exact rC_iret E rfl dX5_replaceWay_19
theorem c5_replaceWay {l : Launch} {D : va_G} {cI cZ cO : ClassId} {ad : Nat → Nat} {gh : rC_gh} {de : Nat} (hI : rC_I ad gh) {M : rv_Mem} {a1 : Int32} {a2 : Int32} {r : Int32} {M1 : rv_Mem} (h : f5_replaceWay gh M a1 a2 = some (r, M1)) : Met l yX5_replaceWay (rv_ws yX5_replaceWay cX5_replaceWay 4 (some .int)) rm5_replaceWay (rC_Pc D cI cZ cO ad gh de [.ref (ad 6), .int a1, .int a2] M) (rC_QI D cI cZ cO ad gh de r M1) 0 0 (rC_K ad gh) := rC_met hI rfl (by decide) (Nat.le_of_ble_eq_true rfl) (fun p e s m args below meth c E => ⟨(rC_qIW D cI cZ cO ad gh de below args s), rfl, b5_replaceWay E M a1 a2⟩) h
abbrev rm9_parentNumber : Room := { frames := 1, cells := 0, slots := 0, locals := 21 }
set_option maxRecDepth 100000 in
theorem b9_parentNumber {p : Program} {l : Launch} {e : Env} {s : State} {m : MethodId} {args : Array Value} {below : List Frame} {meth : Method} {c : Code} {D : va_G} {cI cZ cO : ClassId} {ad : Nat → Nat} {gh : rC_gh} {de : Nat} (E : rC_E D cI cZ cO ad gh (rC_K ad gh) RX9 cX9_parentNumber 2 (some .int) p s m args meth c) (M : rv_Mem) (a1 : Int32) : rv_M (rC_G D cI cZ cO ad gh de) (rC_K ad gh) p l e rm9_parentNumber s m args below meth c 0 0 (rC_qI D cI cZ cO ad gh de below args s M) (f9_parentNumber gh M a1) 0 [some (.ref (ad 1)), some (.int a1)] [] M := by
  unfold f9_parentNumber
  refine rv_aload_n (q := 1) E.x dX9_parentNumber_0 rfl rfl ?_
  refine rC_getX9 (q := 4) E 1 5 wfX9_27 rfl (Nat.le_of_ble_eq_true rfl) ⟨rfl, rfl⟩ rfl dX9_parentNumber_1 rfl ?_
  refine rv_aload_n (q := 5) E.x dX9_parentNumber_4 rfl rfl ?_
  refine rC_getX9 (q := 8) E 1 3 wfX9_21 rfl (Nat.le_of_ble_eq_true rfl) ⟨rfl, rfl⟩ rfl dX9_parentNumber_5 rfl ?_
  refine rv_aload_n (q := 9) E.x dX9_parentNumber_8 rfl rfl ?_
  refine rC_getX9 (q := 12) E 1 9 wfX9_39 rfl (Nat.le_of_ble_eq_true rfl) ⟨rfl, rfl⟩ rfl dX9_parentNumber_9 rfl ?_
  refine rv_iload_n (q := 13) E.x dX9_parentNumber_12 rfl rfl ?_
  refine rv_b1 (fun r2 e1 => ?_)
  refine rC_callsi (q := 16) E (c9_read E.2.2.1 e1) gX9_52 hX9_read ⟨rfl, rfl⟩ ⟨Nat.le_of_ble_eq_true rfl, Nat.le_of_ble_eq_true rfl⟩ ⟨Nat.le_of_ble_eq_true rfl, Nat.le_of_ble_eq_true rfl⟩ rfl rfl rfl (Nat.le_of_ble_eq_true rfl) dX9_parentNumber_13 rfl ?_
  refine rv_b1 (fun r4 e3 => ?_)
  refine rC_callsi (q := 19) E (c9_read E.2.2.1 e3) gX9_52 hX9_read ⟨rfl, rfl⟩ ⟨Nat.le_of_ble_eq_true rfl, Nat.le_of_ble_eq_true rfl⟩ ⟨Nat.le_of_ble_eq_true rfl, Nat.le_of_ble_eq_true rfl⟩ rfl rfl rfl (Nat.le_of_ble_eq_true rfl) dX9_parentNumber_16 rfl ?_
  refine rv_b1 (fun r6 e5 => ?_)
  refine rC_callsi (q := 22) E (c9_read E.2.2.1 e5) gX9_52 hX9_read ⟨rfl, rfl⟩ ⟨Nat.le_of_ble_eq_true rfl, Nat.le_of_ble_eq_true rfl⟩ ⟨Nat.le_of_ble_eq_true rfl, Nat.le_of_ble_eq_true rfl⟩ rfl rfl rfl (Nat.le_of_ble_eq_true rfl) dX9_parentNumber_19 rfl ?_
  exact rC_iret E rfl dX9_parentNumber_22
theorem c9_parentNumber {l : Launch} {D : va_G} {cI cZ cO : ClassId} {ad : Nat → Nat} {gh : rC_gh} {de : Nat} (hI : rC_I ad gh) {M : rv_Mem} {a1 : Int32} {r : Int32} (h : f9_parentNumber gh M a1 = some r) : Met l yX9_parentNumber (rv_ws yX9_parentNumber cX9_parentNumber 2 (some .int)) rm9_parentNumber (rC_Pc D cI cZ cO ad gh de [.ref (ad 1), .int a1] M) (rC_QI D cI cZ cO ad gh de r M) 0 0 (rC_K ad gh) := rC_met hI rfl (by decide) (Nat.le_of_ble_eq_true rfl) (fun p e s m args below meth c E => ⟨(rC_qI D cI cZ cO ad gh de below args s M), rfl, b9_parentNumber E M a1⟩) h
abbrev rm5_drawnBy : Room := { frames := 4, cells := 0, slots := 0, locals := 101 }
set_option maxRecDepth 100000 in
theorem b5_drawnBy_96 {p : Program} {l : Launch} {e : Env} {s : State} {m : MethodId} {args : Array Value} {below : List Frame} {meth : Method} {c : Code} {D : va_G} {cI cZ cO : ClassId} {ad : Nat → Nat} {gh : rC_gh} {de : Nat} (E : rC_E D cI cZ cO ad gh (rC_K ad gh) RX5 cX5_drawnBy 7 (some .int) p s m args meth c) (M : rv_Mem) (k17 : Nat → Int32 → Int32 → Int32 → Option (Int32)) (h17 : ∀ (x1 : Nat) (x2 : Int32) (x3 : Int32) (x4 : Int32), rv_M (rC_G D cI cZ cO ad gh de) (rC_K ad gh) p l e rm5_drawnBy s m args below meth c 0 0 (rC_qI D cI cZ cO ad gh de below args s M) (k17 x1 x2 x3 x4) 17 [some (.ref (ad 6)), some (.ref (ad x1)), some (.int x2), some (.int x3), some (.int x4), none, none] [] M) : ∀ (x1 : Nat) (x2 : Int32) (x3 : Int32) (x4 : Int32), rv_M (rC_G D cI cZ cO ad gh de) (rC_K ad gh) p l e rm5_drawnBy s m args below meth c 0 0 (rC_qI D cI cZ cO ad gh de below args s M) (f5_drawnBy_96 gh M k17 x1 x2 x3 x4) 96 [some (.ref (ad 6)), some (.ref (ad x1)), some (.int x2), some (.int x3), some (.int x4), none, none] [] M := by
  intro x1 x2 x3 x4
  unfold f5_drawnBy_96
  refine rv_iinc (q := 99) (lv' := [_, _, _, _, _, _, _]) E.x dX5_drawnBy_96 rv_ki1 rfl rfl rfl rfl ?_
  refine rv_goto (q := 17) E.x dX5_drawnBy_99 (by decide) ?_
  refine rv_wk [true, true, true, true, true, false, false] ?_
  exact h17 x1 x2 x3 (x4 + 1)
set_option maxRecDepth 100000 in
theorem b5_drawnBy_89 {p : Program} {l : Launch} {e : Env} {s : State} {m : MethodId} {args : Array Value} {below : List Frame} {meth : Method} {c : Code} {D : va_G} {cI cZ cO : ClassId} {ad : Nat → Nat} {gh : rC_gh} {de : Nat} (E : rC_E D cI cZ cO ad gh (rC_K ad gh) RX5 cX5_drawnBy 7 (some .int) p s m args meth c) (M : rv_Mem) (k17 : Nat → Int32 → Int32 → Int32 → Option (Int32)) (h17 : ∀ (x1 : Nat) (x2 : Int32) (x3 : Int32) (x4 : Int32), rv_M (rC_G D cI cZ cO ad gh de) (rC_K ad gh) p l e rm5_drawnBy s m args below meth c 0 0 (rC_qI D cI cZ cO ad gh de below args s M) (k17 x1 x2 x3 x4) 17 [some (.ref (ad 6)), some (.ref (ad x1)), some (.int x2), some (.int x3), some (.int x4), none, none] [] M) : ∀ (x1 : Nat) (x2 : Int32) (x3 : Int32) (x4 : Int32), rv_M (rC_G D cI cZ cO ad gh de) (rC_K ad gh) p l e rm5_drawnBy s m args below meth c 0 0 (rC_qI D cI cZ cO ad gh de below args s M) (f5_drawnBy_89 gh M k17 x1 x2 x3 x4) 89 [some (.ref (ad 6)), some (.ref (ad x1)), some (.int x2), some (.int x3), some (.int x4), none, none] [] M := by
  intro x1 x2 x3 x4
  unfold f5_drawnBy_89
  refine rv_iload_n (q := 90) E.x dX5_drawnBy_89 rfl rfl ?_
  refine rv_iconst (q := 91) E.x dX5_drawnBy_90 rv_ki1 rfl ?_
  refine rv_iload (q := 93) E.x dX5_drawnBy_91 rfl rfl ?_
  refine rv_ishl (q := 94) E.x dX5_drawnBy_93 rfl ?_
  refine rv_ior (q := 95) E.x dX5_drawnBy_94 rfl ?_
  refine rv_istore_n (q := 96) (lv' := [_, _, _, _, _, _, _]) E.x dX5_drawnBy_95 (Nat.le_of_ble_eq_true rfl) rfl rfl rfl ?_
  refine rv_wk [true, true, true, true, true, false, false] ?_
  exact b5_drawnBy_96 E M k17 h17 x1 x2 (x3 ||| ((1 : Int32) <<< (x4 &&& 31))) x4
set_option maxRecDepth 100000 in
theorem b5_drawnBy_68 {p : Program} {l : Launch} {e : Env} {s : State} {m : MethodId} {args : Array Value} {below : List Frame} {meth : Method} {c : Code} {D : va_G} {cI cZ cO : ClassId} {ad : Nat → Nat} {gh : rC_gh} {de : Nat} (E : rC_E D cI cZ cO ad gh (rC_K ad gh) RX5 cX5_drawnBy 7 (some .int) p s m args meth c) (M : rv_Mem) (k17 : Nat → Int32 → Int32 → Int32 → Option (Int32)) (h17 : ∀ (x1 : Nat) (x2 : Int32) (x3 : Int32) (x4 : Int32), rv_M (rC_G D cI cZ cO ad gh de) (rC_K ad gh) p l e rm5_drawnBy s m args below meth c 0 0 (rC_qI D cI cZ cO ad gh de below args s M) (k17 x1 x2 x3 x4) 17 [some (.ref (ad 6)), some (.ref (ad x1)), some (.int x2), some (.int x3), some (.int x4), none, none] [] M) : ∀ (x1 : Nat) (x2 : Int32) (x3 : Int32) (x4 : Int32) (x5 : Nat) (s0 : Bool), rv_M (rC_G D cI cZ cO ad gh de) (rC_K ad gh) p l e rm5_drawnBy s m args below meth c 0 0 (rC_qI D cI cZ cO ad gh de below args s M) (f5_drawnBy_68 gh M k17 x1 x2 x3 x4 x5 s0) 68 [some (.ref (ad 6)), some (.ref (ad x1)), some (.int x2), some (.int x3), some (.int x4), some (.ref (ad x5)), none] [.int (rv_i s0)] M := by
  intro x1 x2 x3 x4 x5 s0
  unfold f5_drawnBy_68
  refine rv_istore (q := 70) (lv' := [_, _, _, _, _, _, _]) E.x dX5_drawnBy_68 (Nat.le_of_ble_eq_true rfl) rfl rfl rfl ?_
  refine rv_aload (q := 72) E.x dX5_drawnBy_70 rfl rfl ?_
  refine rv_g (fun g1 => ?_)
  refine rC_getX0 (q := 75) E x5 5 wfX5_71 rfl (Nat.le_of_ble_eq_true rfl) (rC_at_of g1) rfl dX5_drawnBy_72 rfl ?_
  refine rv_if_ne (q := 78) (tgt := 96) E.x dX5_drawnBy_75 (by decide) rfl ?_ ?_
  · refine rv_iload (q := 80) E.x dX5_drawnBy_78 rfl rfl ?_
    refine rv_ifz_ne (q := 83) (tgt := 89) E.x dX5_drawnBy_80 (by decide) rfl ?_ ?_
    · refine rv_iload (q := 85) E.x dX5_drawnBy_83 rfl rfl ?_
      refine rv_iload_n (q := 86) E.x dX5_drawnBy_85 rfl rfl ?_
      refine rv_icmp_ne (q := 89) (tgt := 96) E.x dX5_drawnBy_86 (by decide) rfl ?_ ?_
      · refine rv_wk [true, true, true, true, true, false, false] ?_
        exact b5_drawnBy_89 E M k17 h17 x1 x2 x3 x4
      · refine rv_wk [true, true, true, true, true, false, false] ?_
        exact b5_drawnBy_96 E M k17 h17 x1 x2 x3 x4
    · refine rv_wk [true, true, true, true, true, false, false] ?_
      exact b5_drawnBy_89 E M k17 h17 x1 x2 x3 x4
  · refine rv_wk [true, true, true, true, true, false, false] ?_
    exact b5_drawnBy_96 E M k17 h17 x1 x2 x3 x4
set_option maxRecDepth 100000 in
theorem b5_drawnBy_67 {p : Program} {l : Launch} {e : Env} {s : State} {m : MethodId} {args : Array Value} {below : List Frame} {meth : Method} {c : Code} {D : va_G} {cI cZ cO : ClassId} {ad : Nat → Nat} {gh : rC_gh} {de : Nat} (E : rC_E D cI cZ cO ad gh (rC_K ad gh) RX5 cX5_drawnBy 7 (some .int) p s m args meth c) (M : rv_Mem) (k17 : Nat → Int32 → Int32 → Int32 → Option (Int32)) (h17 : ∀ (x1 : Nat) (x2 : Int32) (x3 : Int32) (x4 : Int32), rv_M (rC_G D cI cZ cO ad gh de) (rC_K ad gh) p l e rm5_drawnBy s m args below meth c 0 0 (rC_qI D cI cZ cO ad gh de below args s M) (k17 x1 x2 x3 x4) 17 [some (.ref (ad 6)), some (.ref (ad x1)), some (.int x2), some (.int x3), some (.int x4), none, none] [] M) : ∀ (x1 : Nat) (x2 : Int32) (x3 : Int32) (x4 : Int32) (x5 : Nat), rv_M (rC_G D cI cZ cO ad gh de) (rC_K ad gh) p l e rm5_drawnBy s m args below meth c 0 0 (rC_qI D cI cZ cO ad gh de below args s M) (f5_drawnBy_67 gh M k17 x1 x2 x3 x4 x5) 67 [some (.ref (ad 6)), some (.ref (ad x1)), some (.int x2), some (.int x3), some (.int x4), some (.ref (ad x5)), none] [] M := by
  intro x1 x2 x3 x4 x5
  unfold f5_drawnBy_67
  refine rv_iconst (q := 68) E.x dX5_drawnBy_67 rv_ki0 rfl ?_
  refine rv_wk [true, true, true, true, true, true, false] ?_
  exact b5_drawnBy_68 E M k17 h17 x1 x2 x3 x4 x5 false
set_option maxRecDepth 100000 in
theorem b5_drawnBy_17_s {p : Program} {l : Launch} {e : Env} {s : State} {m : MethodId} {args : Array Value} {below : List Frame} {meth : Method} {c : Code} {D : va_G} {cI cZ cO : ClassId} {ad : Nat → Nat} {gh : rC_gh} {de : Nat} (E : rC_E D cI cZ cO ad gh (rC_K ad gh) RX5 cX5_drawnBy 7 (some .int) p s m args meth c) (M : rv_Mem)   (k17 : Nat → Int32 → Int32 → Int32 → Option (Int32)) (h17 : ∀ (x1 : Nat) (x2 : Int32) (x3 : Int32) (x4 : Int32), rv_M (rC_G D cI cZ cO ad gh de) (rC_K ad gh) p l e rm5_drawnBy s m args below meth c 0 0 (rC_qI D cI cZ cO ad gh de below args s M) (k17 x1 x2 x3 x4) 17 [some (.ref (ad 6)), some (.ref (ad x1)), some (.int x2), some (.int x3), some (.int x4), none, none] [] M) : ∀ (x1 : Nat) (x2 : Int32) (x3 : Int32) (x4 : Int32), rv_M (rC_G D cI cZ cO ad gh de) (rC_K ad gh) p l e rm5_drawnBy s m args below meth c 0 0 (rC_qI D cI cZ cO ad gh de below args s M) (f5_drawnBy_17_s gh M k17 x1 x2 x3 x4) 17 [some (.ref (ad 6)), some (.ref (ad x1)), some (.int x2), some (.int x3), some (.int x4), none, none] [] M := by
  intro x1 x2 x3 x4
  unfold f5_drawnBy_17_s
  refine rv_iload (q := 19) E.x dX5_drawnBy_17 rfl rfl ?_
  refine rv_aload_n (q := 20) E.x dX5_drawnBy_19 rfl rfl ?_
  refine rC_getX5 (q := 23) E 6 2 wfX5_26 rfl (Nat.le_of_ble_eq_true rfl) ⟨rfl, rfl⟩ rfl dX5_drawnBy_20 rfl ?_
  refine rC_lsz (q := 26) E 0 (by decide) (cJ_size E.2.2.1 0) gX5_40 ⟨Nat.le_of_ble_eq_true rfl, Nat.le_of_ble_eq_true rfl⟩ ⟨Nat.le_of_ble_eq_true rfl, Nat.le_of_ble_eq_true rfl⟩ rfl (Nat.le_of_ble_eq_true rfl) dX5_drawnBy_23 rfl ?_
  refine rv_icmp_ge (q := 29) (tgt := 102) E.x dX5_drawnBy_26 (by decide) rfl ?_ ?_
  · refine rv_aload_n (q := 30) E.x dX5_drawnBy_29 rfl rfl ?_
    refine rC_getX5 (q := 33) E 6 2 wfX5_26 rfl (Nat.le_of_ble_eq_true rfl) ⟨rfl, rfl⟩ rfl dX5_drawnBy_30 rfl ?_
    refine rv_iload (q := 35) E.x dX5_drawnBy_33 rfl rfl ?_
    refine rC_lgt (q := 38) E 0 (by decide) (cJ_get E.2.2.1 0) ⟨rfl, rfl⟩ gX5_50 ⟨Nat.le_of_ble_eq_true rfl, Nat.le_of_ble_eq_true rfl⟩ ⟨Nat.le_of_ble_eq_true rfl, Nat.le_of_ble_eq_true rfl⟩ rfl (Nat.le_of_ble_eq_true rfl) dX5_drawnBy_35 rfl ?_
    refine rv_g (fun g1 => ?_)
    refine rC_cstX0 (q := 41) E (rC_at_of g1) wxX5_54 dX5_drawnBy_38 rfl ?_
    refine rv_astore (q := 43) (lv' := [_, _, _, _, _, _, _]) E.x dX5_drawnBy_41 (Nat.le_of_ble_eq_true rfl) rfl rfl rfl ?_
    refine rv_aload_n (q := 44) E.x dX5_drawnBy_43 rfl rfl ?_
    refine rv_g (fun g2 => ?_)
    refine rC_getX0 (q := 47) E x1 8 wfX5_68 rfl (Nat.le_of_ble_eq_true rfl) (rC_at_of g2) rfl dX5_drawnBy_44 rfl ?_
    refine rv_iconst (q := 48) E.x dX5_drawnBy_47 rv_kim1 rfl ?_
    refine rv_icmp_eq (q := 51) (tgt := 67) E.x dX5_drawnBy_48 (by decide) rfl ?_ ?_
    · refine rv_aload (q := 53) E.x dX5_drawnBy_51 rfl rfl ?_
      refine rC_getX0 (q := 56) E (100 + (x4).toNatClampNeg) 8 wfX5_68 rfl (Nat.le_of_ble_eq_true rfl) (rC_at_of g1) rfl dX5_drawnBy_53 rfl ?_
      refine rv_aload_n (q := 57) E.x dX5_drawnBy_56 rfl rfl ?_
      refine rC_getX0 (q := 60) E x1 8 wfX5_68 rfl (Nat.le_of_ble_eq_true rfl) (rC_at_of g2) rfl dX5_drawnBy_57 rfl ?_
      refine rv_icmp_ne (q := 63) (tgt := 67) E.x dX5_drawnBy_60 (by decide) rfl ?_ ?_
      · refine rv_iconst (q := 64) E.x dX5_drawnBy_63 rv_ki1 rfl ?_
        refine rv_goto (q := 68) E.x dX5_drawnBy_64 (by decide) ?_
        refine rv_wk [true, true, true, true, true, true, false] ?_
        exact b5_drawnBy_68 E M k17 h17 x1 x2 x3 x4 (100 + (x4).toNatClampNeg) true
      · refine rv_wk [true, true, true, true, true, true, false] ?_
        exact b5_drawnBy_67 E M k17 h17 x1 x2 x3 x4 (100 + (x4).toNatClampNeg)
    · refine rv_wk [true, true, true, true, true, true, false] ?_
      exact b5_drawnBy_67 E M k17 h17 x1 x2 x3 x4 (100 + (x4).toNatClampNeg)
  · refine rv_iload_n (q := 103) E.x dX5_drawnBy_102 rfl rfl ?_
    exact rC_iret E rfl dX5_drawnBy_103
theorem b5_drawnBy_17 {p : Program} {l : Launch} {e : Env} {s : State} {m : MethodId} {args : Array Value} {below : List Frame} {meth : Method} {c : Code} {D : va_G} {cI cZ cO : ClassId} {ad : Nat → Nat} {gh : rC_gh} {de : Nat} (E : rC_E D cI cZ cO ad gh (rC_K ad gh) RX5 cX5_drawnBy 7 (some .int) p s m args meth c) (M : rv_Mem)   : ∀ (n : Nat), ∀ (x1 : Nat) (x2 : Int32) (x3 : Int32) (x4 : Int32), rv_M (rC_G D cI cZ cO ad gh de) (rC_K ad gh) p l e rm5_drawnBy s m args below meth c 0 0 (rC_qI D cI cZ cO ad gh de below args s M) (f5_drawnBy_17 gh M n x1 x2 x3 x4) 17 [some (.ref (ad 6)), some (.ref (ad x1)), some (.int x2), some (.int x3), some (.int x4), none, none] [] M := by
  intro n
  induction n with
  | zero => exact fun _ _ _ _ => rv_stuck
  | succ n ih => exact b5_drawnBy_17_s E M (f5_drawnBy_17 gh M n) ih
set_option maxRecDepth 100000 in
theorem b5_drawnBy {p : Program} {l : Launch} {e : Env} {s : State} {m : MethodId} {args : Array Value} {below : List Frame} {meth : Method} {c : Code} {D : va_G} {cI cZ cO : ClassId} {ad : Nat → Nat} {gh : rC_gh} {de : Nat} (E : rC_E D cI cZ cO ad gh (rC_K ad gh) RX5 cX5_drawnBy 7 (some .int) p s m args meth c) (M : rv_Mem) (a1 : Nat) : rv_M (rC_G D cI cZ cO ad gh de) (rC_K ad gh) p l e rm5_drawnBy s m args below meth c 0 0 (rC_qI D cI cZ cO ad gh de below args s M) (f5_drawnBy gh M a1) 0 [some (.ref (ad 6)), some (.ref (ad a1)), none, none, none, none, none] [] M := by
  unfold f5_drawnBy
  refine rv_aload_n (q := 1) E.x dX5_drawnBy_0 rfl rfl ?_
  refine rC_getX5 (q := 4) E 6 0 wfX5_18 rfl (Nat.le_of_ble_eq_true rfl) ⟨rfl, rfl⟩ rfl dX5_drawnBy_1 rfl ?_
  refine rv_aload_n (q := 5) E.x dX5_drawnBy_4 rfl rfl ?_
  refine rv_g (fun g1 => ?_)
  refine rC_getX0 (q := 8) E a1 0 wfX5_60 rfl (Nat.le_of_ble_eq_true rfl) (rC_at_of g1) rfl dX5_drawnBy_5 rfl ?_
  refine rv_b1 (fun r3 e2 => ?_)
  refine rC_calliX9 (q := 11) E ⟨rfl, rfl⟩ (c9_parentNumber E.2.2.1 e2) gX5_64 hX9_parentNumber ⟨rfl, rfl⟩ ⟨Nat.le_of_ble_eq_true rfl, Nat.le_of_ble_eq_true rfl⟩ ⟨Nat.le_of_ble_eq_true rfl, Nat.le_of_ble_eq_true rfl⟩ rfl rfl rfl (Nat.le_of_ble_eq_true rfl) dX5_drawnBy_8 rfl ?_
  refine rv_istore_n (q := 12) (lv' := [_, _, _, _, _, _, _]) E.x dX5_drawnBy_11 (Nat.le_of_ble_eq_true rfl) rfl rfl rfl ?_
  refine rv_iconst (q := 13) E.x dX5_drawnBy_12 rv_ki0 rfl ?_
  refine rv_istore_n (q := 14) (lv' := [_, _, _, _, _, _, _]) E.x dX5_drawnBy_13 (Nat.le_of_ble_eq_true rfl) rfl rfl rfl ?_
  refine rv_iconst (q := 15) E.x dX5_drawnBy_14 rv_ki0 rfl ?_
  refine rv_istore (q := 17) (lv' := [_, _, _, _, _, _, _]) E.x dX5_drawnBy_15 (Nat.le_of_ble_eq_true rfl) rfl rfl rfl ?_
  refine rv_wk [true, true, true, true, true, false, false] ?_
  exact b5_drawnBy_17 E M rv_FU a1 r3 0 0
theorem c5_drawnBy {l : Launch} {D : va_G} {cI cZ cO : ClassId} {ad : Nat → Nat} {gh : rC_gh} {de : Nat} (hI : rC_I ad gh) {M : rv_Mem} {a1 : Nat} {r : Int32} (h : f5_drawnBy gh M a1 = some r) : Met l yX5_drawnBy (rv_ws yX5_drawnBy cX5_drawnBy 7 (some .int)) rm5_drawnBy (rC_Pc D cI cZ cO ad gh de [.ref (ad 6), .ref (ad a1)] M) (rC_QI D cI cZ cO ad gh de r M) 0 0 (rC_K ad gh) := rC_met hI rfl (by decide) (Nat.le_of_ble_eq_true rfl) (fun p e s m args below meth c E => ⟨(rC_qI D cI cZ cO ad gh de below args s M), rfl, b5_drawnBy E M a1⟩) h
abbrev rm5_groupOf : Room := { frames := 5, cells := 0, slots := 0, locals := 127 }
set_option maxRecDepth 100000 in
theorem b5_groupOf_66 {p : Program} {l : Launch} {e : Env} {s : State} {m : MethodId} {args : Array Value} {below : List Frame} {meth : Method} {c : Code} {D : va_G} {cI cZ cO : ClassId} {ad : Nat → Nat} {gh : rC_gh} {de : Nat} (E : rC_E D cI cZ cO ad gh (rC_K ad gh) RX5 cX5_groupOf 7 (some .int) p s m args meth c) (M : rv_Mem) (k9 : Int32 → Bool → Int32 → Option (Int32)) (k26 : Int32 → Int32 → Int32 → Int32 → Option (Int32)) (h9 : ∀ (x2 : Int32) (x3 : Bool) (x4 : Int32), rv_M (rC_G D cI cZ cO ad gh de) (rC_K ad gh) p l e rm5_groupOf s m args below meth c 0 0 (rC_qI D cI cZ cO ad gh de below args s M) (k9 x2 x3 x4) 9 [some (.ref (ad 6)), none, some (.int x2), some (.int (rv_i x3)), some (.int x4), none, none] [] M) (h26 : ∀ (x2 : Int32) (x4 : Int32) (x5 : Int32) (x6 : Int32), rv_M (rC_G D cI cZ cO ad gh de) (rC_K ad gh) p l e rm5_groupOf s m args below meth c 0 0 (rC_qI D cI cZ cO ad gh de below args s M) (k26 x2 x4 x5 x6) 26 [some (.ref (ad 6)), none, some (.int x2), none, some (.int x4), some (.int x5), some (.int x6)] [] M) : ∀ (x2 : Int32) (x4 : Int32) (x5 : Int32) (x6 : Int32), rv_M (rC_G D cI cZ cO ad gh de) (rC_K ad gh) p l e rm5_groupOf s m args below meth c 0 0 (rC_qI D cI cZ cO ad gh de below args s M) (f5_groupOf_66 gh M k9 k26 x2 x4 x5 x6) 66 [some (.ref (ad 6)), none, some (.int x2), none, some (.int x4), some (.int x5), some (.int x6)] [] M := by
  intro x2 x4 x5 x6
  unfold f5_groupOf_66
  refine rv_iinc (q := 69) (lv' := [_, _, _, _, _, _, _]) E.x dX5_groupOf_66 rv_ki1 rfl rfl rfl rfl ?_
  refine rv_goto (q := 26) E.x dX5_groupOf_69 (by decide) ?_
  refine rv_wk [true, false, true, false, true, true, true] ?_
  exact h26 x2 x4 x5 (x6 + 1)
set_option maxRecDepth 100000 in
theorem b5_groupOf_83 {p : Program} {l : Launch} {e : Env} {s : State} {m : MethodId} {args : Array Value} {below : List Frame} {meth : Method} {c : Code} {D : va_G} {cI cZ cO : ClassId} {ad : Nat → Nat} {gh : rC_gh} {de : Nat} (E : rC_E D cI cZ cO ad gh (rC_K ad gh) RX5 cX5_groupOf 7 (some .int) p s m args meth c) (M : rv_Mem) (k9 : Int32 → Bool → Int32 → Option (Int32)) (h9 : ∀ (x2 : Int32) (x3 : Bool) (x4 : Int32), rv_M (rC_G D cI cZ cO ad gh de) (rC_K ad gh) p l e rm5_groupOf s m args below meth c 0 0 (rC_qI D cI cZ cO ad gh de below args s M) (k9 x2 x3 x4) 9 [some (.ref (ad 6)), none, some (.int x2), some (.int (rv_i x3)), some (.int x4), none, none] [] M) : ∀ (x2 : Int32) (x4 : Int32) (s0 : Bool), rv_M (rC_G D cI cZ cO ad gh de) (rC_K ad gh) p l e rm5_groupOf s m args below meth c 0 0 (rC_qI D cI cZ cO ad gh de below args s M) (f5_groupOf_83 gh M k9 x2 x4 s0) 83 [some (.ref (ad 6)), none, some (.int x2), none, some (.int x4), none, none] [.int (rv_i s0)] M := by
  intro x2 x4 s0
  unfold f5_groupOf_83
  refine rv_istore_n (q := 84) (lv' := [_, _, _, _, _, _, _]) E.x dX5_groupOf_83 (Nat.le_of_ble_eq_true rfl) rfl rfl rfl ?_
  refine rv_iinc (q := 87) (lv' := [_, _, _, _, _, _, _]) E.x dX5_groupOf_84 rv_ki1 rfl rfl rfl rfl ?_
  refine rv_goto (q := 9) E.x dX5_groupOf_87 (by decide) ?_
  refine rv_wk [true, false, true, true, true, false, false] ?_
  exact h9 x2 s0 (x4 + 1)
set_option maxRecDepth 100000 in
theorem b5_groupOf_26_s {p : Program} {l : Launch} {e : Env} {s : State} {m : MethodId} {args : Array Value} {below : List Frame} {meth : Method} {c : Code} {D : va_G} {cI cZ cO : ClassId} {ad : Nat → Nat} {gh : rC_gh} {de : Nat} (E : rC_E D cI cZ cO ad gh (rC_K ad gh) RX5 cX5_groupOf 7 (some .int) p s m args meth c) (M : rv_Mem) (k9 : Int32 → Bool → Int32 → Option (Int32)) (h9 : ∀ (x2 : Int32) (x3 : Bool) (x4 : Int32), rv_M (rC_G D cI cZ cO ad gh de) (rC_K ad gh) p l e rm5_groupOf s m args below meth c 0 0 (rC_qI D cI cZ cO ad gh de below args s M) (k9 x2 x3 x4) 9 [some (.ref (ad 6)), none, some (.int x2), some (.int (rv_i x3)), some (.int x4), none, none] [] M) (k26 : Int32 → Int32 → Int32 → Int32 → Option (Int32)) (h26 : ∀ (x2 : Int32) (x4 : Int32) (x5 : Int32) (x6 : Int32), rv_M (rC_G D cI cZ cO ad gh de) (rC_K ad gh) p l e rm5_groupOf s m args below meth c 0 0 (rC_qI D cI cZ cO ad gh de below args s M) (k26 x2 x4 x5 x6) 26 [some (.ref (ad 6)), none, some (.int x2), none, some (.int x4), some (.int x5), some (.int x6)] [] M) : ∀ (x2 : Int32) (x4 : Int32) (x5 : Int32) (x6 : Int32), rv_M (rC_G D cI cZ cO ad gh de) (rC_K ad gh) p l e rm5_groupOf s m args below meth c 0 0 (rC_qI D cI cZ cO ad gh de below args s M) (f5_groupOf_26_s gh M k9 k26 x2 x4 x5 x6) 26 [some (.ref (ad 6)), none, some (.int x2), none, some (.int x4), some (.int x5), some (.int x6)] [] M := by
  intro x2 x4 x5 x6
  unfold f5_groupOf_26_s
  refine rv_iload (q := 28) E.x dX5_groupOf_26 rfl rfl ?_
  refine rv_aload_n (q := 29) E.x dX5_groupOf_28 rfl rfl ?_
  refine rC_getX5 (q := 32) E 6 2 wfX5_26 rfl (Nat.le_of_ble_eq_true rfl) ⟨rfl, rfl⟩ rfl dX5_groupOf_29 rfl ?_
  refine rC_lsz (q := 35) E 0 (by decide) (cJ_size E.2.2.1 0) gX5_40 ⟨Nat.le_of_ble_eq_true rfl, Nat.le_of_ble_eq_true rfl⟩ ⟨Nat.le_of_ble_eq_true rfl, Nat.le_of_ble_eq_true rfl⟩ rfl (Nat.le_of_ble_eq_true rfl) dX5_groupOf_32 rfl ?_
  refine rv_icmp_ge (q := 38) (tgt := 72) E.x dX5_groupOf_35 (by decide) rfl ?_ ?_
  · refine rv_iload_n (q := 39) E.x dX5_groupOf_38 rfl rfl ?_
    refine rv_iload (q := 41) E.x dX5_groupOf_39 rfl rfl ?_
    refine rv_b1 (fun r2 e1 => ?_)
    refine rC_calln (q := 44) E (c11_isIn e1) gX5_46 E.2.2.2.2.2.2.2.1 wsgX5_46 wi_ReviewForge hX11_isIn ⟨rfl, rfl⟩ ⟨Nat.le_of_ble_eq_true rfl, Nat.le_of_ble_eq_true rfl⟩ ⟨Nat.le_of_ble_eq_true rfl, Nat.le_of_ble_eq_true rfl⟩ rfl rfl rfl (Nat.le_of_ble_eq_true rfl) dX5_groupOf_41 rfl ?_
    refine rv_ifz_eq (q := 47) (tgt := 66) E.x dX5_groupOf_44 (by decide) rfl ?_ ?_
    · refine rv_iload_n (q := 48) E.x dX5_groupOf_47 rfl rfl ?_
      refine rv_aload_n (q := 49) E.x dX5_groupOf_48 rfl rfl ?_
      refine rv_aload_n (q := 50) E.x dX5_groupOf_49 rfl rfl ?_
      refine rC_getX5 (q := 53) E 6 2 wfX5_26 rfl (Nat.le_of_ble_eq_true rfl) ⟨rfl, rfl⟩ rfl dX5_groupOf_50 rfl ?_
      refine rv_iload (q := 55) E.x dX5_groupOf_53 rfl rfl ?_
      refine rC_lgt (q := 58) E 0 (by decide) (cJ_get E.2.2.1 0) ⟨rfl, rfl⟩ gX5_50 ⟨Nat.le_of_ble_eq_true rfl, Nat.le_of_ble_eq_true rfl⟩ ⟨Nat.le_of_ble_eq_true rfl, Nat.le_of_ble_eq_true rfl⟩ rfl (Nat.le_of_ble_eq_true rfl) dX5_groupOf_55 rfl ?_
      refine rv_g (fun g3 => ?_)
      refine rC_cstX0 (q := 61) E (rC_at_of g3) wxX5_54 dX5_groupOf_58 rfl ?_
      refine rv_b1 (fun r5 e4 => ?_)
      refine rC_calliX5 (q := 64) E ⟨rfl, rfl⟩ (c5_drawnBy E.2.2.1 e4) gX5_56 hX5_drawnBy ⟨rfl, rfl⟩ ⟨Nat.le_of_ble_eq_true rfl, Nat.le_of_ble_eq_true rfl⟩ ⟨Nat.le_of_ble_eq_true rfl, Nat.le_of_ble_eq_true rfl⟩ rfl rfl rfl (Nat.le_of_ble_eq_true rfl) dX5_groupOf_61 rfl ?_
      refine rv_ior (q := 65) E.x dX5_groupOf_64 rfl ?_
      refine rv_istore_n (q := 66) (lv' := [_, _, _, _, _, _, _]) E.x dX5_groupOf_65 (Nat.le_of_ble_eq_true rfl) rfl rfl rfl ?_
      refine rv_wk [true, false, true, false, true, true, true] ?_
      exact b5_groupOf_66 E M k9 k26 h9 h26 (x2 ||| r5) x4 x5 x6
    · refine rv_wk [true, false, true, false, true, true, true] ?_
      exact b5_groupOf_66 E M k9 k26 h9 h26 x2 x4 x5 x6
  · refine rv_iload_n (q := 73) E.x dX5_groupOf_72 rfl rfl ?_
    refine rv_iload (q := 75) E.x dX5_groupOf_73 rfl rfl ?_
    refine rv_icmp_eq (q := 78) (tgt := 82) E.x dX5_groupOf_75 (by decide) rfl ?_ ?_
    · refine rv_iconst (q := 79) E.x dX5_groupOf_78 rv_ki1 rfl ?_
      refine rv_goto (q := 83) E.x dX5_groupOf_79 (by decide) ?_
      refine rv_wk [true, false, true, false, true, false, false] ?_
      exact b5_groupOf_83 E M k9 h9 x2 x4 true
    · refine rv_iconst (q := 83) E.x dX5_groupOf_82 rv_ki0 rfl ?_
      refine rv_wk [true, false, true, false, true, false, false] ?_
      exact b5_groupOf_83 E M k9 h9 x2 x4 false
theorem b5_groupOf_26 {p : Program} {l : Launch} {e : Env} {s : State} {m : MethodId} {args : Array Value} {below : List Frame} {meth : Method} {c : Code} {D : va_G} {cI cZ cO : ClassId} {ad : Nat → Nat} {gh : rC_gh} {de : Nat} (E : rC_E D cI cZ cO ad gh (rC_K ad gh) RX5 cX5_groupOf 7 (some .int) p s m args meth c) (M : rv_Mem) (k9 : Int32 → Bool → Int32 → Option (Int32)) (h9 : ∀ (x2 : Int32) (x3 : Bool) (x4 : Int32), rv_M (rC_G D cI cZ cO ad gh de) (rC_K ad gh) p l e rm5_groupOf s m args below meth c 0 0 (rC_qI D cI cZ cO ad gh de below args s M) (k9 x2 x3 x4) 9 [some (.ref (ad 6)), none, some (.int x2), some (.int (rv_i x3)), some (.int x4), none, none] [] M) : ∀ (n : Nat), ∀ (x2 : Int32) (x4 : Int32) (x5 : Int32) (x6 : Int32), rv_M (rC_G D cI cZ cO ad gh de) (rC_K ad gh) p l e rm5_groupOf s m args below meth c 0 0 (rC_qI D cI cZ cO ad gh de below args s M) (f5_groupOf_26 gh M k9 n x2 x4 x5 x6) 26 [some (.ref (ad 6)), none, some (.int x2), none, some (.int x4), some (.int x5), some (.int x6)] [] M := by
  intro n
  induction n with
  | zero => exact fun _ _ _ _ => rv_stuck
  | succ n ih => exact b5_groupOf_26_s E M k9 h9 (f5_groupOf_26 gh M k9 n) ih
set_option maxRecDepth 100000 in
theorem b5_groupOf_9_s {p : Program} {l : Launch} {e : Env} {s : State} {m : MethodId} {args : Array Value} {below : List Frame} {meth : Method} {c : Code} {D : va_G} {cI cZ cO : ClassId} {ad : Nat → Nat} {gh : rC_gh} {de : Nat} (E : rC_E D cI cZ cO ad gh (rC_K ad gh) RX5 cX5_groupOf 7 (some .int) p s m args meth c) (M : rv_Mem)   (k9 : Int32 → Bool → Int32 → Option (Int32)) (h9 : ∀ (x2 : Int32) (x3 : Bool) (x4 : Int32), rv_M (rC_G D cI cZ cO ad gh de) (rC_K ad gh) p l e rm5_groupOf s m args below meth c 0 0 (rC_qI D cI cZ cO ad gh de below args s M) (k9 x2 x3 x4) 9 [some (.ref (ad 6)), none, some (.int x2), some (.int (rv_i x3)), some (.int x4), none, none] [] M) : ∀ (x2 : Int32) (x3 : Bool) (x4 : Int32), rv_M (rC_G D cI cZ cO ad gh de) (rC_K ad gh) p l e rm5_groupOf s m args below meth c 0 0 (rC_qI D cI cZ cO ad gh de below args s M) (f5_groupOf_9_s gh M k9 x2 x3 x4) 9 [some (.ref (ad 6)), none, some (.int x2), some (.int (rv_i x3)), some (.int x4), none, none] [] M := by
  intro x2 x3 x4
  unfold f5_groupOf_9_s
  refine rv_iload (q := 11) E.x dX5_groupOf_9 rfl rfl ?_
  refine rv_bipush (q := 13) E.x dX5_groupOf_11 rv_kb20 rfl ?_
  refine rv_icmp_ge (q := 16) (tgt := 90) E.x dX5_groupOf_13 (by decide) rfl ?_ ?_
  · refine rv_iload_n (q := 17) E.x dX5_groupOf_16 rfl rfl ?_
    refine rv_ifz_eq (q := 20) (tgt := 90) E.x dX5_groupOf_17 (by decide) rfl ?_ ?_
    · refine rv_iload_n (q := 21) E.x dX5_groupOf_20 rfl rfl ?_
      refine rv_istore (q := 23) (lv' := [_, _, _, _, _, _, _]) E.x dX5_groupOf_21 (Nat.le_of_ble_eq_true rfl) rfl rfl rfl ?_
      refine rv_iconst (q := 24) E.x dX5_groupOf_23 rv_ki0 rfl ?_
      refine rv_istore (q := 26) (lv' := [_, _, _, _, _, _, _]) E.x dX5_groupOf_24 (Nat.le_of_ble_eq_true rfl) rfl rfl rfl ?_
      refine rv_wk [true, false, true, false, true, true, true] ?_
      exact b5_groupOf_26 E M k9 h9 rv_FU x2 x4 x2 0
    · refine rv_iload_n (q := 91) E.x dX5_groupOf_90 rfl rfl ?_
      exact rC_iret E rfl dX5_groupOf_91
  · refine rv_iload_n (q := 91) E.x dX5_groupOf_90 rfl rfl ?_
    exact rC_iret E rfl dX5_groupOf_91
theorem b5_groupOf_9 {p : Program} {l : Launch} {e : Env} {s : State} {m : MethodId} {args : Array Value} {below : List Frame} {meth : Method} {c : Code} {D : va_G} {cI cZ cO : ClassId} {ad : Nat → Nat} {gh : rC_gh} {de : Nat} (E : rC_E D cI cZ cO ad gh (rC_K ad gh) RX5 cX5_groupOf 7 (some .int) p s m args meth c) (M : rv_Mem)   : ∀ (n : Nat), ∀ (x2 : Int32) (x3 : Bool) (x4 : Int32), rv_M (rC_G D cI cZ cO ad gh de) (rC_K ad gh) p l e rm5_groupOf s m args below meth c 0 0 (rC_qI D cI cZ cO ad gh de below args s M) (f5_groupOf_9 gh M n x2 x3 x4) 9 [some (.ref (ad 6)), none, some (.int x2), some (.int (rv_i x3)), some (.int x4), none, none] [] M := by
  intro n
  induction n with
  | zero => exact fun _ _ _ => rv_stuck
  | succ n ih => exact b5_groupOf_9_s E M (f5_groupOf_9 gh M n) ih
set_option maxRecDepth 100000 in
theorem b5_groupOf {p : Program} {l : Launch} {e : Env} {s : State} {m : MethodId} {args : Array Value} {below : List Frame} {meth : Method} {c : Code} {D : va_G} {cI cZ cO : ClassId} {ad : Nat → Nat} {gh : rC_gh} {de : Nat} (E : rC_E D cI cZ cO ad gh (rC_K ad gh) RX5 cX5_groupOf 7 (some .int) p s m args meth c) (M : rv_Mem) (a1 : Int32) : rv_M (rC_G D cI cZ cO ad gh de) (rC_K ad gh) p l e rm5_groupOf s m args below meth c 0 0 (rC_qI D cI cZ cO ad gh de below args s M) (f5_groupOf gh M a1) 0 [some (.ref (ad 6)), some (.int a1), none, none, none, none, none] [] M := by
  unfold f5_groupOf
  refine rv_iconst (q := 1) E.x dX5_groupOf_0 rv_ki1 rfl ?_
  refine rv_iload_n (q := 2) E.x dX5_groupOf_1 rfl rfl ?_
  refine rv_ishl (q := 3) E.x dX5_groupOf_2 rfl ?_
  refine rv_istore_n (q := 4) (lv' := [_, _, _, _, _, _, _]) E.x dX5_groupOf_3 (Nat.le_of_ble_eq_true rfl) rfl rfl rfl ?_
  refine rv_iconst (q := 5) E.x dX5_groupOf_4 rv_ki1 rfl ?_
  refine rv_istore_n (q := 6) (lv' := [_, _, _, _, _, _, _]) E.x dX5_groupOf_5 (Nat.le_of_ble_eq_true rfl) rfl rfl rfl ?_
  refine rv_iconst (q := 7) E.x dX5_groupOf_6 rv_ki0 rfl ?_
  refine rv_istore (q := 9) (lv' := [_, _, _, _, _, _, _]) E.x dX5_groupOf_7 (Nat.le_of_ble_eq_true rfl) rfl rfl rfl ?_
  refine rv_wk [true, false, true, true, true, false, false] ?_
  exact b5_groupOf_9 E M rv_FU ((1 : Int32) <<< (a1 &&& 31)) true 0
theorem c5_groupOf {l : Launch} {D : va_G} {cI cZ cO : ClassId} {ad : Nat → Nat} {gh : rC_gh} {de : Nat} (hI : rC_I ad gh) {M : rv_Mem} {a1 : Int32} {r : Int32} (h : f5_groupOf gh M a1 = some r) : Met l yX5_groupOf (rv_ws yX5_groupOf cX5_groupOf 7 (some .int)) rm5_groupOf (rC_Pc D cI cZ cO ad gh de [.ref (ad 6), .int a1] M) (rC_QI D cI cZ cO ad gh de r M) 0 0 (rC_K ad gh) := rC_met hI rfl (by decide) (Nat.le_of_ble_eq_true rfl) (fun p e s m args below meth c E => ⟨(rC_qI D cI cZ cO ad gh de below args s M), rfl, b5_groupOf E M a1⟩) h
abbrev rm5_findSquashed : Room := { frames := 4, cells := 0, slots := 0, locals := 101 }
set_option maxRecDepth 100000 in
theorem b5_findSquashed_92 {p : Program} {l : Launch} {e : Env} {s : State} {m : MethodId} {args : Array Value} {below : List Frame} {meth : Method} {c : Code} {D : va_G} {cI cZ cO : ClassId} {ad : Nat → Nat} {gh : rC_gh} {de : Nat} (E : rC_E D cI cZ cO ad gh (rC_K ad gh) RX5 cX5_findSquashed 6 (some .int) p s m args meth c) (M : rv_Mem) (k4 : Int32 → Int32 → Int32 → Option (Int32)) (h4 : ∀ (x1 : Int32) (x2 : Int32) (x3 : Int32), rv_M (rC_G D cI cZ cO ad gh de) (rC_K ad gh) p l e rm5_findSquashed s m args below meth c 0 0 (rC_qI D cI cZ cO ad gh de below args s M) (k4 x1 x2 x3) 4 [some (.ref (ad 6)), some (.int x1), some (.int x2), some (.int x3), none, none] [] M) : ∀ (x1 : Int32) (x2 : Int32) (x3 : Int32), rv_M (rC_G D cI cZ cO ad gh de) (rC_K ad gh) p l e rm5_findSquashed s m args below meth c 0 0 (rC_qI D cI cZ cO ad gh de below args s M) (f5_findSquashed_92 gh M k4 x1 x2 x3) 92 [some (.ref (ad 6)), some (.int x1), some (.int x2), some (.int x3), none, none] [] M := by
  intro x1 x2 x3
  unfold f5_findSquashed_92
  refine rv_iinc (q := 95) (lv' := [_, _, _, _, _, _]) E.x dX5_findSquashed_92 rv_ki1 rfl rfl rfl rfl ?_
  refine rv_goto (q := 4) E.x dX5_findSquashed_95 (by decide) ?_
  refine rv_wk [true, true, true, true, false, false] ?_
  exact h4 x1 x2 (x3 + 1)
set_option maxRecDepth 100000 in
theorem b5_findSquashed_53 {p : Program} {l : Launch} {e : Env} {s : State} {m : MethodId} {args : Array Value} {below : List Frame} {meth : Method} {c : Code} {D : va_G} {cI cZ cO : ClassId} {ad : Nat → Nat} {gh : rC_gh} {de : Nat} (E : rC_E D cI cZ cO ad gh (rC_K ad gh) RX5 cX5_findSquashed 6 (some .int) p s m args meth c) (M : rv_Mem) (k4 : Int32 → Int32 → Int32 → Option (Int32)) (h4 : ∀ (x1 : Int32) (x2 : Int32) (x3 : Int32), rv_M (rC_G D cI cZ cO ad gh de) (rC_K ad gh) p l e rm5_findSquashed s m args below meth c 0 0 (rC_qI D cI cZ cO ad gh de below args s M) (k4 x1 x2 x3) 4 [some (.ref (ad 6)), some (.int x1), some (.int x2), some (.int x3), none, none] [] M) : ∀ (x1 : Int32) (x2 : Int32) (x3 : Int32) (x4 : Int32) (s0 : Bool), rv_M (rC_G D cI cZ cO ad gh de) (rC_K ad gh) p l e rm5_findSquashed s m args below meth c 0 0 (rC_qI D cI cZ cO ad gh de below args s M) (f5_findSquashed_53 gh M k4 x1 x2 x3 x4 s0) 53 [some (.ref (ad 6)), some (.int x1), some (.int x2), some (.int x3), some (.int x4), none] [.int (rv_i s0)] M := by
  intro x1 x2 x3 x4 s0
  unfold f5_findSquashed_53
  refine rv_istore (q := 55) (lv' := [_, _, _, _, _, _]) E.x dX5_findSquashed_53 (Nat.le_of_ble_eq_true rfl) rfl rfl rfl ?_
  refine rv_iload (q := 57) E.x dX5_findSquashed_55 rfl rfl ?_
  refine rv_ifz_eq (q := 60) (tgt := 92) E.x dX5_findSquashed_57 (by decide) rfl ?_ ?_
  · refine rv_aload_n (q := 61) E.x dX5_findSquashed_60 rfl rfl ?_
    refine rC_getX5 (q := 64) E 6 3 wfX5_9 rfl (Nat.le_of_ble_eq_true rfl) ⟨rfl, rfl⟩ rfl dX5_findSquashed_61 rfl ?_
    refine rv_aload_n (q := 65) E.x dX5_findSquashed_64 rfl rfl ?_
    refine rC_getX5 (q := 68) E 6 2 wfX5_26 rfl (Nat.le_of_ble_eq_true rfl) ⟨rfl, rfl⟩ rfl dX5_findSquashed_65 rfl ?_
    refine rv_iload_n (q := 69) E.x dX5_findSquashed_68 rfl rfl ?_
    refine rC_lgt (q := 72) E 0 (by decide) (cJ_get E.2.2.1 0) ⟨rfl, rfl⟩ gX5_50 ⟨Nat.le_of_ble_eq_true rfl, Nat.le_of_ble_eq_true rfl⟩ ⟨Nat.le_of_ble_eq_true rfl, Nat.le_of_ble_eq_true rfl⟩ rfl (Nat.le_of_ble_eq_true rfl) dX5_findSquashed_69 rfl ?_
    refine rv_g (fun g1 => ?_)
    refine rC_cstX0 (q := 75) E (rC_at_of g1) wxX5_54 dX5_findSquashed_72 rfl ?_
    refine rC_getX0 (q := 78) E (100 + (x3).toNatClampNeg) 2 wfX5_103 rfl (Nat.le_of_ble_eq_true rfl) (rC_at_of g1) rfl dX5_findSquashed_75 rfl ?_
    refine rv_b1 (fun r3 e2 => ?_)
    refine rC_callsi (q := 81) E (c9_read E.2.2.1 e2) gX5_30 hX9_read ⟨rfl, rfl⟩ ⟨Nat.le_of_ble_eq_true rfl, Nat.le_of_ble_eq_true rfl⟩ ⟨Nat.le_of_ble_eq_true rfl, Nat.le_of_ble_eq_true rfl⟩ rfl rfl rfl (Nat.le_of_ble_eq_true rfl) dX5_findSquashed_78 rfl ?_
    refine rv_iconst (q := 82) E.x dX5_findSquashed_81 rv_ki2 rfl ?_
    refine rv_icmp_ne (q := 85) (tgt := 92) E.x dX5_findSquashed_82 (by decide) rfl ?_ ?_
    · refine rv_iload_n (q := 86) E.x dX5_findSquashed_85 rfl rfl ?_
      refine rv_iconst (q := 87) E.x dX5_findSquashed_86 rv_ki1 rfl ?_
      refine rv_iload (q := 89) E.x dX5_findSquashed_87 rfl rfl ?_
      refine rv_ishl (q := 90) E.x dX5_findSquashed_89 rfl ?_
      refine rv_ior (q := 91) E.x dX5_findSquashed_90 rfl ?_
      refine rv_istore_n (q := 92) (lv' := [_, _, _, _, _, _]) E.x dX5_findSquashed_91 (Nat.le_of_ble_eq_true rfl) rfl rfl rfl ?_
      refine rv_wk [true, true, true, true, false, false] ?_
      exact b5_findSquashed_92 E M k4 h4 x1 (x2 ||| ((1 : Int32) <<< (x4 &&& 31))) x3
    · refine rv_wk [true, true, true, true, false, false] ?_
      exact b5_findSquashed_92 E M k4 h4 x1 x2 x3
  · refine rv_wk [true, true, true, true, false, false] ?_
    exact b5_findSquashed_92 E M k4 h4 x1 x2 x3
set_option maxRecDepth 100000 in
theorem b5_findSquashed_52 {p : Program} {l : Launch} {e : Env} {s : State} {m : MethodId} {args : Array Value} {below : List Frame} {meth : Method} {c : Code} {D : va_G} {cI cZ cO : ClassId} {ad : Nat → Nat} {gh : rC_gh} {de : Nat} (E : rC_E D cI cZ cO ad gh (rC_K ad gh) RX5 cX5_findSquashed 6 (some .int) p s m args meth c) (M : rv_Mem) (k4 : Int32 → Int32 → Int32 → Option (Int32)) (h4 : ∀ (x1 : Int32) (x2 : Int32) (x3 : Int32), rv_M (rC_G D cI cZ cO ad gh de) (rC_K ad gh) p l e rm5_findSquashed s m args below meth c 0 0 (rC_qI D cI cZ cO ad gh de below args s M) (k4 x1 x2 x3) 4 [some (.ref (ad 6)), some (.int x1), some (.int x2), some (.int x3), none, none] [] M) : ∀ (x1 : Int32) (x2 : Int32) (x3 : Int32) (x4 : Int32), rv_M (rC_G D cI cZ cO ad gh de) (rC_K ad gh) p l e rm5_findSquashed s m args below meth c 0 0 (rC_qI D cI cZ cO ad gh de below args s M) (f5_findSquashed_52 gh M k4 x1 x2 x3 x4) 52 [some (.ref (ad 6)), some (.int x1), some (.int x2), some (.int x3), some (.int x4), none] [] M := by
  intro x1 x2 x3 x4
  unfold f5_findSquashed_52
  refine rv_iconst (q := 53) E.x dX5_findSquashed_52 rv_ki0 rfl ?_
  refine rv_wk [true, true, true, true, true, false] ?_
  exact b5_findSquashed_53 E M k4 h4 x1 x2 x3 x4 false
set_option maxRecDepth 100000 in
theorem b5_findSquashed_4_s {p : Program} {l : Launch} {e : Env} {s : State} {m : MethodId} {args : Array Value} {below : List Frame} {meth : Method} {c : Code} {D : va_G} {cI cZ cO : ClassId} {ad : Nat → Nat} {gh : rC_gh} {de : Nat} (E : rC_E D cI cZ cO ad gh (rC_K ad gh) RX5 cX5_findSquashed 6 (some .int) p s m args meth c) (M : rv_Mem)   (k4 : Int32 → Int32 → Int32 → Option (Int32)) (h4 : ∀ (x1 : Int32) (x2 : Int32) (x3 : Int32), rv_M (rC_G D cI cZ cO ad gh de) (rC_K ad gh) p l e rm5_findSquashed s m args below meth c 0 0 (rC_qI D cI cZ cO ad gh de below args s M) (k4 x1 x2 x3) 4 [some (.ref (ad 6)), some (.int x1), some (.int x2), some (.int x3), none, none] [] M) : ∀ (x1 : Int32) (x2 : Int32) (x3 : Int32), rv_M (rC_G D cI cZ cO ad gh de) (rC_K ad gh) p l e rm5_findSquashed s m args below meth c 0 0 (rC_qI D cI cZ cO ad gh de below args s M) (f5_findSquashed_4_s gh M k4 x1 x2 x3) 4 [some (.ref (ad 6)), some (.int x1), some (.int x2), some (.int x3), none, none] [] M := by
  intro x1 x2 x3
  unfold f5_findSquashed_4_s
  refine rv_iload_n (q := 5) E.x dX5_findSquashed_4 rfl rfl ?_
  refine rv_aload_n (q := 6) E.x dX5_findSquashed_5 rfl rfl ?_
  refine rC_getX5 (q := 9) E 6 2 wfX5_26 rfl (Nat.le_of_ble_eq_true rfl) ⟨rfl, rfl⟩ rfl dX5_findSquashed_6 rfl ?_
  refine rC_lsz (q := 12) E 0 (by decide) (cJ_size E.2.2.1 0) gX5_40 ⟨Nat.le_of_ble_eq_true rfl, Nat.le_of_ble_eq_true rfl⟩ ⟨Nat.le_of_ble_eq_true rfl, Nat.le_of_ble_eq_true rfl⟩ rfl (Nat.le_of_ble_eq_true rfl) dX5_findSquashed_9 rfl ?_
  refine rv_icmp_ge (q := 15) (tgt := 98) E.x dX5_findSquashed_12 (by decide) rfl ?_ ?_
  · refine rv_aload_n (q := 16) E.x dX5_findSquashed_15 rfl rfl ?_
    refine rC_getX5 (q := 19) E 6 0 wfX5_18 rfl (Nat.le_of_ble_eq_true rfl) ⟨rfl, rfl⟩ rfl dX5_findSquashed_16 rfl ?_
    refine rv_iload_n (q := 20) E.x dX5_findSquashed_19 rfl rfl ?_
    refine rv_b1 (fun r2 e1 => ?_)
    refine rC_calliX9 (q := 23) E ⟨rfl, rfl⟩ (c9_parentNumber E.2.2.1 e1) gX5_64 hX9_parentNumber ⟨rfl, rfl⟩ ⟨Nat.le_of_ble_eq_true rfl, Nat.le_of_ble_eq_true rfl⟩ ⟨Nat.le_of_ble_eq_true rfl, Nat.le_of_ble_eq_true rfl⟩ rfl rfl rfl (Nat.le_of_ble_eq_true rfl) dX5_findSquashed_20 rfl ?_
    refine rv_istore (q := 25) (lv' := [_, _, _, _, _, _]) E.x dX5_findSquashed_23 (Nat.le_of_ble_eq_true rfl) rfl rfl rfl ?_
    refine rv_iload_n (q := 26) E.x dX5_findSquashed_25 rfl rfl ?_
    refine rv_iload_n (q := 27) E.x dX5_findSquashed_26 rfl rfl ?_
    refine rv_b1 (fun r4 e3 => ?_)
    refine rC_calln (q := 30) E (c11_isIn e3) gX5_46 E.2.2.2.2.2.2.2.1 wsgX5_46 wi_ReviewForge hX11_isIn ⟨rfl, rfl⟩ ⟨Nat.le_of_ble_eq_true rfl, Nat.le_of_ble_eq_true rfl⟩ ⟨Nat.le_of_ble_eq_true rfl, Nat.le_of_ble_eq_true rfl⟩ rfl rfl rfl (Nat.le_of_ble_eq_true rfl) dX5_findSquashed_27 rfl ?_
    refine rv_ifz_eq (q := 33) (tgt := 52) E.x dX5_findSquashed_30 (by decide) rfl ?_ ?_
    · refine rv_iload (q := 35) E.x dX5_findSquashed_33 rfl rfl ?_
      refine rv_iconst (q := 36) E.x dX5_findSquashed_35 rv_kim1 rfl ?_
      refine rv_icmp_eq (q := 39) (tgt := 52) E.x dX5_findSquashed_36 (by decide) rfl ?_ ?_
      · refine rv_iload_n (q := 40) E.x dX5_findSquashed_39 rfl rfl ?_
        refine rv_iload (q := 42) E.x dX5_findSquashed_40 rfl rfl ?_
        refine rv_b1 (fun r6 e5 => ?_)
        refine rC_calln (q := 45) E (c11_isIn e5) gX5_46 E.2.2.2.2.2.2.2.1 wsgX5_46 wi_ReviewForge hX11_isIn ⟨rfl, rfl⟩ ⟨Nat.le_of_ble_eq_true rfl, Nat.le_of_ble_eq_true rfl⟩ ⟨Nat.le_of_ble_eq_true rfl, Nat.le_of_ble_eq_true rfl⟩ rfl rfl rfl (Nat.le_of_ble_eq_true rfl) dX5_findSquashed_42 rfl ?_
        refine rv_ifz_eq (q := 48) (tgt := 52) E.x dX5_findSquashed_45 (by decide) rfl ?_ ?_
        · refine rv_iconst (q := 49) E.x dX5_findSquashed_48 rv_ki1 rfl ?_
          refine rv_goto (q := 53) E.x dX5_findSquashed_49 (by decide) ?_
          refine rv_wk [true, true, true, true, true, false] ?_
          exact b5_findSquashed_53 E M k4 h4 x1 x2 x3 r2 true
        · refine rv_wk [true, true, true, true, true, false] ?_
          exact b5_findSquashed_52 E M k4 h4 x1 x2 x3 r2
      · refine rv_wk [true, true, true, true, true, false] ?_
        exact b5_findSquashed_52 E M k4 h4 x1 x2 x3 r2
    · refine rv_wk [true, true, true, true, true, false] ?_
      exact b5_findSquashed_52 E M k4 h4 x1 x2 x3 r2
  · refine rv_iload_n (q := 99) E.x dX5_findSquashed_98 rfl rfl ?_
    exact rC_iret E rfl dX5_findSquashed_99
theorem b5_findSquashed_4 {p : Program} {l : Launch} {e : Env} {s : State} {m : MethodId} {args : Array Value} {below : List Frame} {meth : Method} {c : Code} {D : va_G} {cI cZ cO : ClassId} {ad : Nat → Nat} {gh : rC_gh} {de : Nat} (E : rC_E D cI cZ cO ad gh (rC_K ad gh) RX5 cX5_findSquashed 6 (some .int) p s m args meth c) (M : rv_Mem)   : ∀ (n : Nat), ∀ (x1 : Int32) (x2 : Int32) (x3 : Int32), rv_M (rC_G D cI cZ cO ad gh de) (rC_K ad gh) p l e rm5_findSquashed s m args below meth c 0 0 (rC_qI D cI cZ cO ad gh de below args s M) (f5_findSquashed_4 gh M n x1 x2 x3) 4 [some (.ref (ad 6)), some (.int x1), some (.int x2), some (.int x3), none, none] [] M := by
  intro n
  induction n with
  | zero => exact fun _ _ _ => rv_stuck
  | succ n ih => exact b5_findSquashed_4_s E M (f5_findSquashed_4 gh M n) ih
set_option maxRecDepth 100000 in
theorem b5_findSquashed {p : Program} {l : Launch} {e : Env} {s : State} {m : MethodId} {args : Array Value} {below : List Frame} {meth : Method} {c : Code} {D : va_G} {cI cZ cO : ClassId} {ad : Nat → Nat} {gh : rC_gh} {de : Nat} (E : rC_E D cI cZ cO ad gh (rC_K ad gh) RX5 cX5_findSquashed 6 (some .int) p s m args meth c) (M : rv_Mem) (a1 : Int32) : rv_M (rC_G D cI cZ cO ad gh de) (rC_K ad gh) p l e rm5_findSquashed s m args below meth c 0 0 (rC_qI D cI cZ cO ad gh de below args s M) (f5_findSquashed gh M a1) 0 [some (.ref (ad 6)), some (.int a1), none, none, none, none] [] M := by
  unfold f5_findSquashed
  refine rv_iconst (q := 1) E.x dX5_findSquashed_0 rv_ki0 rfl ?_
  refine rv_istore_n (q := 2) (lv' := [_, _, _, _, _, _]) E.x dX5_findSquashed_1 (Nat.le_of_ble_eq_true rfl) rfl rfl rfl ?_
  refine rv_iconst (q := 3) E.x dX5_findSquashed_2 rv_ki0 rfl ?_
  refine rv_istore_n (q := 4) (lv' := [_, _, _, _, _, _]) E.x dX5_findSquashed_3 (Nat.le_of_ble_eq_true rfl) rfl rfl rfl ?_
  refine rv_wk [true, true, true, true, false, false] ?_
  exact b5_findSquashed_4 E M rv_FU a1 0 0
theorem c5_findSquashed {l : Launch} {D : va_G} {cI cZ cO : ClassId} {ad : Nat → Nat} {gh : rC_gh} {de : Nat} (hI : rC_I ad gh) {M : rv_Mem} {a1 : Int32} {r : Int32} (h : f5_findSquashed gh M a1 = some r) : Met l yX5_findSquashed (rv_ws yX5_findSquashed cX5_findSquashed 6 (some .int)) rm5_findSquashed (rC_Pc D cI cZ cO ad gh de [.ref (ad 6), .int a1] M) (rC_QI D cI cZ cO ad gh de r M) 0 0 (rC_K ad gh) := rC_met hI rfl (by decide) (Nat.le_of_ble_eq_true rfl) (fun p e s m args below meth c E => ⟨(rC_qI D cI cZ cO ad gh de below args s M), rfl, b5_findSquashed E M a1⟩) h
abbrev rm5_nextOf : Room := { frames := 2, cells := 0, slots := 0, locals := 42 }
set_option maxRecDepth 100000 in
theorem b5_nextOf_45 {p : Program} {l : Launch} {e : Env} {s : State} {m : MethodId} {args : Array Value} {below : List Frame} {meth : Method} {c : Code} {D : va_G} {cI cZ cO : ClassId} {ad : Nat → Nat} {gh : rC_gh} {de : Nat} (E : rC_E D cI cZ cO ad gh (rC_K ad gh) RX5 cX5_nextOf 4 (some .int) p s m args meth c) (M : rv_Mem) (k2 : Int32 → Int32 → Option (Int32)) (h2 : ∀ (x1 : Int32) (x2 : Int32), rv_M (rC_G D cI cZ cO ad gh de) (rC_K ad gh) p l e rm5_nextOf s m args below meth c 0 0 (rC_qI D cI cZ cO ad gh de below args s M) (k2 x1 x2) 2 [some (.ref (ad 6)), some (.int x1), some (.int x2), none] [] M) : ∀ (x1 : Int32) (x2 : Int32), rv_M (rC_G D cI cZ cO ad gh de) (rC_K ad gh) p l e rm5_nextOf s m args below meth c 0 0 (rC_qI D cI cZ cO ad gh de below args s M) (f5_nextOf_45 gh M k2 x1 x2) 45 [some (.ref (ad 6)), some (.int x1), some (.int x2), none] [] M := by
  intro x1 x2
  unfold f5_nextOf_45
  refine rv_iinc (q := 48) (lv' := [_, _, _, _]) E.x dX5_nextOf_45 rv_ki1 rfl rfl rfl rfl ?_
  refine rv_goto (q := 2) E.x dX5_nextOf_48 (by decide) ?_
  refine rv_wk [true, true, true, false] ?_
  exact h2 x1 (x2 + 1)
set_option maxRecDepth 100000 in
theorem b5_nextOf_2_s {p : Program} {l : Launch} {e : Env} {s : State} {m : MethodId} {args : Array Value} {below : List Frame} {meth : Method} {c : Code} {D : va_G} {cI cZ cO : ClassId} {ad : Nat → Nat} {gh : rC_gh} {de : Nat} (E : rC_E D cI cZ cO ad gh (rC_K ad gh) RX5 cX5_nextOf 4 (some .int) p s m args meth c) (M : rv_Mem)   (k2 : Int32 → Int32 → Option (Int32)) (h2 : ∀ (x1 : Int32) (x2 : Int32), rv_M (rC_G D cI cZ cO ad gh de) (rC_K ad gh) p l e rm5_nextOf s m args below meth c 0 0 (rC_qI D cI cZ cO ad gh de below args s M) (k2 x1 x2) 2 [some (.ref (ad 6)), some (.int x1), some (.int x2), none] [] M) : ∀ (x1 : Int32) (x2 : Int32), rv_M (rC_G D cI cZ cO ad gh de) (rC_K ad gh) p l e rm5_nextOf s m args below meth c 0 0 (rC_qI D cI cZ cO ad gh de below args s M) (f5_nextOf_2_s gh M k2 x1 x2) 2 [some (.ref (ad 6)), some (.int x1), some (.int x2), none] [] M := by
  intro x1 x2
  unfold f5_nextOf_2_s
  refine rv_iload_n (q := 3) E.x dX5_nextOf_2 rfl rfl ?_
  refine rv_aload_n (q := 4) E.x dX5_nextOf_3 rfl rfl ?_
  refine rC_getX5 (q := 7) E 6 2 wfX5_26 rfl (Nat.le_of_ble_eq_true rfl) ⟨rfl, rfl⟩ rfl dX5_nextOf_4 rfl ?_
  refine rC_lsz (q := 10) E 0 (by decide) (cJ_size E.2.2.1 0) gX5_40 ⟨Nat.le_of_ble_eq_true rfl, Nat.le_of_ble_eq_true rfl⟩ ⟨Nat.le_of_ble_eq_true rfl, Nat.le_of_ble_eq_true rfl⟩ rfl (Nat.le_of_ble_eq_true rfl) dX5_nextOf_7 rfl ?_
  refine rv_icmp_ge (q := 13) (tgt := 51) E.x dX5_nextOf_10 (by decide) rfl ?_ ?_
  · refine rv_aload_n (q := 14) E.x dX5_nextOf_13 rfl rfl ?_
    refine rC_getX5 (q := 17) E 6 0 wfX5_18 rfl (Nat.le_of_ble_eq_true rfl) ⟨rfl, rfl⟩ rfl dX5_nextOf_14 rfl ?_
    refine rv_iload_n (q := 18) E.x dX5_nextOf_17 rfl rfl ?_
    refine rv_b1 (fun r2 e1 => ?_)
    refine rC_calliX9 (q := 21) E ⟨rfl, rfl⟩ (c9_parentNumber E.2.2.1 e1) gX5_64 hX9_parentNumber ⟨rfl, rfl⟩ ⟨Nat.le_of_ble_eq_true rfl, Nat.le_of_ble_eq_true rfl⟩ ⟨Nat.le_of_ble_eq_true rfl, Nat.le_of_ble_eq_true rfl⟩ rfl rfl rfl (Nat.le_of_ble_eq_true rfl) dX5_nextOf_18 rfl ?_
    refine rv_istore_n (q := 22) (lv' := [_, _, _, _]) E.x dX5_nextOf_21 (Nat.le_of_ble_eq_true rfl) rfl rfl rfl ?_
    refine rv_iload_n (q := 23) E.x dX5_nextOf_22 rfl rfl ?_
    refine rv_iload_n (q := 24) E.x dX5_nextOf_23 rfl rfl ?_
    refine rv_b1 (fun r4 e3 => ?_)
    refine rC_calln (q := 27) E (c11_isIn e3) gX5_46 E.2.2.2.2.2.2.2.1 wsgX5_46 wi_ReviewForge hX11_isIn ⟨rfl, rfl⟩ ⟨Nat.le_of_ble_eq_true rfl, Nat.le_of_ble_eq_true rfl⟩ ⟨Nat.le_of_ble_eq_true rfl, Nat.le_of_ble_eq_true rfl⟩ rfl rfl rfl (Nat.le_of_ble_eq_true rfl) dX5_nextOf_24 rfl ?_
    refine rv_ifz_eq (q := 30) (tgt := 45) E.x dX5_nextOf_27 (by decide) rfl ?_ ?_
    · refine rv_iload_n (q := 31) E.x dX5_nextOf_30 rfl rfl ?_
      refine rv_iconst (q := 32) E.x dX5_nextOf_31 rv_kim1 rfl ?_
      refine rv_icmp_eq (q := 35) (tgt := 43) E.x dX5_nextOf_32 (by decide) rfl ?_ ?_
      · refine rv_iload_n (q := 36) E.x dX5_nextOf_35 rfl rfl ?_
        refine rv_iload_n (q := 37) E.x dX5_nextOf_36 rfl rfl ?_
        refine rv_b1 (fun r6 e5 => ?_)
        refine rC_calln (q := 40) E (c11_isIn e5) gX5_46 E.2.2.2.2.2.2.2.1 wsgX5_46 wi_ReviewForge hX11_isIn ⟨rfl, rfl⟩ ⟨Nat.le_of_ble_eq_true rfl, Nat.le_of_ble_eq_true rfl⟩ ⟨Nat.le_of_ble_eq_true rfl, Nat.le_of_ble_eq_true rfl⟩ rfl rfl rfl (Nat.le_of_ble_eq_true rfl) dX5_nextOf_37 rfl ?_
        refine rv_ifz_ne (q := 43) (tgt := 45) E.x dX5_nextOf_40 (by decide) rfl ?_ ?_
        · refine rv_iload_n (q := 44) E.x dX5_nextOf_43 rfl rfl ?_
          exact rC_iret E rfl dX5_nextOf_44
        · refine rv_wk [true, true, true, false] ?_
          exact b5_nextOf_45 E M k2 h2 x1 x2
      · refine rv_iload_n (q := 44) E.x dX5_nextOf_43 rfl rfl ?_
        exact rC_iret E rfl dX5_nextOf_44
    · refine rv_wk [true, true, true, false] ?_
      exact b5_nextOf_45 E M k2 h2 x1 x2
  · refine rv_iconst (q := 52) E.x dX5_nextOf_51 rv_kim1 rfl ?_
    exact rC_iret E rfl dX5_nextOf_52
theorem b5_nextOf_2 {p : Program} {l : Launch} {e : Env} {s : State} {m : MethodId} {args : Array Value} {below : List Frame} {meth : Method} {c : Code} {D : va_G} {cI cZ cO : ClassId} {ad : Nat → Nat} {gh : rC_gh} {de : Nat} (E : rC_E D cI cZ cO ad gh (rC_K ad gh) RX5 cX5_nextOf 4 (some .int) p s m args meth c) (M : rv_Mem)   : ∀ (n : Nat), ∀ (x1 : Int32) (x2 : Int32), rv_M (rC_G D cI cZ cO ad gh de) (rC_K ad gh) p l e rm5_nextOf s m args below meth c 0 0 (rC_qI D cI cZ cO ad gh de below args s M) (f5_nextOf_2 gh M n x1 x2) 2 [some (.ref (ad 6)), some (.int x1), some (.int x2), none] [] M := by
  intro n
  induction n with
  | zero => exact fun _ _ => rv_stuck
  | succ n ih => exact b5_nextOf_2_s E M (f5_nextOf_2 gh M n) ih
set_option maxRecDepth 100000 in
theorem b5_nextOf {p : Program} {l : Launch} {e : Env} {s : State} {m : MethodId} {args : Array Value} {below : List Frame} {meth : Method} {c : Code} {D : va_G} {cI cZ cO : ClassId} {ad : Nat → Nat} {gh : rC_gh} {de : Nat} (E : rC_E D cI cZ cO ad gh (rC_K ad gh) RX5 cX5_nextOf 4 (some .int) p s m args meth c) (M : rv_Mem) (a1 : Int32) : rv_M (rC_G D cI cZ cO ad gh de) (rC_K ad gh) p l e rm5_nextOf s m args below meth c 0 0 (rC_qI D cI cZ cO ad gh de below args s M) (f5_nextOf gh M a1) 0 [some (.ref (ad 6)), some (.int a1), none, none] [] M := by
  unfold f5_nextOf
  refine rv_iconst (q := 1) E.x dX5_nextOf_0 rv_ki0 rfl ?_
  refine rv_istore_n (q := 2) (lv' := [_, _, _, _]) E.x dX5_nextOf_1 (Nat.le_of_ble_eq_true rfl) rfl rfl rfl ?_
  refine rv_wk [true, true, true, false] ?_
  exact b5_nextOf_2 E M rv_FU a1 0
theorem c5_nextOf {l : Launch} {D : va_G} {cI cZ cO : ClassId} {ad : Nat → Nat} {gh : rC_gh} {de : Nat} (hI : rC_I ad gh) {M : rv_Mem} {a1 : Int32} {r : Int32} (h : f5_nextOf gh M a1 = some r) : Met l yX5_nextOf (rv_ws yX5_nextOf cX5_nextOf 4 (some .int)) rm5_nextOf (rC_Pc D cI cZ cO ad gh de [.ref (ad 6), .int a1] M) (rC_QI D cI cZ cO ad gh de r M) 0 0 (rC_K ad gh) := rC_met hI rfl (by decide) (Nat.le_of_ble_eq_true rfl) (fun p e s m args below meth c E => ⟨(rC_qI D cI cZ cO ad gh de below args s M), rfl, b5_nextOf E M a1⟩) h
abbrev rm9_currentOf : Room := { frames := 1, cells := 0, slots := 0, locals := 21 }
set_option maxRecDepth 100000 in
theorem b9_currentOf {p : Program} {l : Launch} {e : Env} {s : State} {m : MethodId} {args : Array Value} {below : List Frame} {meth : Method} {c : Code} {D : va_G} {cI cZ cO : ClassId} {ad : Nat → Nat} {gh : rC_gh} {de : Nat} (E : rC_E D cI cZ cO ad gh (rC_K ad gh) RX9 cX9_currentOf 2 (some .int) p s m args meth c) (M : rv_Mem) (a1 : Int32) : rv_M (rC_G D cI cZ cO ad gh de) (rC_K ad gh) p l e rm9_currentOf s m args below meth c 0 0 (rC_qI D cI cZ cO ad gh de below args s M) (f9_currentOf gh M a1) 0 [some (.ref (ad 1)), some (.int a1)] [] M := by
  unfold f9_currentOf
  refine rv_aload_n (q := 1) E.x dX9_currentOf_0 rfl rfl ?_
  refine rC_getX9 (q := 4) E 1 9 wfX9_39 rfl (Nat.le_of_ble_eq_true rfl) ⟨rfl, rfl⟩ rfl dX9_currentOf_1 rfl ?_
  refine rv_iload_n (q := 5) E.x dX9_currentOf_4 rfl rfl ?_
  refine rv_b1 (fun r2 e1 => ?_)
  refine rC_callsi (q := 8) E (c9_read E.2.2.1 e1) gX9_52 hX9_read ⟨rfl, rfl⟩ ⟨Nat.le_of_ble_eq_true rfl, Nat.le_of_ble_eq_true rfl⟩ ⟨Nat.le_of_ble_eq_true rfl, Nat.le_of_ble_eq_true rfl⟩ rfl rfl rfl (Nat.le_of_ble_eq_true rfl) dX9_currentOf_5 rfl ?_
  exact rC_iret E rfl dX9_currentOf_8
theorem c9_currentOf {l : Launch} {D : va_G} {cI cZ cO : ClassId} {ad : Nat → Nat} {gh : rC_gh} {de : Nat} (hI : rC_I ad gh) {M : rv_Mem} {a1 : Int32} {r : Int32} (h : f9_currentOf gh M a1 = some r) : Met l yX9_currentOf (rv_ws yX9_currentOf cX9_currentOf 2 (some .int)) rm9_currentOf (rC_Pc D cI cZ cO ad gh de [.ref (ad 1), .int a1] M) (rC_QI D cI cZ cO ad gh de r M) 0 0 (rC_K ad gh) := rC_met hI rfl (by decide) (Nat.le_of_ble_eq_true rfl) (fun p e s m args below meth c E => ⟨(rC_qI D cI cZ cO ad gh de below args s M), rfl, b9_currentOf E M a1⟩) h
abbrev rm9_repositoryOf : Room := { frames := 1, cells := 0, slots := 0, locals := 21 }
set_option maxRecDepth 100000 in
theorem b9_repositoryOf {p : Program} {l : Launch} {e : Env} {s : State} {m : MethodId} {args : Array Value} {below : List Frame} {meth : Method} {c : Code} {D : va_G} {cI cZ cO : ClassId} {ad : Nat → Nat} {gh : rC_gh} {de : Nat} (E : rC_E D cI cZ cO ad gh (rC_K ad gh) RX9 cX9_repositoryOf 2 (some .int) p s m args meth c) (M : rv_Mem) (a1 : Int32) : rv_M (rC_G D cI cZ cO ad gh de) (rC_K ad gh) p l e rm9_repositoryOf s m args below meth c 0 0 (rC_qI D cI cZ cO ad gh de below args s M) (f9_repositoryOf gh M a1) 0 [some (.ref (ad 1)), some (.int a1)] [] M := by
  unfold f9_repositoryOf
  refine rv_aload_n (q := 1) E.x dX9_repositoryOf_0 rfl rfl ?_
  refine rC_getX9 (q := 4) E 1 2 wfX9_18 rfl (Nat.le_of_ble_eq_true rfl) ⟨rfl, rfl⟩ rfl dX9_repositoryOf_1 rfl ?_
  refine rv_iload_n (q := 5) E.x dX9_repositoryOf_4 rfl rfl ?_
  refine rv_b1 (fun r2 e1 => ?_)
  refine rC_callsi (q := 8) E (c9_read E.2.2.1 e1) gX9_52 hX9_read ⟨rfl, rfl⟩ ⟨Nat.le_of_ble_eq_true rfl, Nat.le_of_ble_eq_true rfl⟩ ⟨Nat.le_of_ble_eq_true rfl, Nat.le_of_ble_eq_true rfl⟩ rfl rfl rfl (Nat.le_of_ble_eq_true rfl) dX9_repositoryOf_5 rfl ?_
  exact rC_iret E rfl dX9_repositoryOf_8
theorem c9_repositoryOf {l : Launch} {D : va_G} {cI cZ cO : ClassId} {ad : Nat → Nat} {gh : rC_gh} {de : Nat} (hI : rC_I ad gh) {M : rv_Mem} {a1 : Int32} {r : Int32} (h : f9_repositoryOf gh M a1 = some r) : Met l yX9_repositoryOf (rv_ws yX9_repositoryOf cX9_repositoryOf 2 (some .int)) rm9_repositoryOf (rC_Pc D cI cZ cO ad gh de [.ref (ad 1), .int a1] M) (rC_QI D cI cZ cO ad gh de r M) 0 0 (rC_K ad gh) := rC_met hI rfl (by decide) (Nat.le_of_ble_eq_true rfl) (fun p e s m args below meth c E => ⟨(rC_qI D cI cZ cO ad gh de below args s M), rfl, b9_repositoryOf E M a1⟩) h
abbrev rm9_tipOf : Room := { frames := 1, cells := 0, slots := 0, locals := 21 }
set_option maxRecDepth 100000 in
theorem b9_tipOf {p : Program} {l : Launch} {e : Env} {s : State} {m : MethodId} {args : Array Value} {below : List Frame} {meth : Method} {c : Code} {D : va_G} {cI cZ cO : ClassId} {ad : Nat → Nat} {gh : rC_gh} {de : Nat} (E : rC_E D cI cZ cO ad gh (rC_K ad gh) RX9 cX9_tipOf 2 (some .int) p s m args meth c) (M : rv_Mem) (a1 : Int32) : rv_M (rC_G D cI cZ cO ad gh de) (rC_K ad gh) p l e rm9_tipOf s m args below meth c 0 0 (rC_qI D cI cZ cO ad gh de below args s M) (f9_tipOf gh M a1) 0 [some (.ref (ad 1)), some (.int a1)] [] M := by
  unfold f9_tipOf
  refine rv_aload_n (q := 1) E.x dX9_tipOf_0 rfl rfl ?_
  refine rC_getX9 (q := 4) E 1 8 wfX9_36 rfl (Nat.le_of_ble_eq_true rfl) ⟨rfl, rfl⟩ rfl dX9_tipOf_1 rfl ?_
  refine rv_iload_n (q := 5) E.x dX9_tipOf_4 rfl rfl ?_
  refine rv_b1 (fun r2 e1 => ?_)
  refine rC_callsi (q := 8) E (c9_read E.2.2.1 e1) gX9_52 hX9_read ⟨rfl, rfl⟩ ⟨Nat.le_of_ble_eq_true rfl, Nat.le_of_ble_eq_true rfl⟩ ⟨Nat.le_of_ble_eq_true rfl, Nat.le_of_ble_eq_true rfl⟩ rfl rfl rfl (Nat.le_of_ble_eq_true rfl) dX9_tipOf_5 rfl ?_
  exact rC_iret E rfl dX9_tipOf_8
theorem c9_tipOf {l : Launch} {D : va_G} {cI cZ cO : ClassId} {ad : Nat → Nat} {gh : rC_gh} {de : Nat} (hI : rC_I ad gh) {M : rv_Mem} {a1 : Int32} {r : Int32} (h : f9_tipOf gh M a1 = some r) : Met l yX9_tipOf (rv_ws yX9_tipOf cX9_tipOf 2 (some .int)) rm9_tipOf (rC_Pc D cI cZ cO ad gh de [.ref (ad 1), .int a1] M) (rC_QI D cI cZ cO ad gh de r M) 0 0 (rC_K ad gh) := rC_met hI rfl (by decide) (Nat.le_of_ble_eq_true rfl) (fun p e s m args below meth c E => ⟨(rC_qI D cI cZ cO ad gh de below args s M), rfl, b9_tipOf E M a1⟩) h
abbrev rm9_isFull : Room := { frames := 0, cells := 0, slots := 0, locals := 0 }
set_option maxRecDepth 100000 in
theorem b9_isFull {p : Program} {l : Launch} {e : Env} {s : State} {m : MethodId} {args : Array Value} {below : List Frame} {meth : Method} {c : Code} {D : va_G} {cI cZ cO : ClassId} {ad : Nat → Nat} {gh : rC_gh} {de : Nat} (E : rC_E D cI cZ cO ad gh (rC_K ad gh) RX9 cX9_isFull 1 (some .boolean) p s m args meth c) (M : rv_Mem)  : rv_M (rC_G D cI cZ cO ad gh de) (rC_K ad gh) p l e rm9_isFull s m args below meth c 0 0 (rC_qZ D cI cZ cO ad gh de below args s M) (f9_isFull gh M) 0 [some (.ref (ad 1))] [] M := by
  unfold f9_isFull
  refine rv_aload_n (q := 1) E.x dX9_isFull_0 rfl rfl ?_
  refine rC_getX9 (q := 4) E 1 10 wfX9_48 rfl (Nat.le_of_ble_eq_true rfl) ⟨rfl, rfl⟩ rfl dX9_isFull_1 rfl ?_
  refine rv_bipush (q := 6) E.x dX9_isFull_4 rv_kb80 rfl ?_
  refine rv_icmp_lt (q := 9) (tgt := 13) E.x dX9_isFull_6 (by decide) rfl ?_ ?_
  · refine rv_iconst (q := 10) E.x dX9_isFull_9 rv_ki1 rfl ?_
    refine rv_goto (q := 14) E.x dX9_isFull_10 (by decide) ?_
    exact rC_zret E true rfl dX9_isFull_14
  · refine rv_iconst (q := 14) E.x dX9_isFull_13 rv_ki0 rfl ?_
    exact rC_zret E false rfl dX9_isFull_14
theorem c9_isFull {l : Launch} {D : va_G} {cI cZ cO : ClassId} {ad : Nat → Nat} {gh : rC_gh} {de : Nat} (hI : rC_I ad gh) {M : rv_Mem} {r : Bool} (h : f9_isFull gh M = some r) : Met l yX9_isFull (rv_ws yX9_isFull cX9_isFull 1 (some .boolean)) rm9_isFull (rC_Pc D cI cZ cO ad gh de [.ref (ad 1)] M) (rC_QI D cI cZ cO ad gh de (rv_i r) M) 0 0 (rC_K ad gh) := rC_met hI rfl (by decide) (Nat.le_of_ble_eq_true rfl) (fun p e s m args below meth c E => ⟨(rC_qZ D cI cZ cO ad gh de below args s M), rfl, b9_isFull E M ⟩) h
abbrev rm5_squashedParentOf : Room := { frames := 2, cells := 0, slots := 0, locals := 42 }
set_option maxRecDepth 100000 in
theorem b5_squashedParentOf {p : Program} {l : Launch} {e : Env} {s : State} {m : MethodId} {args : Array Value} {below : List Frame} {meth : Method} {c : Code} {D : va_G} {cI cZ cO : ClassId} {ad : Nat → Nat} {gh : rC_gh} {de : Nat} (E : rC_E D cI cZ cO ad gh (rC_K ad gh) RX5 cX5_squashedParentOf 3 (some .int) p s m args meth c) (M : rv_Mem) (a1 : Int32) : rv_M (rC_G D cI cZ cO ad gh de) (rC_K ad gh) p l e rm5_squashedParentOf s m args below meth c 0 0 (rC_qI D cI cZ cO ad gh de below args s M) (f5_squashedParentOf gh M a1) 0 [some (.ref (ad 6)), some (.int a1), none] [] M := by
  unfold f5_squashedParentOf
  refine rv_aload_n (q := 1) E.x dX5_squashedParentOf_0 rfl rfl ?_
  refine rC_getX5 (q := 4) E 6 0 wfX5_18 rfl (Nat.le_of_ble_eq_true rfl) ⟨rfl, rfl⟩ rfl dX5_squashedParentOf_1 rfl ?_
  refine rv_iload_n (q := 5) E.x dX5_squashedParentOf_4 rfl rfl ?_
  refine rv_b1 (fun r2 e1 => ?_)
  refine rC_calliX9 (q := 8) E ⟨rfl, rfl⟩ (c9_parentNumber E.2.2.1 e1) gX5_64 hX9_parentNumber ⟨rfl, rfl⟩ ⟨Nat.le_of_ble_eq_true rfl, Nat.le_of_ble_eq_true rfl⟩ ⟨Nat.le_of_ble_eq_true rfl, Nat.le_of_ble_eq_true rfl⟩ rfl rfl rfl (Nat.le_of_ble_eq_true rfl) dX5_squashedParentOf_5 rfl ?_
  refine rv_istore_n (q := 9) (lv' := [_, _, _]) E.x dX5_squashedParentOf_8 (Nat.le_of_ble_eq_true rfl) rfl rfl rfl ?_
  refine rv_iload_n (q := 10) E.x dX5_squashedParentOf_9 rfl rfl ?_
  refine rv_iconst (q := 11) E.x dX5_squashedParentOf_10 rv_kim1 rfl ?_
  refine rv_icmp_eq (q := 14) (tgt := 29) E.x dX5_squashedParentOf_11 (by decide) rfl ?_ ?_
  · refine rv_aload_n (q := 15) E.x dX5_squashedParentOf_14 rfl rfl ?_
    refine rC_getX5 (q := 18) E 6 5 wfX5_89 rfl (Nat.le_of_ble_eq_true rfl) ⟨rfl, rfl⟩ rfl dX5_squashedParentOf_15 rfl ?_
    refine rv_iload_n (q := 19) E.x dX5_squashedParentOf_18 rfl rfl ?_
    refine rv_b1 (fun r4 e3 => ?_)
    refine rC_calln (q := 22) E (c11_isIn e3) gX5_46 E.2.2.2.2.2.2.2.1 wsgX5_46 wi_ReviewForge hX11_isIn ⟨rfl, rfl⟩ ⟨Nat.le_of_ble_eq_true rfl, Nat.le_of_ble_eq_true rfl⟩ ⟨Nat.le_of_ble_eq_true rfl, Nat.le_of_ble_eq_true rfl⟩ rfl rfl rfl (Nat.le_of_ble_eq_true rfl) dX5_squashedParentOf_19 rfl ?_
    refine rv_ifz_eq (q := 25) (tgt := 29) E.x dX5_squashedParentOf_22 (by decide) rfl ?_ ?_
    · refine rv_iload_n (q := 26) E.x dX5_squashedParentOf_25 rfl rfl ?_
      refine rv_goto (q := 30) E.x dX5_squashedParentOf_26 (by decide) ?_
      exact rC_iret E rfl dX5_squashedParentOf_30
    · refine rv_iconst (q := 30) E.x dX5_squashedParentOf_29 rv_kim1 rfl ?_
      exact rC_iret E rfl dX5_squashedParentOf_30
  · refine rv_iconst (q := 30) E.x dX5_squashedParentOf_29 rv_kim1 rfl ?_
    exact rC_iret E rfl dX5_squashedParentOf_30
theorem c5_squashedParentOf {l : Launch} {D : va_G} {cI cZ cO : ClassId} {ad : Nat → Nat} {gh : rC_gh} {de : Nat} (hI : rC_I ad gh) {M : rv_Mem} {a1 : Int32} {r : Int32} (h : f5_squashedParentOf gh M a1 = some r) : Met l yX5_squashedParentOf (rv_ws yX5_squashedParentOf cX5_squashedParentOf 3 (some .int)) rm5_squashedParentOf (rC_Pc D cI cZ cO ad gh de [.ref (ad 6), .int a1] M) (rC_QI D cI cZ cO ad gh de r M) 0 0 (rC_K ad gh) := rC_met hI rfl (by decide) (Nat.le_of_ble_eq_true rfl) (fun p e s m args below meth c E => ⟨(rC_qI D cI cZ cO ad gh de below args s M), rfl, b5_squashedParentOf E M a1⟩) h
