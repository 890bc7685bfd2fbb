abbrev rm12_leastHeight : Room := { frames := 0, cells := 0, slots := 0, locals := 0 }
set_option maxRecDepth 100000 in
theorem b12_leastHeight_98 {p : Program} {l : Launch} {e : Env} {s : State} {m : MethodId} {args : Array Value} {below : List Frame} {meth : Method} {c : Code} {D : va_G} {cI cZ : ClassId} {ad : Nat → Nat} (E : rR_E D cI cZ ad cX12_leastHeight 7 (some .int) p s m args meth c) (M : rv_Mem) (k5 : Int32 → Int32 → Int32 → Option (Int32)) (h5 : ∀ (x1 : Int32) (x2 : Int32) (x3 : Int32), rv_M (rR_G D cI cZ ad) (rR_A ad) p l e rm12_leastHeight s m args below meth c 0 0 (rR_qI D cI cZ ad below args s M) (k5 x1 x2 x3) 5 [some (.ref (ad 67)), some (.int x1), some (.int x2), some (.int x3), none, none, none] [] M) : ∀ (x1 : Int32) (x3 : Int32) (s0 : Int32), rv_M (rR_G D cI cZ ad) (rR_A ad) p l e rm12_leastHeight s m args below meth c 0 0 (rR_qI D cI cZ ad below args s M) (f12_leastHeight_98 M k5 x1 x3 s0) 98 [some (.ref (ad 67)), some (.int x1), none, some (.int x3), none, none, none] [.int s0] M := by
  intro x1 x3 s0
  unfold f12_leastHeight_98
  refine rv_istore_n (q := 99) (lv' := [_, _, _, _, _, _, _]) E.x dX12_leastHeight_98 (Nat.le_of_ble_eq_true rfl) rfl rfl rfl ?_
  refine rv_iinc (q := 102) (lv' := [_, _, _, _, _, _, _]) E.x dX12_leastHeight_99 rv_ki1 rfl rfl rfl rfl ?_
  refine rv_goto (q := 5) E.x dX12_leastHeight_102 (by decide) ?_
  refine rv_wk [true, true, true, true, false, false, false] ?_
  exact h5 x1 s0 (x3 + 1)
set_option maxRecDepth 100000 in
theorem b12_leastHeight_84 {p : Program} {l : Launch} {e : Env} {s : State} {m : MethodId} {args : Array Value} {below : List Frame} {meth : Method} {c : Code} {D : va_G} {cI cZ : ClassId} {ad : Nat → Nat} (E : rR_E D cI cZ ad cX12_leastHeight 7 (some .int) p s m args meth c) (M : rv_Mem) (k5 : Int32 → Int32 → Int32 → Option (Int32)) (h5 : ∀ (x1 : Int32) (x2 : Int32) (x3 : Int32), rv_M (rR_G D cI cZ ad) (rR_A ad) p l e rm12_leastHeight s m args below meth c 0 0 (rR_qI D cI cZ ad below args s M) (k5 x1 x2 x3) 5 [some (.ref (ad 67)), some (.int x1), some (.int x2), some (.int x3), none, none, none] [] M) : ∀ (x1 : Int32) (x2 : Int32) (x3 : Int32) (s0 : Int32), rv_M (rR_G D cI cZ ad) (rR_A ad) p l e rm12_leastHeight s m args below meth c 0 0 (rR_qI D cI cZ ad below args s M) (f12_leastHeight_84 M k5 x1 x2 x3 s0) 84 [some (.ref (ad 67)), some (.int x1), some (.int x2), some (.int x3), none, none, none] [.int s0] M := by
  intro x1 x2 x3 s0
  unfold f12_leastHeight_84
  refine rv_istore (q := 86) (lv' := [_, _, _, _, _, _, _]) E.x dX12_leastHeight_84 (Nat.le_of_ble_eq_true rfl) rfl rfl rfl ?_
  refine rv_iload (q := 88) E.x dX12_leastHeight_86 rfl rfl ?_
  refine rv_iload_n (q := 89) E.x dX12_leastHeight_88 rfl rfl ?_
  refine rv_icmp_le (q := 92) (tgt := 97) E.x dX12_leastHeight_89 (by decide) rfl ?_ ?_
  · refine rv_iload (q := 94) E.x dX12_leastHeight_92 rfl rfl ?_
    refine rv_goto (q := 98) E.x dX12_leastHeight_94 (by decide) ?_
    refine rv_wk [true, true, false, true, false, false, false] ?_
    exact b12_leastHeight_98 E M k5 h5 x1 x3 s0
  · refine rv_iload_n (q := 98) E.x dX12_leastHeight_97 rfl rfl ?_
    refine rv_wk [true, true, false, true, false, false, false] ?_
    exact b12_leastHeight_98 E M k5 h5 x1 x3 x2
set_option maxRecDepth 100000 in
theorem b12_leastHeight_51 {p : Program} {l : Launch} {e : Env} {s : State} {m : MethodId} {args : Array Value} {below : List Frame} {meth : Method} {c : Code} {D : va_G} {cI cZ : ClassId} {ad : Nat → Nat} (E : rR_E D cI cZ ad cX12_leastHeight 7 (some .int) p s m args meth c) (M : rv_Mem) (k5 : Int32 → Int32 → Int32 → Option (Int32)) (h5 : ∀ (x1 : Int32) (x2 : Int32) (x3 : Int32), rv_M (rR_G D cI cZ ad) (rR_A ad) p l e rm12_leastHeight s m args below meth c 0 0 (rR_qI D cI cZ ad below args s M) (k5 x1 x2 x3) 5 [some (.ref (ad 67)), some (.int x1), some (.int x2), some (.int x3), none, none, none] [] M) : ∀ (x1 : Int32) (x2 : Int32) (x3 : Int32) (x4 : Bool) (s0 : Bool), rv_M (rR_G D cI cZ ad) (rR_A ad) p l e rm12_leastHeight s m args below meth c 0 0 (rR_qI D cI cZ ad below args s M) (f12_leastHeight_51 M k5 x1 x2 x3 x4 s0) 51 [some (.ref (ad 67)), some (.int x1), some (.int x2), some (.int x3), some (.int (rv_i x4)), none, none] [.int (rv_i s0)] M := by
  intro x1 x2 x3 x4 s0
  unfold f12_leastHeight_51
  refine rv_istore (q := 53) (lv' := [_, _, _, _, _, _, _]) E.x dX12_leastHeight_51 (Nat.le_of_ble_eq_true rfl) rfl rfl rfl ?_
  refine rv_iload (q := 55) E.x dX12_leastHeight_53 rfl rfl ?_
  refine rv_ifz_eq (q := 58) (tgt := 69) E.x dX12_leastHeight_55 (by decide) rfl ?_ ?_
  · refine rv_aload_n (q := 59) E.x dX12_leastHeight_58 rfl rfl ?_
    refine rR_get (q := 62) E 65 wf12_65 rfl (Nat.le_of_ble_eq_true rfl) rfl dX12_leastHeight_59 rfl ?_
    refine rv_iload_n (q := 63) E.x dX12_leastHeight_62 rfl rfl ?_
    refine rR_iald (q := 64) (n := 16) E (Nat.le_of_ble_eq_true rfl) rfl rfl dX12_leastHeight_63 rfl ?_
    refine rv_iconst (q := 65) E.x dX12_leastHeight_64 rv_ki1 rfl ?_
    refine rv_iadd (q := 66) E.x dX12_leastHeight_65 rfl ?_
    refine rv_goto (q := 84) E.x dX12_leastHeight_66 (by decide) ?_
    refine rv_wk [true, true, true, true, false, false, false] ?_
    exact b12_leastHeight_84 E M k5 h5 x1 x2 x3 ((M 65 (x3).toNatClampNeg) + 1)
  · refine rv_iload (q := 71) E.x dX12_leastHeight_69 rfl rfl ?_
    refine rv_ifz_eq (q := 74) (tgt := 83) E.x dX12_leastHeight_71 (by decide) rfl ?_ ?_
    · refine rv_aload_n (q := 75) E.x dX12_leastHeight_74 rfl rfl ?_
      refine rR_get (q := 78) E 65 wf12_65 rfl (Nat.le_of_ble_eq_true rfl) rfl dX12_leastHeight_75 rfl ?_
      refine rv_iload_n (q := 79) E.x dX12_leastHeight_78 rfl rfl ?_
      refine rR_iald (q := 80) (n := 16) E (Nat.le_of_ble_eq_true rfl) rfl rfl dX12_leastHeight_79 rfl ?_
      refine rv_goto (q := 84) E.x dX12_leastHeight_80 (by decide) ?_
      refine rv_wk [true, true, true, true, false, false, false] ?_
      exact b12_leastHeight_84 E M k5 h5 x1 x2 x3 (M 65 (x3).toNatClampNeg)
    · refine rv_iconst (q := 84) E.x dX12_leastHeight_83 rv_ki0 rfl ?_
      refine rv_wk [true, true, true, true, false, false, false] ?_
      exact b12_leastHeight_84 E M k5 h5 x1 x2 x3 0
set_option maxRecDepth 100000 in
theorem b12_leastHeight_30 {p : Program} {l : Launch} {e : Env} {s : State} {m : MethodId} {args : Array Value} {below : List Frame} {meth : Method} {c : Code} {D : va_G} {cI cZ : ClassId} {ad : Nat → Nat} (E : rR_E D cI cZ ad cX12_leastHeight 7 (some .int) p s m args meth c) (M : rv_Mem) (k5 : Int32 → Int32 → Int32 → Option (Int32)) (h5 : ∀ (x1 : Int32) (x2 : Int32) (x3 : Int32), rv_M (rR_G D cI cZ ad) (rR_A ad) p l e rm12_leastHeight s m args below meth c 0 0 (rR_qI D cI cZ ad below args s M) (k5 x1 x2 x3) 5 [some (.ref (ad 67)), some (.int x1), some (.int x2), some (.int x3), none, none, none] [] M) : ∀ (x1 : Int32) (x2 : Int32) (x3 : Int32) (s0 : Bool), rv_M (rR_G D cI cZ ad) (rR_A ad) p l e rm12_leastHeight s m args below meth c 0 0 (rR_qI D cI cZ ad below args s M) (f12_leastHeight_30 M k5 x1 x2 x3 s0) 30 [some (.ref (ad 67)), some (.int x1), some (.int x2), some (.int x3), none, none, none] [.int (rv_i s0)] M := by
  intro x1 x2 x3 s0
  unfold f12_leastHeight_30
  refine rv_istore (q := 32) (lv' := [_, _, _, _, _, _, _]) E.x dX12_leastHeight_30 (Nat.le_of_ble_eq_true rfl) rfl rfl rfl ?_
  refine rv_aload_n (q := 33) E.x dX12_leastHeight_32 rfl rfl ?_
  refine rR_get (q := 36) E 48 wf12_48 rfl (Nat.le_of_ble_eq_true rfl) rfl dX12_leastHeight_33 rfl ?_
  refine rv_iload_n (q := 37) E.x dX12_leastHeight_36 rfl rfl ?_
  refine rR_iald (q := 38) (n := 20) E (Nat.le_of_ble_eq_true rfl) rfl rfl dX12_leastHeight_37 rfl ?_
  refine rv_iload_n (q := 39) E.x dX12_leastHeight_38 rfl rfl ?_
  refine rv_ishr (q := 40) E.x dX12_leastHeight_39 rfl ?_
  refine rv_iconst (q := 41) E.x dX12_leastHeight_40 rv_ki1 rfl ?_
  refine rv_iand (q := 42) E.x dX12_leastHeight_41 rfl ?_
  refine rv_iconst (q := 43) E.x dX12_leastHeight_42 rv_ki1 rfl ?_
  refine rv_icmp_ne (q := 46) (tgt := 50) E.x dX12_leastHeight_43 (by decide) rfl ?_ ?_
  · refine rv_iconst (q := 47) E.x dX12_leastHeight_46 rv_ki1 rfl ?_
    refine rv_goto (q := 51) E.x dX12_leastHeight_47 (by decide) ?_
    refine rv_wk [true, true, true, true, true, false, false] ?_
    exact b12_leastHeight_51 E M k5 h5 x1 x2 x3 s0 true
  · refine rv_iconst (q := 51) E.x dX12_leastHeight_50 rv_ki0 rfl ?_
    refine rv_wk [true, true, true, true, true, false, false] ?_
    exact b12_leastHeight_51 E M k5 h5 x1 x2 x3 s0 false
set_option maxRecDepth 100000 in
theorem b12_leastHeight_5_s {p : Program} {l : Launch} {e : Env} {s : State} {m : MethodId} {args : Array Value} {below : List Frame} {meth : Method} {c : Code} {D : va_G} {cI cZ : ClassId} {ad : Nat → Nat} (E : rR_E D cI cZ ad cX12_leastHeight 7 (some .int) p s m args meth c) (M : rv_Mem)   (k5 : Int32 → Int32 → Int32 → Option (Int32)) (h5 : ∀ (x1 : Int32) (x2 : Int32) (x3 : Int32), rv_M (rR_G D cI cZ ad) (rR_A ad) p l e rm12_leastHeight s m args below meth c 0 0 (rR_qI D cI cZ ad below args s M) (k5 x1 x2 x3) 5 [some (.ref (ad 67)), some (.int x1), some (.int x2), some (.int x3), none, none, none] [] M) : ∀ (x1 : Int32) (x2 : Int32) (x3 : Int32), rv_M (rR_G D cI cZ ad) (rR_A ad) p l e rm12_leastHeight s m args below meth c 0 0 (rR_qI D cI cZ ad below args s M) (f12_leastHeight_5_s M k5 x1 x2 x3) 5 [some (.ref (ad 67)), some (.int x1), some (.int x2), some (.int x3), none, none, none] [] M := by
  intro x1 x2 x3
  unfold f12_leastHeight_5_s
  refine rv_iload_n (q := 6) E.x dX12_leastHeight_5 rfl rfl ?_
  refine rv_bipush (q := 8) E.x dX12_leastHeight_6 rv_kb16 rfl ?_
  refine rv_icmp_ge (q := 11) (tgt := 105) E.x dX12_leastHeight_8 (by decide) rfl ?_ ?_
  · refine rv_aload_n (q := 12) E.x dX12_leastHeight_11 rfl rfl ?_
    refine rR_get (q := 15) E 47 wf12_47 rfl (Nat.le_of_ble_eq_true rfl) rfl dX12_leastHeight_12 rfl ?_
    refine rv_iload_n (q := 16) E.x dX12_leastHeight_15 rfl rfl ?_
    refine rR_iald (q := 17) (n := 20) E (Nat.le_of_ble_eq_true rfl) rfl rfl dX12_leastHeight_16 rfl ?_
    refine rv_iload_n (q := 18) E.x dX12_leastHeight_17 rfl rfl ?_
    refine rv_ishr (q := 19) E.x dX12_leastHeight_18 rfl ?_
    refine rv_iconst (q := 20) E.x dX12_leastHeight_19 rv_ki1 rfl ?_
    refine rv_iand (q := 21) E.x dX12_leastHeight_20 rfl ?_
    refine rv_iconst (q := 22) E.x dX12_leastHeight_21 rv_ki1 rfl ?_
    refine rv_icmp_ne (q := 25) (tgt := 29) E.x dX12_leastHeight_22 (by decide) rfl ?_ ?_
    · refine rv_iconst (q := 26) E.x dX12_leastHeight_25 rv_ki1 rfl ?_
      refine rv_goto (q := 30) E.x dX12_leastHeight_26 (by decide) ?_
      refine rv_wk [true, true, true, true, false, false, false] ?_
      exact b12_leastHeight_30 E M k5 h5 x1 x2 x3 true
    · refine rv_iconst (q := 30) E.x dX12_leastHeight_29 rv_ki0 rfl ?_
      refine rv_wk [true, true, true, true, false, false, false] ?_
      exact b12_leastHeight_30 E M k5 h5 x1 x2 x3 false
  · refine rv_iload_n (q := 106) E.x dX12_leastHeight_105 rfl rfl ?_
    exact rR_iret E rfl dX12_leastHeight_106
theorem b12_leastHeight_5 {p : Program} {l : Launch} {e : Env} {s : State} {m : MethodId} {args : Array Value} {below : List Frame} {meth : Method} {c : Code} {D : va_G} {cI cZ : ClassId} {ad : Nat → Nat} (E : rR_E D cI cZ ad cX12_leastHeight 7 (some .int) p s m args meth c) (M : rv_Mem)   : ∀ (n : Nat), ∀ (x1 : Int32) (x2 : Int32) (x3 : Int32), rv_M (rR_G D cI cZ ad) (rR_A ad) p l e rm12_leastHeight s m args below meth c 0 0 (rR_qI D cI cZ ad below args s M) (f12_leastHeight_5 M n x1 x2 x3) 5 [some (.ref (ad 67)), some (.int x1), some (.int x2), some (.int x3), none, none, none] [] M := by
  intro n
  induction n with
  | zero => exact fun _ _ _ => rv_stuck
  | succ n ih => exact b12_leastHeight_5_s E M (f12_leastHeight_5 M n) ih
set_option maxRecDepth 100000 in
theorem b12_leastHeight {p : Program} {l : Launch} {e : Env} {s : State} {m : MethodId} {args : Array Value} {below : List Frame} {meth : Method} {c : Code} {D : va_G} {cI cZ : ClassId} {ad : Nat → Nat} (E : rR_E D cI cZ ad cX12_leastHeight 7 (some .int) p s m args meth c) (M : rv_Mem) (a1 : Int32) : rv_M (rR_G D cI cZ ad) (rR_A ad) p l e rm12_leastHeight s m args below meth c 0 0  (rR_qI D cI cZ ad below args s M) (f12_leastHeight M a1) 0 [some (.ref (ad 67)), some (.int a1), none, none, none, none, none] [] M := by
  unfold f12_leastHeight
  refine rv_iconst (q := 1) E.x dX12_leastHeight_0 rv_ki0 rfl ?_
  refine rv_istore_n (q := 2) (lv' := [_, _, _, _, _, _, _]) E.x dX12_leastHeight_1 (Nat.le_of_ble_eq_true rfl) rfl rfl rfl ?_
  refine rv_bipush (q := 4) E.x dX12_leastHeight_2 rv_kb8 rfl ?_
  refine rv_istore_n (q := 5) (lv' := [_, _, _, _, _, _, _]) E.x dX12_leastHeight_4 (Nat.le_of_ble_eq_true rfl) rfl rfl rfl ?_
  refine rv_wk [true, true, true, true, false, false, false] ?_
  exact b12_leastHeight_5 E M rv_FU a1 0 8
theorem c12_leastHeight {l : Launch} {D : va_G} {cI cZ : ClassId} {ad : Nat → Nat} (hI : rR_I ad) {M : rv_Mem} {a1 : Int32} {r : Int32} (h : f12_leastHeight M a1 = some r) : Met l yX12_leastHeight (rv_ws yX12_leastHeight cX12_leastHeight 7 (some .int)) rm12_leastHeight (rR_Pc D cI cZ ad [.ref (ad 67), .int a1] M) (rR_QI D cI cZ ad r M) 0 0 (rR_A ad) := rR_met hI rfl (rv_cat rfl) (Nat.le_of_ble_eq_true rfl) (fun p e s m args below meth c E => ⟨(rR_qI D cI cZ ad below args s M), rfl, b12_leastHeight E M a1⟩) h
abbrev rm12_laysHeights : Room := { frames := 1, cells := 0, slots := 0, locals := 26 }
set_option maxRecDepth 100000 in
theorem b12_laysHeights_148 {p : Program} {l : Launch} {e : Env} {s : State} {m : MethodId} {args : Array Value} {below : List Frame} {meth : Method} {c : Code} {D : va_G} {cI cZ : ClassId} {ad : Nat → Nat} (E : rR_E D cI cZ ad cX12_laysHeights 5 (some .boolean) p s m args meth c) (k25 : rv_Mem → Bool → Int32 → Option (Bool × rv_Mem)) (k39 : rv_Mem → Bool → Int32 → Int32 → Option (Bool × rv_Mem)) (h25 : ∀ (M : rv_Mem) (x1 : Bool) (x2 : Int32), rv_M (rR_G D cI cZ ad) (rR_A ad) p l e rm12_laysHeights s m args below meth c 0 0 (rR_qZW D cI cZ ad below args s) (k25 M x1 x2) 25 [some (.ref (ad 67)), some (.int (rv_i x1)), some (.int x2), none, none] [] M) (h39 : ∀ (M : rv_Mem) (x1 : Bool) (x2 : Int32) (x3 : Int32), rv_M (rR_G D cI cZ ad) (rR_A ad) p l e rm12_laysHeights s m args below meth c 0 0 (rR_qZW D cI cZ ad below args s) (k39 M x1 x2 x3) 39 [some (.ref (ad 67)), some (.int (rv_i x1)), some (.int x2), some (.int x3), none] [] M) : ∀ (M : rv_Mem) (x1 : Bool) (x3 : Int32) (s0 : Int32), rv_M (rR_G D cI cZ ad) (rR_A ad) p l e rm12_laysHeights s m args below meth c 0 0 (rR_qZW D cI cZ ad below args s) (f12_laysHeights_148 k25 k39 M x1 x3 s0) 148 [some (.ref (ad 67)), some (.int (rv_i x1)), none, some (.int x3), none] [.int s0] M := by
  intro M x1 x3 s0
  unfold f12_laysHeights_148
  refine rv_istore_n (q := 149) (lv' := [_, _, _, _, _]) E.x dX12_laysHeights_148 (Nat.le_of_ble_eq_true rfl) rfl rfl rfl ?_
  refine rv_iinc (q := 152) (lv' := [_, _, _, _, _]) E.x dX12_laysHeights_149 rv_ki1 rfl rfl rfl rfl ?_
  refine rv_goto (q := 39) E.x dX12_laysHeights_152 (by decide) ?_
  refine rv_wk [true, true, true, true, false] ?_
  exact h39 M x1 s0 (x3 + 1)
set_option maxRecDepth 100000 in
theorem b12_laysHeights_135 {p : Program} {l : Launch} {e : Env} {s : State} {m : MethodId} {args : Array Value} {below : List Frame} {meth : Method} {c : Code} {D : va_G} {cI cZ : ClassId} {ad : Nat → Nat} (E : rR_E D cI cZ ad cX12_laysHeights 5 (some .boolean) p s m args meth c) (k25 : rv_Mem → Bool → Int32 → Option (Bool × rv_Mem)) (k39 : rv_Mem → Bool → Int32 → Int32 → Option (Bool × rv_Mem)) (h25 : ∀ (M : rv_Mem) (x1 : Bool) (x2 : Int32), rv_M (rR_G D cI cZ ad) (rR_A ad) p l e rm12_laysHeights s m args below meth c 0 0 (rR_qZW D cI cZ ad below args s) (k25 M x1 x2) 25 [some (.ref (ad 67)), some (.int (rv_i x1)), some (.int x2), none, none] [] M) (h39 : ∀ (M : rv_Mem) (x1 : Bool) (x2 : Int32) (x3 : Int32), rv_M (rR_G D cI cZ ad) (rR_A ad) p l e rm12_laysHeights s m args below meth c 0 0 (rR_qZW D cI cZ ad below args s) (k39 M x1 x2 x3) 39 [some (.ref (ad 67)), some (.int (rv_i x1)), some (.int x2), some (.int x3), none] [] M) : ∀ (M : rv_Mem) (x1 : Bool) (x2 : Int32) (x3 : Int32) (x4 : Int32) (s1 : Int32) (s2 : Int32), rv_M (rR_G D cI cZ ad) (rR_A ad) p l e rm12_laysHeights s m args below meth c 0 0 (rR_qZW D cI cZ ad below args s) (f12_laysHeights_135 k25 k39 M x1 x2 x3 x4 s1 s2) 135 [some (.ref (ad 67)), some (.int (rv_i x1)), some (.int x2), some (.int x3), some (.int x4)] [.int s2, .int s1, .ref (ad 65)] M := by
  intro M x1 x2 x3 x4 s1 s2
  unfold f12_laysHeights_135
  refine rR_iast (q := 136) (n := 16) E (Nat.le_of_ble_eq_true rfl) rfl rfl dX12_laysHeights_135 rfl ?_
  refine rv_ltm (fun M1 => ?_)
  refine rv_iload (q := 138) E.x dX12_laysHeights_136 rfl rfl ?_
  refine rv_iload_n (q := 139) E.x dX12_laysHeights_138 rfl rfl ?_
  refine rv_icmp_le (q := 142) (tgt := 147) E.x dX12_laysHeights_139 (by decide) rfl ?_ ?_
  · refine rv_iload (q := 144) E.x dX12_laysHeights_142 rfl rfl ?_
    refine rv_goto (q := 148) E.x dX12_laysHeights_144 (by decide) ?_
    refine rv_wk [true, true, false, true, false] ?_
    exact b12_laysHeights_148 E k25 k39 h25 h39 M1 x1 x3 x4
  · refine rv_iload_n (q := 148) E.x dX12_laysHeights_147 rfl rfl ?_
    refine rv_wk [true, true, false, true, false] ?_
    exact b12_laysHeights_148 E k25 k39 h25 h39 M1 x1 x3 x2
set_option maxRecDepth 100000 in
theorem b12_laysHeights_92 {p : Program} {l : Launch} {e : Env} {s : State} {m : MethodId} {args : Array Value} {below : List Frame} {meth : Method} {c : Code} {D : va_G} {cI cZ : ClassId} {ad : Nat → Nat} (E : rR_E D cI cZ ad cX12_laysHeights 5 (some .boolean) p s m args meth c) (k25 : rv_Mem → Bool → Int32 → Option (Bool × rv_Mem)) (k39 : rv_Mem → Bool → Int32 → Int32 → Option (Bool × rv_Mem)) (h25 : ∀ (M : rv_Mem) (x1 : Bool) (x2 : Int32), rv_M (rR_G D cI cZ ad) (rR_A ad) p l e rm12_laysHeights s m args below meth c 0 0 (rR_qZW D cI cZ ad below args s) (k25 M x1 x2) 25 [some (.ref (ad 67)), some (.int (rv_i x1)), some (.int x2), none, none] [] M) (h39 : ∀ (M : rv_Mem) (x1 : Bool) (x2 : Int32) (x3 : Int32), rv_M (rR_G D cI cZ ad) (rR_A ad) p l e rm12_laysHeights s m args below meth c 0 0 (rR_qZW D cI cZ ad below args s) (k39 M x1 x2 x3) 39 [some (.ref (ad 67)), some (.int (rv_i x1)), some (.int x2), some (.int x3), none] [] M) : ∀ (M : rv_Mem) (x2 : Int32) (x3 : Int32) (x4 : Int32) (s0 : Bool), rv_M (rR_G D cI cZ ad) (rR_A ad) p l e rm12_laysHeights s m args below meth c 0 0 (rR_qZW D cI cZ ad below args s) (f12_laysHeights_92 k25 k39 M x2 x3 x4 s0) 92 [some (.ref (ad 67)), none, some (.int x2), some (.int x3), some (.int x4)] [.int (rv_i s0)] M := by
  intro M x2 x3 x4 s0
  unfold f12_laysHeights_92
  refine rv_istore_n (q := 93) (lv' := [_, _, _, _, _]) E.x dX12_laysHeights_92 (Nat.le_of_ble_eq_true rfl) rfl rfl rfl ?_
  refine rv_aload_n (q := 94) E.x dX12_laysHeights_93 rfl rfl ?_
  refine rR_get (q := 97) E 65 wf12_65 rfl (Nat.le_of_ble_eq_true rfl) rfl dX12_laysHeights_94 rfl ?_
  refine rv_aload_n (q := 98) E.x dX12_laysHeights_97 rfl rfl ?_
  refine rR_get (q := 101) E 46 wf12_46 rfl (Nat.le_of_ble_eq_true rfl) rfl dX12_laysHeights_98 rfl ?_
  refine rv_iload_n (q := 102) E.x dX12_laysHeights_101 rfl rfl ?_
  refine rR_iald (q := 103) (n := 20) E (Nat.le_of_ble_eq_true rfl) rfl rfl dX12_laysHeights_102 rfl ?_
  refine rv_iload (q := 105) E.x dX12_laysHeights_103 rfl rfl ?_
  refine rv_aload_n (q := 106) E.x dX12_laysHeights_105 rfl rfl ?_
  refine rR_get (q := 109) E 65 wf12_65 rfl (Nat.le_of_ble_eq_true rfl) rfl dX12_laysHeights_106 rfl ?_
  refine rv_aload_n (q := 110) E.x dX12_laysHeights_109 rfl rfl ?_
  refine rR_get (q := 113) E 46 wf12_46 rfl (Nat.le_of_ble_eq_true rfl) rfl dX12_laysHeights_110 rfl ?_
  refine rv_iload_n (q := 114) E.x dX12_laysHeights_113 rfl rfl ?_
  refine rR_iald (q := 115) (n := 20) E (Nat.le_of_ble_eq_true rfl) rfl rfl dX12_laysHeights_114 rfl ?_
  refine rR_iald (q := 116) (n := 16) E (Nat.le_of_ble_eq_true rfl) rfl rfl dX12_laysHeights_115 rfl ?_
  refine rv_icmp_le (q := 119) (tgt := 124) E.x dX12_laysHeights_116 (by decide) rfl ?_ ?_
  · refine rv_iload (q := 121) E.x dX12_laysHeights_119 rfl rfl ?_
    refine rv_goto (q := 135) E.x dX12_laysHeights_121 (by decide) ?_
    refine rv_wk [true, true, true, true, true] ?_
    exact b12_laysHeights_135 E k25 k39 h25 h39 M s0 x2 x3 x4 (M 46 (x3).toNatClampNeg) x4
  · refine rv_aload_n (q := 125) E.x dX12_laysHeights_124 rfl rfl ?_
    refine rR_get (q := 128) E 65 wf12_65 rfl (Nat.le_of_ble_eq_true rfl) rfl dX12_laysHeights_125 rfl ?_
    refine rv_aload_n (q := 129) E.x dX12_laysHeights_128 rfl rfl ?_
    refine rR_get (q := 132) E 46 wf12_46 rfl (Nat.le_of_ble_eq_true rfl) rfl dX12_laysHeights_129 rfl ?_
    refine rv_iload_n (q := 133) E.x dX12_laysHeights_132 rfl rfl ?_
    refine rR_iald (q := 134) (n := 20) E (Nat.le_of_ble_eq_true rfl) rfl rfl dX12_laysHeights_133 rfl ?_
    refine rR_iald (q := 135) (n := 16) E (Nat.le_of_ble_eq_true rfl) rfl rfl dX12_laysHeights_134 rfl ?_
    refine rv_wk [true, true, true, true, true] ?_
    exact b12_laysHeights_135 E k25 k39 h25 h39 M s0 x2 x3 x4 (M 46 (x3).toNatClampNeg) (M 65 ((M 46 (x3).toNatClampNeg)).toNatClampNeg)
set_option maxRecDepth 100000 in
theorem b12_laysHeights_87 {p : Program} {l : Launch} {e : Env} {s : State} {m : MethodId} {args : Array Value} {below : List Frame} {meth : Method} {c : Code} {D : va_G} {cI cZ : ClassId} {ad : Nat → Nat} (E : rR_E D cI cZ ad cX12_laysHeights 5 (some .boolean) p s m args meth c) (k25 : rv_Mem → Bool → Int32 → Option (Bool × rv_Mem)) (k39 : rv_Mem → Bool → Int32 → Int32 → Option (Bool × rv_Mem)) (h25 : ∀ (M : rv_Mem) (x1 : Bool) (x2 : Int32), rv_M (rR_G D cI cZ ad) (rR_A ad) p l e rm12_laysHeights s m args below meth c 0 0 (rR_qZW D cI cZ ad below args s) (k25 M x1 x2) 25 [some (.ref (ad 67)), some (.int (rv_i x1)), some (.int x2), none, none] [] M) (h39 : ∀ (M : rv_Mem) (x1 : Bool) (x2 : Int32) (x3 : Int32), rv_M (rR_G D cI cZ ad) (rR_A ad) p l e rm12_laysHeights s m args below meth c 0 0 (rR_qZW D cI cZ ad below args s) (k39 M x1 x2 x3) 39 [some (.ref (ad 67)), some (.int (rv_i x1)), some (.int x2), some (.int x3), none] [] M) : ∀ (M : rv_Mem) (x2 : Int32) (x3 : Int32) (x4 : Int32), rv_M (rR_G D cI cZ ad) (rR_A ad) p l e rm12_laysHeights s m args below meth c 0 0 (rR_qZW D cI cZ ad below args s) (f12_laysHeights_87 k25 k39 M x2 x3 x4) 87 [some (.ref (ad 67)), none, some (.int x2), some (.int x3), some (.int x4)] [] M := by
  intro M x2 x3 x4
  unfold f12_laysHeights_87
  refine rv_iconst (q := 88) E.x dX12_laysHeights_87 rv_ki1 rfl ?_
  refine rv_goto (q := 92) E.x dX12_laysHeights_88 (by decide) ?_
  refine rv_wk [true, false, true, true, true] ?_
  exact b12_laysHeights_92 E k25 k39 h25 h39 M x2 x3 x4 true
set_option maxRecDepth 100000 in
theorem b12_laysHeights_65 {p : Program} {l : Launch} {e : Env} {s : State} {m : MethodId} {args : Array Value} {below : List Frame} {meth : Method} {c : Code} {D : va_G} {cI cZ : ClassId} {ad : Nat → Nat} (E : rR_E D cI cZ ad cX12_laysHeights 5 (some .boolean) p s m args meth c) (k25 : rv_Mem → Bool → Int32 → Option (Bool × rv_Mem)) (k39 : rv_Mem → Bool → Int32 → Int32 → Option (Bool × rv_Mem)) (h25 : ∀ (M : rv_Mem) (x1 : Bool) (x2 : Int32), rv_M (rR_G D cI cZ ad) (rR_A ad) p l e rm12_laysHeights s m args below meth c 0 0 (rR_qZW D cI cZ ad below args s) (k25 M x1 x2) 25 [some (.ref (ad 67)), some (.int (rv_i x1)), some (.int x2), none, none] [] M) (h39 : ∀ (M : rv_Mem) (x1 : Bool) (x2 : Int32) (x3 : Int32), rv_M (rR_G D cI cZ ad) (rR_A ad) p l e rm12_laysHeights s m args below meth c 0 0 (rR_qZW D cI cZ ad below args s) (k39 M x1 x2 x3) 39 [some (.ref (ad 67)), some (.int (rv_i x1)), some (.int x2), some (.int x3), none] [] M) : ∀ (M : rv_Mem) (x1 : Bool) (x2 : Int32) (x3 : Int32) (s0 : Int32), rv_M (rR_G D cI cZ ad) (rR_A ad) p l e rm12_laysHeights s m args below meth c 0 0 (rR_qZW D cI cZ ad below args s) (f12_laysHeights_65 k25 k39 M x1 x2 x3 s0) 65 [some (.ref (ad 67)), some (.int (rv_i x1)), some (.int x2), some (.int x3), none] [.int s0] M := by
  intro M x1 x2 x3 s0
  unfold f12_laysHeights_65
  refine rv_istore (q := 67) (lv' := [_, _, _, _, _]) E.x dX12_laysHeights_65 (Nat.le_of_ble_eq_true rfl) rfl rfl rfl ?_
  refine rv_iload_n (q := 68) E.x dX12_laysHeights_67 rfl rfl ?_
  refine rv_ifz_ne (q := 71) (tgt := 87) E.x dX12_laysHeights_68 (by decide) rfl ?_ ?_
  · refine rv_iload (q := 73) E.x dX12_laysHeights_71 rfl rfl ?_
    refine rv_aload_n (q := 74) E.x dX12_laysHeights_73 rfl rfl ?_
    refine rR_get (q := 77) E 65 wf12_65 rfl (Nat.le_of_ble_eq_true rfl) rfl dX12_laysHeights_74 rfl ?_
    refine rv_aload_n (q := 78) E.x dX12_laysHeights_77 rfl rfl ?_
    refine rR_get (q := 81) E 46 wf12_46 rfl (Nat.le_of_ble_eq_true rfl) rfl dX12_laysHeights_78 rfl ?_
    refine rv_iload_n (q := 82) E.x dX12_laysHeights_81 rfl rfl ?_
    refine rR_iald (q := 83) (n := 20) E (Nat.le_of_ble_eq_true rfl) rfl rfl dX12_laysHeights_82 rfl ?_
    refine rR_iald (q := 84) (n := 16) E (Nat.le_of_ble_eq_true rfl) rfl rfl dX12_laysHeights_83 rfl ?_
    refine rv_icmp_le (q := 87) (tgt := 91) E.x dX12_laysHeights_84 (by decide) rfl ?_ ?_
    · refine rv_wk [true, false, true, true, true] ?_
      exact b12_laysHeights_87 E k25 k39 h25 h39 M x2 x3 s0
    · refine rv_iconst (q := 92) E.x dX12_laysHeights_91 rv_ki0 rfl ?_
      refine rv_wk [true, false, true, true, true] ?_
      exact b12_laysHeights_92 E k25 k39 h25 h39 M x2 x3 s0 false
  · refine rv_wk [true, false, true, true, true] ?_
    exact b12_laysHeights_87 E k25 k39 h25 h39 M x2 x3 s0
set_option maxRecDepth 100000 in
theorem b12_laysHeights_39_s {p : Program} {l : Launch} {e : Env} {s : State} {m : MethodId} {args : Array Value} {below : List Frame} {meth : Method} {c : Code} {D : va_G} {cI cZ : ClassId} {ad : Nat → Nat} (E : rR_E D cI cZ ad cX12_laysHeights 5 (some .boolean) p s m args meth c) (k25 : rv_Mem → Bool → Int32 → Option (Bool × rv_Mem)) (h25 : ∀ (M : rv_Mem) (x1 : Bool) (x2 : Int32), rv_M (rR_G D cI cZ ad) (rR_A ad) p l e rm12_laysHeights s m args below meth c 0 0 (rR_qZW D cI cZ ad below args s) (k25 M x1 x2) 25 [some (.ref (ad 67)), some (.int (rv_i x1)), some (.int x2), none, none] [] M) (k39 : rv_Mem → Bool → Int32 → Int32 → Option (Bool × rv_Mem)) (h39 : ∀ (M : rv_Mem) (x1 : Bool) (x2 : Int32) (x3 : Int32), rv_M (rR_G D cI cZ ad) (rR_A ad) p l e rm12_laysHeights s m args below meth c 0 0 (rR_qZW D cI cZ ad below args s) (k39 M x1 x2 x3) 39 [some (.ref (ad 67)), some (.int (rv_i x1)), some (.int x2), some (.int x3), none] [] M) : ∀ (M : rv_Mem) (x1 : Bool) (x2 : Int32) (x3 : Int32), rv_M (rR_G D cI cZ ad) (rR_A ad) p l e rm12_laysHeights s m args below meth c 0 0 (rR_qZW D cI cZ ad below args s) (f12_laysHeights_39_s k25 k39 M x1 x2 x3) 39 [some (.ref (ad 67)), some (.int (rv_i x1)), some (.int x2), some (.int x3), none] [] M := by
  intro M x1 x2 x3
  unfold f12_laysHeights_39_s
  refine rv_iload_n (q := 40) E.x dX12_laysHeights_39 rfl rfl ?_
  refine rv_aload_n (q := 41) E.x dX12_laysHeights_40 rfl rfl ?_
  refine rR_get (q := 44) E 45 wf12_45 rfl (Nat.le_of_ble_eq_true rfl) rfl dX12_laysHeights_41 rfl ?_
  refine rv_icmp_ge (q := 47) (tgt := 155) E.x dX12_laysHeights_44 (by decide) rfl ?_ ?_
  · refine rv_aload_n (q := 48) E.x dX12_laysHeights_47 rfl rfl ?_
    refine rR_get (q := 51) E 49 wf12_49 rfl (Nat.le_of_ble_eq_true rfl) rfl dX12_laysHeights_48 rfl ?_
    refine rv_iload_n (q := 52) E.x dX12_laysHeights_51 rfl rfl ?_
    refine rR_zald (q := 53) (n := 20) E (Nat.le_of_ble_eq_true rfl) rfl rfl dX12_laysHeights_52 rfl ?_
    refine rv_ifz_eq (q := 56) (tgt := 60) E.x dX12_laysHeights_53 (by decide) rfl ?_ ?_
    · refine rv_iconst (q := 57) E.x dX12_laysHeights_56 rv_ki0 rfl ?_
      refine rv_goto (q := 65) E.x dX12_laysHeights_57 (by decide) ?_
      refine rv_wk [true, true, true, true, false] ?_
      exact b12_laysHeights_65 E k25 k39 h25 h39 M x1 x2 x3 0
    · refine rv_aload_n (q := 61) E.x dX12_laysHeights_60 rfl rfl ?_
      refine rv_iload_n (q := 62) E.x dX12_laysHeights_61 rfl rfl ?_
      refine rv_b1 (fun r2 e1 => ?_)
      refine rR_calli (q := 65) E (c12_leastHeight E.2.2.1 e1) gX12_leastHeight hX12_leastHeight ⟨rfl, rfl⟩ ⟨Nat.le_of_ble_eq_true rfl, Nat.le_of_ble_eq_true rfl⟩ rfl rfl rfl (Nat.le_of_ble_eq_true rfl) dX12_laysHeights_62 rfl ?_
      refine rv_wk [true, true, true, true, false] ?_
      exact b12_laysHeights_65 E k25 k39 h25 h39 M x1 x2 x3 r2
  · refine rv_goto (q := 25) E.x dX12_laysHeights_155 (by decide) ?_
    refine rv_wk [true, true, true, false, false] ?_
    exact h25 M x1 x2
theorem b12_laysHeights_39 {p : Program} {l : Launch} {e : Env} {s : State} {m : MethodId} {args : Array Value} {below : List Frame} {meth : Method} {c : Code} {D : va_G} {cI cZ : ClassId} {ad : Nat → Nat} (E : rR_E D cI cZ ad cX12_laysHeights 5 (some .boolean) p s m args meth c) (k25 : rv_Mem → Bool → Int32 → Option (Bool × rv_Mem)) (h25 : ∀ (M : rv_Mem) (x1 : Bool) (x2 : Int32), rv_M (rR_G D cI cZ ad) (rR_A ad) p l e rm12_laysHeights s m args below meth c 0 0 (rR_qZW D cI cZ ad below args s) (k25 M x1 x2) 25 [some (.ref (ad 67)), some (.int (rv_i x1)), some (.int x2), none, none] [] M) : ∀ (n : Nat), ∀ (M : rv_Mem) (x1 : Bool) (x2 : Int32) (x3 : Int32), rv_M (rR_G D cI cZ ad) (rR_A ad) p l e rm12_laysHeights s m args below meth c 0 0 (rR_qZW D cI cZ ad below args s) (f12_laysHeights_39 k25 n M x1 x2 x3) 39 [some (.ref (ad 67)), some (.int (rv_i x1)), some (.int x2), some (.int x3), none] [] M := by
  intro n
  induction n with
  | zero => exact fun _ _ _ _ => rv_stuck
  | succ n ih => exact b12_laysHeights_39_s E k25 h25 (f12_laysHeights_39 k25 n) ih
set_option maxRecDepth 100000 in
theorem b12_laysHeights_158 {p : Program} {l : Launch} {e : Env} {s : State} {m : MethodId} {args : Array Value} {below : List Frame} {meth : Method} {c : Code} {D : va_G} {cI cZ : ClassId} {ad : Nat → Nat} (E : rR_E D cI cZ ad cX12_laysHeights 5 (some .boolean) p s m args meth c)   : ∀ (M : rv_Mem) (x2 : Int32), rv_M (rR_G D cI cZ ad) (rR_A ad) p l e rm12_laysHeights s m args below meth c 0 0 (rR_qZW D cI cZ ad below args s) (f12_laysHeights_158 M x2) 158 [some (.ref (ad 67)), none, some (.int x2), none, none] [] M := by
  intro M x2
  unfold f12_laysHeights_158
  refine rv_iload_n (q := 159) E.x dX12_laysHeights_158 rfl rfl ?_
  refine rv_bipush (q := 161) E.x dX12_laysHeights_159 rv_kb17 rfl ?_
  refine rv_icmp_ge (q := 164) (tgt := 168) E.x dX12_laysHeights_161 (by decide) rfl ?_ ?_
  · refine rv_iconst (q := 165) E.x dX12_laysHeights_164 rv_ki1 rfl ?_
    refine rv_goto (q := 169) E.x dX12_laysHeights_165 (by decide) ?_
    exact rR_zret E true rfl dX12_laysHeights_169
  · refine rv_iconst (q := 169) E.x dX12_laysHeights_168 rv_ki0 rfl ?_
    exact rR_zret E false rfl dX12_laysHeights_169
set_option maxRecDepth 100000 in
theorem b12_laysHeights_25_s {p : Program} {l : Launch} {e : Env} {s : State} {m : MethodId} {args : Array Value} {below : List Frame} {meth : Method} {c : Code} {D : va_G} {cI cZ : ClassId} {ad : Nat → Nat} (E : rR_E D cI cZ ad cX12_laysHeights 5 (some .boolean) p s m args meth c)   (k25 : rv_Mem → Bool → Int32 → Option (Bool × rv_Mem)) (h25 : ∀ (M : rv_Mem) (x1 : Bool) (x2 : Int32), rv_M (rR_G D cI cZ ad) (rR_A ad) p l e rm12_laysHeights s m args below meth c 0 0 (rR_qZW D cI cZ ad below args s) (k25 M x1 x2) 25 [some (.ref (ad 67)), some (.int (rv_i x1)), some (.int x2), none, none] [] M) : ∀ (M : rv_Mem) (x1 : Bool) (x2 : Int32), rv_M (rR_G D cI cZ ad) (rR_A ad) p l e rm12_laysHeights s m args below meth c 0 0 (rR_qZW D cI cZ ad below args s) (f12_laysHeights_25_s k25 M x1 x2) 25 [some (.ref (ad 67)), some (.int (rv_i x1)), some (.int x2), none, none] [] M := by
  intro M x1 x2
  unfold f12_laysHeights_25_s
  refine rv_iload_n (q := 26) E.x dX12_laysHeights_25 rfl rfl ?_
  refine rv_ifz_eq (q := 29) (tgt := 158) E.x dX12_laysHeights_26 (by decide) rfl ?_ ?_
  · refine rv_iload_n (q := 30) E.x dX12_laysHeights_29 rfl rfl ?_
    refine rv_bipush (q := 32) E.x dX12_laysHeights_30 rv_kb17 rfl ?_
    refine rv_icmp_ge (q := 35) (tgt := 158) E.x dX12_laysHeights_32 (by decide) rfl ?_ ?_
    · refine rv_iconst (q := 36) E.x dX12_laysHeights_35 rv_ki0 rfl ?_
      refine rv_istore_n (q := 37) (lv' := [_, _, _, _, _]) E.x dX12_laysHeights_36 (Nat.le_of_ble_eq_true rfl) rfl rfl rfl ?_
      refine rv_iconst (q := 38) E.x dX12_laysHeights_37 rv_ki0 rfl ?_
      refine rv_istore_n (q := 39) (lv' := [_, _, _, _, _]) E.x dX12_laysHeights_38 (Nat.le_of_ble_eq_true rfl) rfl rfl rfl ?_
      refine rv_wk [true, true, true, true, false] ?_
      exact b12_laysHeights_39 E k25 h25 rv_FU M false x2 0
    · refine rv_wk [true, false, true, false, false] ?_
      exact b12_laysHeights_158 E M x2
  · refine rv_wk [true, false, true, false, false] ?_
    exact b12_laysHeights_158 E M x2
theorem b12_laysHeights_25 {p : Program} {l : Launch} {e : Env} {s : State} {m : MethodId} {args : Array Value} {below : List Frame} {meth : Method} {c : Code} {D : va_G} {cI cZ : ClassId} {ad : Nat → Nat} (E : rR_E D cI cZ ad cX12_laysHeights 5 (some .boolean) p s m args meth c)   : ∀ (n : Nat), ∀ (M : rv_Mem) (x1 : Bool) (x2 : Int32), rv_M (rR_G D cI cZ ad) (rR_A ad) p l e rm12_laysHeights s m args below meth c 0 0 (rR_qZW D cI cZ ad below args s) (f12_laysHeights_25 n M x1 x2) 25 [some (.ref (ad 67)), some (.int (rv_i x1)), some (.int x2), none, none] [] M := by
  intro n
  induction n with
  | zero => exact fun _ _ _ => rv_stuck
  | succ n ih => exact b12_laysHeights_25_s E  (f12_laysHeights_25 n) ih
set_option maxRecDepth 100000 in
theorem b12_laysHeights_2_s {p : Program} {l : Launch} {e : Env} {s : State} {m : MethodId} {args : Array Value} {below : List Frame} {meth : Method} {c : Code} {D : va_G} {cI cZ : ClassId} {ad : Nat → Nat} (E : rR_E D cI cZ ad cX12_laysHeights 5 (some .boolean) p s m args meth c)   (k2 : rv_Mem → Int32 → Option (Bool × rv_Mem)) (h2 : ∀ (M : rv_Mem) (x1 : Int32), rv_M (rR_G D cI cZ ad) (rR_A ad) p l e rm12_laysHeights s m args below meth c 0 0 (rR_qZW D cI cZ ad below args s) (k2 M x1) 2 [some (.ref (ad 67)), some (.int x1), none, none, none] [] M) : ∀ (M : rv_Mem) (x1 : Int32), rv_M (rR_G D cI cZ ad) (rR_A ad) p l e rm12_laysHeights s m args below meth c 0 0 (rR_qZW D cI cZ ad below args s) (f12_laysHeights_2_s k2 M x1) 2 [some (.ref (ad 67)), some (.int x1), none, none, none] [] M := by
  intro M x1
  unfold f12_laysHeights_2_s
  refine rv_iload_n (q := 3) E.x dX12_laysHeights_2 rfl rfl ?_
  refine rv_bipush (q := 5) E.x dX12_laysHeights_3 rv_kb16 rfl ?_
  refine rv_icmp_ge (q := 8) (tgt := 21) E.x dX12_laysHeights_5 (by decide) rfl ?_ ?_
  · refine rv_aload_n (q := 9) E.x dX12_laysHeights_8 rfl rfl ?_
    refine rR_get (q := 12) E 65 wf12_65 rfl (Nat.le_of_ble_eq_true rfl) rfl dX12_laysHeights_9 rfl ?_
    refine rv_iload_n (q := 13) E.x dX12_laysHeights_12 rfl rfl ?_
    refine rv_iconst (q := 14) E.x dX12_laysHeights_13 rv_ki0 rfl ?_
    refine rR_iast (q := 15) (n := 16) E (Nat.le_of_ble_eq_true rfl) rfl rfl dX12_laysHeights_14 rfl ?_
    refine rv_ltm (fun M1 => ?_)
    refine rv_iinc (q := 18) (lv' := [_, _, _, _, _]) E.x dX12_laysHeights_15 rv_ki1 rfl rfl rfl rfl ?_
    refine rv_goto (q := 2) E.x dX12_laysHeights_18 (by decide) ?_
    refine rv_wk [true, true, false, false, false] ?_
    exact h2 M1 (x1 + 1)
  · refine rv_iconst (q := 22) E.x dX12_laysHeights_21 rv_ki1 rfl ?_
    refine rv_istore_n (q := 23) (lv' := [_, _, _, _, _]) E.x dX12_laysHeights_22 (Nat.le_of_ble_eq_true rfl) rfl rfl rfl ?_
    refine rv_iconst (q := 24) E.x dX12_laysHeights_23 rv_ki0 rfl ?_
    refine rv_istore_n (q := 25) (lv' := [_, _, _, _, _]) E.x dX12_laysHeights_24 (Nat.le_of_ble_eq_true rfl) rfl rfl rfl ?_
    refine rv_wk [true, true, true, false, false] ?_
    exact b12_laysHeights_25 E rv_FU M true 0
theorem b12_laysHeights_2 {p : Program} {l : Launch} {e : Env} {s : State} {m : MethodId} {args : Array Value} {below : List Frame} {meth : Method} {c : Code} {D : va_G} {cI cZ : ClassId} {ad : Nat → Nat} (E : rR_E D cI cZ ad cX12_laysHeights 5 (some .boolean) p s m args meth c)   : ∀ (n : Nat), ∀ (M : rv_Mem) (x1 : Int32), rv_M (rR_G D cI cZ ad) (rR_A ad) p l e rm12_laysHeights s m args below meth c 0 0 (rR_qZW D cI cZ ad below args s) (f12_laysHeights_2 n M x1) 2 [some (.ref (ad 67)), some (.int x1), none, none, none] [] M := by
  intro n
  induction n with
  | zero => exact fun _ _ => rv_stuck
  | succ n ih => exact b12_laysHeights_2_s E  (f12_laysHeights_2 n) ih
set_option maxRecDepth 100000 in
theorem b12_laysHeights {p : Program} {l : Launch} {e : Env} {s : State} {m : MethodId} {args : Array Value} {below : List Frame} {meth : Method} {c : Code} {D : va_G} {cI cZ : ClassId} {ad : Nat → Nat} (E : rR_E D cI cZ ad cX12_laysHeights 5 (some .boolean) p s m args meth c) (M : rv_Mem)  : rv_M (rR_G D cI cZ ad) (rR_A ad) p l e rm12_laysHeights s m args below meth c 0 0  (rR_qZW D cI cZ ad below args s) (f12_laysHeights M) 0 [some (.ref (ad 67)), none, none, none, none] [] M := by
  unfold f12_laysHeights
  refine rv_iconst (q := 1) E.x dX12_laysHeights_0 rv_ki0 rfl ?_
  refine rv_istore_n (q := 2) (lv' := [_, _, _, _, _]) E.x dX12_laysHeights_1 (Nat.le_of_ble_eq_true rfl) rfl rfl rfl ?_
  refine rv_wk [true, true, false, false, false] ?_
  exact b12_laysHeights_2 E rv_FU M 0
theorem c12_laysHeights {l : Launch} {D : va_G} {cI cZ : ClassId} {ad : Nat → Nat} (hI : rR_I ad) {M : rv_Mem} {r : Bool} {M1 : rv_Mem} (h : f12_laysHeights M = some (r, M1)) : Met l yX12_laysHeights (rv_ws yX12_laysHeights cX12_laysHeights 5 (some .boolean)) rm12_laysHeights (rR_Pc D cI cZ ad [.ref (ad 67)] M) (rR_QI D cI cZ ad (rv_i r) M1) 0 0 (rR_A ad) := rR_met hI rfl (rv_cat rfl) (Nat.le_of_ble_eq_true rfl) (fun p e s m args below meth c E => ⟨(rR_qZW D cI cZ ad below args s), rfl, b12_laysHeights E M ⟩) h
abbrev rm12_holding : Room := { frames := 2, cells := 0, slots := 0, locals := 50 }
set_option maxRecDepth 100000 in
theorem b12_holding_124 {p : Program} {l : Launch} {e : Env} {s : State} {m : MethodId} {args : Array Value} {below : List Frame} {meth : Method} {c : Code} {D : va_G} {cI cZ : ClassId} {ad : Nat → Nat} (E : rR_E D cI cZ ad cX12_holding 8 (some .int) p s m args meth c) (k10 : rv_Mem → Bool → Int32 → Int32 → Option (Int32 × rv_Mem)) (k24 : rv_Mem → Bool → Int32 → Int32 → Int32 → Option (Int32 × rv_Mem)) (k36 : rv_Mem → Bool → Int32 → Int32 → Int32 → Int32 → Option (Int32 × rv_Mem)) (h10 : ∀ (M : rv_Mem) (x2 : Bool) (x3 : Int32) (x4 : Int32), rv_M (rR_G D cI cZ ad) (rR_A ad) p l e rm12_holding s m args below meth c 0 0 (rR_qIW D cI cZ ad below args s) (k10 M x2 x3 x4) 10 [some (.ref (ad 67)), none, some (.int (rv_i x2)), some (.int x3), some (.int x4), none, none, none] [] M) (h24 : ∀ (M : rv_Mem) (x2 : Bool) (x3 : Int32) (x4 : Int32) (x5 : Int32), rv_M (rR_G D cI cZ ad) (rR_A ad) p l e rm12_holding s m args below meth c 0 0 (rR_qIW D cI cZ ad below args s) (k24 M x2 x3 x4 x5) 24 [some (.ref (ad 67)), none, some (.int (rv_i x2)), some (.int x3), some (.int x4), some (.int x5), none, none] [] M) (h36 : ∀ (M : rv_Mem) (x2 : Bool) (x3 : Int32) (x4 : Int32) (x5 : Int32) (x6 : Int32), rv_M (rR_G D cI cZ ad) (rR_A ad) p l e rm12_holding s m args below meth c 0 0 (rR_qIW D cI cZ ad below args s) (k36 M x2 x3 x4 x5 x6) 36 [some (.ref (ad 67)), none, some (.int (rv_i x2)), some (.int x3), some (.int x4), some (.int x5), some (.int x6), none] [] M) : ∀ (M : rv_Mem) (x2 : Bool) (x4 : Int32) (x5 : Int32) (x6 : Int32) (s0 : Int32) (s1 : Int32), rv_M (rR_G D cI cZ ad) (rR_A ad) p l e rm12_holding s m args below meth c 0 0 (rR_qIW D cI cZ ad below args s) (f12_holding_124 k10 k24 k36 M x2 x4 x5 x6 s0 s1) 124 [some (.ref (ad 67)), none, some (.int (rv_i x2)), none, some (.int x4), some (.int x5), some (.int x6), none] [.int s1, .int s0] M := by
  intro M x2 x4 x5 x6 s0 s1
  unfold f12_holding_124
  refine rv_ior (q := 125) E.x dX12_holding_124 rfl ?_
  refine rv_istore_n (q := 126) (lv' := [_, _, _, _, _, _, _, _]) E.x dX12_holding_125 (Nat.le_of_ble_eq_true rfl) rfl rfl rfl ?_
  refine rv_iinc (q := 129) (lv' := [_, _, _, _, _, _, _, _]) E.x dX12_holding_126 rv_ki1 rfl rfl rfl rfl ?_
  refine rv_goto (q := 36) E.x dX12_holding_129 (by decide) ?_
  refine rv_wk [true, false, true, true, true, true, true, false] ?_
  exact h36 M x2 (s0 ||| s1) x4 x5 (x6 + 1)
set_option maxRecDepth 100000 in
theorem b12_holding_103 {p : Program} {l : Launch} {e : Env} {s : State} {m : MethodId} {args : Array Value} {below : List Frame} {meth : Method} {c : Code} {D : va_G} {cI cZ : ClassId} {ad : Nat → Nat} (E : rR_E D cI cZ ad cX12_holding 8 (some .int) p s m args meth c) (k10 : rv_Mem → Bool → Int32 → Int32 → Option (Int32 × rv_Mem)) (k24 : rv_Mem → Bool → Int32 → Int32 → Int32 → Option (Int32 × rv_Mem)) (k36 : rv_Mem → Bool → Int32 → Int32 → Int32 → Int32 → Option (Int32 × rv_Mem)) (h10 : ∀ (M : rv_Mem) (x2 : Bool) (x3 : Int32) (x4 : Int32), rv_M (rR_G D cI cZ ad) (rR_A ad) p l e rm12_holding s m args below meth c 0 0 (rR_qIW D cI cZ ad below args s) (k10 M x2 x3 x4) 10 [some (.ref (ad 67)), none, some (.int (rv_i x2)), some (.int x3), some (.int x4), none, none, none] [] M) (h24 : ∀ (M : rv_Mem) (x2 : Bool) (x3 : Int32) (x4 : Int32) (x5 : Int32), rv_M (rR_G D cI cZ ad) (rR_A ad) p l e rm12_holding s m args below meth c 0 0 (rR_qIW D cI cZ ad below args s) (k24 M x2 x3 x4 x5) 24 [some (.ref (ad 67)), none, some (.int (rv_i x2)), some (.int x3), some (.int x4), some (.int x5), none, none] [] M) (h36 : ∀ (M : rv_Mem) (x2 : Bool) (x3 : Int32) (x4 : Int32) (x5 : Int32) (x6 : Int32), rv_M (rR_G D cI cZ ad) (rR_A ad) p l e rm12_holding s m args below meth c 0 0 (rR_qIW D cI cZ ad below args s) (k36 M x2 x3 x4 x5 x6) 36 [some (.ref (ad 67)), none, some (.int (rv_i x2)), some (.int x3), some (.int x4), some (.int x5), some (.int x6), none] [] M) : ∀ (M : rv_Mem) (x2 : Bool) (x3 : Int32) (x4 : Int32) (x5 : Int32) (x6 : Int32) (s0 : Bool), rv_M (rR_G D cI cZ ad) (rR_A ad) p l e rm12_holding s m args below meth c 0 0 (rR_qIW D cI cZ ad below args s) (f12_holding_103 k10 k24 k36 M x2 x3 x4 x5 x6 s0) 103 [some (.ref (ad 67)), none, some (.int (rv_i x2)), some (.int x3), some (.int x4), some (.int x5), some (.int x6), none] [.int (rv_i s0)] M := by
  intro M x2 x3 x4 x5 x6 s0
  unfold f12_holding_103
  refine rv_istore (q := 105) (lv' := [_, _, _, _, _, _, _, _]) E.x dX12_holding_103 (Nat.le_of_ble_eq_true rfl) rfl rfl rfl ?_
  refine rv_iload_n (q := 106) E.x dX12_holding_105 rfl rfl ?_
  refine rv_iload (q := 108) E.x dX12_holding_106 rfl rfl ?_
  refine rv_ifz_eq (q := 111) (tgt := 123) E.x dX12_holding_108 (by decide) rfl ?_ ?_
  · refine rv_iconst (q := 112) E.x dX12_holding_111 rv_ki1 rfl ?_
    refine rv_aload_n (q := 113) E.x dX12_holding_112 rfl rfl ?_
    refine rR_get (q := 116) E 46 wf12_46 rfl (Nat.le_of_ble_eq_true rfl) rfl dX12_holding_113 rfl ?_
    refine rv_iload (q := 118) E.x dX12_holding_116 rfl rfl ?_
    refine rR_iald (q := 119) (n := 20) E (Nat.le_of_ble_eq_true rfl) rfl rfl dX12_holding_118 rfl ?_
    refine rv_ishl (q := 120) E.x dX12_holding_119 rfl ?_
    refine rv_goto (q := 124) E.x dX12_holding_120 (by decide) ?_
    refine rv_wk [true, false, true, false, true, true, true, false] ?_
    exact b12_holding_124 E k10 k24 k36 h10 h24 h36 M x2 x4 x5 x6 x3 (1 <<< ((M 46 (x6).toNatClampNeg) &&& 31))
  · refine rv_iconst (q := 124) E.x dX12_holding_123 rv_ki0 rfl ?_
    refine rv_wk [true, false, true, false, true, true, true, false] ?_
    exact b12_holding_124 E k10 k24 k36 h10 h24 h36 M x2 x4 x5 x6 x3 0
set_option maxRecDepth 100000 in
theorem b12_holding_102 {p : Program} {l : Launch} {e : Env} {s : State} {m : MethodId} {args : Array Value} {below : List Frame} {meth : Method} {c : Code} {D : va_G} {cI cZ : ClassId} {ad : Nat → Nat} (E : rR_E D cI cZ ad cX12_holding 8 (some .int) p s m args meth c) (k10 : rv_Mem → Bool → Int32 → Int32 → Option (Int32 × rv_Mem)) (k24 : rv_Mem → Bool → Int32 → Int32 → Int32 → Option (Int32 × rv_Mem)) (k36 : rv_Mem → Bool → Int32 → Int32 → Int32 → Int32 → Option (Int32 × rv_Mem)) (h10 : ∀ (M : rv_Mem) (x2 : Bool) (x3 : Int32) (x4 : Int32), rv_M (rR_G D cI cZ ad) (rR_A ad) p l e rm12_holding s m args below meth c 0 0 (rR_qIW D cI cZ ad below args s) (k10 M x2 x3 x4) 10 [some (.ref (ad 67)), none, some (.int (rv_i x2)), some (.int x3), some (.int x4), none, none, none] [] M) (h24 : ∀ (M : rv_Mem) (x2 : Bool) (x3 : Int32) (x4 : Int32) (x5 : Int32), rv_M (rR_G D cI cZ ad) (rR_A ad) p l e rm12_holding s m args below meth c 0 0 (rR_qIW D cI cZ ad below args s) (k24 M x2 x3 x4 x5) 24 [some (.ref (ad 67)), none, some (.int (rv_i x2)), some (.int x3), some (.int x4), some (.int x5), none, none] [] M) (h36 : ∀ (M : rv_Mem) (x2 : Bool) (x3 : Int32) (x4 : Int32) (x5 : Int32) (x6 : Int32), rv_M (rR_G D cI cZ ad) (rR_A ad) p l e rm12_holding s m args below meth c 0 0 (rR_qIW D cI cZ ad below args s) (k36 M x2 x3 x4 x5 x6) 36 [some (.ref (ad 67)), none, some (.int (rv_i x2)), some (.int x3), some (.int x4), some (.int x5), some (.int x6), none] [] M) : ∀ (M : rv_Mem) (x2 : Bool) (x3 : Int32) (x4 : Int32) (x5 : Int32) (x6 : Int32), rv_M (rR_G D cI cZ ad) (rR_A ad) p l e rm12_holding s m args below meth c 0 0 (rR_qIW D cI cZ ad below args s) (f12_holding_102 k10 k24 k36 M x2 x3 x4 x5 x6) 102 [some (.ref (ad 67)), none, some (.int (rv_i x2)), some (.int x3), some (.int x4), some (.int x5), some (.int x6), none] [] M := by
  intro M x2 x3 x4 x5 x6
  unfold f12_holding_102
  refine rv_iconst (q := 103) E.x dX12_holding_102 rv_ki0 rfl ?_
  refine rv_wk [true, false, true, true, true, true, true, false] ?_
  exact b12_holding_103 E k10 k24 k36 h10 h24 h36 M x2 x3 x4 x5 x6 false
set_option maxRecDepth 100000 in
theorem b12_holding_36_s {p : Program} {l : Launch} {e : Env} {s : State} {m : MethodId} {args : Array Value} {below : List Frame} {meth : Method} {c : Code} {D : va_G} {cI cZ : ClassId} {ad : Nat → Nat} (E : rR_E D cI cZ ad cX12_holding 8 (some .int) p s m args meth c) (k10 : rv_Mem → Bool → Int32 → Int32 → Option (Int32 × rv_Mem)) (k24 : rv_Mem → Bool → Int32 → Int32 → Int32 → Option (Int32 × rv_Mem)) (h10 : ∀ (M : rv_Mem) (x2 : Bool) (x3 : Int32) (x4 : Int32), rv_M (rR_G D cI cZ ad) (rR_A ad) p l e rm12_holding s m args below meth c 0 0 (rR_qIW D cI cZ ad below args s) (k10 M x2 x3 x4) 10 [some (.ref (ad 67)), none, some (.int (rv_i x2)), some (.int x3), some (.int x4), none, none, none] [] M) (h24 : ∀ (M : rv_Mem) (x2 : Bool) (x3 : Int32) (x4 : Int32) (x5 : Int32), rv_M (rR_G D cI cZ ad) (rR_A ad) p l e rm12_holding s m args below meth c 0 0 (rR_qIW D cI cZ ad below args s) (k24 M x2 x3 x4 x5) 24 [some (.ref (ad 67)), none, some (.int (rv_i x2)), some (.int x3), some (.int x4), some (.int x5), none, none] [] M) (k36 : rv_Mem → Bool → Int32 → Int32 → Int32 → Int32 → Option (Int32 × rv_Mem)) (h36 : ∀ (M : rv_Mem) (x2 : Bool) (x3 : Int32) (x4 : Int32) (x5 : Int32) (x6 : Int32), rv_M (rR_G D cI cZ ad) (rR_A ad) p l e rm12_holding s m args below meth c 0 0 (rR_qIW D cI cZ ad below args s) (k36 M x2 x3 x4 x5 x6) 36 [some (.ref (ad 67)), none, some (.int (rv_i x2)), some (.int x3), some (.int x4), some (.int x5), some (.int x6), none] [] M) : ∀ (M : rv_Mem) (x2 : Bool) (x3 : Int32) (x4 : Int32) (x5 : Int32) (x6 : Int32), rv_M (rR_G D cI cZ ad) (rR_A ad) p l e rm12_holding s m args below meth c 0 0 (rR_qIW D cI cZ ad below args s) (f12_holding_36_s k10 k24 k36 M x2 x3 x4 x5 x6) 36 [some (.ref (ad 67)), none, some (.int (rv_i x2)), some (.int x3), some (.int x4), some (.int x5), some (.int x6), none] [] M := by
  intro M x2 x3 x4 x5 x6
  unfold f12_holding_36_s
  refine rv_iload (q := 38) E.x dX12_holding_36 rfl rfl ?_
  refine rv_aload_n (q := 39) E.x dX12_holding_38 rfl rfl ?_
  refine rR_get (q := 42) E 45 wf12_45 rfl (Nat.le_of_ble_eq_true rfl) rfl dX12_holding_39 rfl ?_
  refine rv_icmp_ge (q := 45) (tgt := 132) E.x dX12_holding_42 (by decide) rfl ?_ ?_
  · refine rv_aload_n (q := 46) E.x dX12_holding_45 rfl rfl ?_
    refine rR_get (q := 49) E 49 wf12_49 rfl (Nat.le_of_ble_eq_true rfl) rfl dX12_holding_46 rfl ?_
    refine rv_iload (q := 51) E.x dX12_holding_49 rfl rfl ?_
    refine rR_zald (q := 52) (n := 20) E (Nat.le_of_ble_eq_true rfl) rfl rfl dX12_holding_51 rfl ?_
    refine rv_ifz_ne (q := 55) (tgt := 102) E.x dX12_holding_52 (by decide) rfl ?_ ?_
    · refine rv_aload_n (q := 56) E.x dX12_holding_55 rfl rfl ?_
      refine rR_get (q := 59) E 65 wf12_65 rfl (Nat.le_of_ble_eq_true rfl) rfl dX12_holding_56 rfl ?_
      refine rv_aload_n (q := 60) E.x dX12_holding_59 rfl rfl ?_
      refine rR_get (q := 63) E 46 wf12_46 rfl (Nat.le_of_ble_eq_true rfl) rfl dX12_holding_60 rfl ?_
      refine rv_iload (q := 65) E.x dX12_holding_63 rfl rfl ?_
      refine rR_iald (q := 66) (n := 20) E (Nat.le_of_ble_eq_true rfl) rfl rfl dX12_holding_65 rfl ?_
      refine rR_iald (q := 67) (n := 16) E (Nat.le_of_ble_eq_true rfl) rfl rfl dX12_holding_66 rfl ?_
      refine rv_iload (q := 69) E.x dX12_holding_67 rfl rfl ?_
      refine rv_icmp_ne (q := 72) (tgt := 102) E.x dX12_holding_69 (by decide) rfl ?_ ?_
      · refine rv_aload_n (q := 73) E.x dX12_holding_72 rfl rfl ?_
        refine rR_get (q := 76) E 47 wf12_47 rfl (Nat.le_of_ble_eq_true rfl) rfl dX12_holding_73 rfl ?_
        refine rv_iload (q := 78) E.x dX12_holding_76 rfl rfl ?_
        refine rR_iald (q := 79) (n := 20) E (Nat.le_of_ble_eq_true rfl) rfl rfl dX12_holding_78 rfl ?_
        refine rv_iload_n (q := 80) E.x dX12_holding_79 rfl rfl ?_
        refine rv_iconst (q := 81) E.x dX12_holding_80 rv_kim1 rfl ?_
        refine rv_ixor (q := 82) E.x dX12_holding_81 rfl ?_
        refine rv_iand (q := 83) E.x dX12_holding_82 rfl ?_
        refine rv_if_ne (q := 86) (tgt := 102) E.x dX12_holding_83 (by decide) rfl ?_ ?_
        · refine rv_aload_n (q := 87) E.x dX12_holding_86 rfl rfl ?_
          refine rR_get (q := 90) E 48 wf12_48 rfl (Nat.le_of_ble_eq_true rfl) rfl dX12_holding_87 rfl ?_
          refine rv_iload (q := 92) E.x dX12_holding_90 rfl rfl ?_
          refine rR_iald (q := 93) (n := 20) E (Nat.le_of_ble_eq_true rfl) rfl rfl dX12_holding_92 rfl ?_
          refine rv_iload_n (q := 94) E.x dX12_holding_93 rfl rfl ?_
          refine rv_iand (q := 95) E.x dX12_holding_94 rfl ?_
          refine rv_if_ne (q := 98) (tgt := 102) E.x dX12_holding_95 (by decide) rfl ?_ ?_
          · refine rv_iconst (q := 99) E.x dX12_holding_98 rv_ki1 rfl ?_
            refine rv_goto (q := 103) E.x dX12_holding_99 (by decide) ?_
            refine rv_wk [true, false, true, true, true, true, true, false] ?_
            exact b12_holding_103 E k10 k24 k36 h10 h24 h36 M x2 x3 x4 x5 x6 true
          · refine rv_wk [true, false, true, true, true, true, true, false] ?_
            exact b12_holding_102 E k10 k24 k36 h10 h24 h36 M x2 x3 x4 x5 x6
        · refine rv_wk [true, false, true, true, true, true, true, false] ?_
          exact b12_holding_102 E k10 k24 k36 h10 h24 h36 M x2 x3 x4 x5 x6
      · refine rv_wk [true, false, true, true, true, true, true, false] ?_
        exact b12_holding_102 E k10 k24 k36 h10 h24 h36 M x2 x3 x4 x5 x6
    · refine rv_wk [true, false, true, true, true, true, true, false] ?_
      exact b12_holding_102 E k10 k24 k36 h10 h24 h36 M x2 x3 x4 x5 x6
  · refine rv_goto (q := 24) E.x dX12_holding_132 (by decide) ?_
    refine rv_wk [true, false, true, true, true, true, false, false] ?_
    exact h24 M x2 x3 x4 x5
theorem b12_holding_36 {p : Program} {l : Launch} {e : Env} {s : State} {m : MethodId} {args : Array Value} {below : List Frame} {meth : Method} {c : Code} {D : va_G} {cI cZ : ClassId} {ad : Nat → Nat} (E : rR_E D cI cZ ad cX12_holding 8 (some .int) p s m args meth c) (k10 : rv_Mem → Bool → Int32 → Int32 → Option (Int32 × rv_Mem)) (k24 : rv_Mem → Bool → Int32 → Int32 → Int32 → Option (Int32 × rv_Mem)) (h10 : ∀ (M : rv_Mem) (x2 : Bool) (x3 : Int32) (x4 : Int32), rv_M (rR_G D cI cZ ad) (rR_A ad) p l e rm12_holding s m args below meth c 0 0 (rR_qIW D cI cZ ad below args s) (k10 M x2 x3 x4) 10 [some (.ref (ad 67)), none, some (.int (rv_i x2)), some (.int x3), some (.int x4), none, none, none] [] M) (h24 : ∀ (M : rv_Mem) (x2 : Bool) (x3 : Int32) (x4 : Int32) (x5 : Int32), rv_M (rR_G D cI cZ ad) (rR_A ad) p l e rm12_holding s m args below meth c 0 0 (rR_qIW D cI cZ ad below args s) (k24 M x2 x3 x4 x5) 24 [some (.ref (ad 67)), none, some (.int (rv_i x2)), some (.int x3), some (.int x4), some (.int x5), none, none] [] M) : ∀ (n : Nat), ∀ (M : rv_Mem) (x2 : Bool) (x3 : Int32) (x4 : Int32) (x5 : Int32) (x6 : Int32), rv_M (rR_G D cI cZ ad) (rR_A ad) p l e rm12_holding s m args below meth c 0 0 (rR_qIW D cI cZ ad below args s) (f12_holding_36 k10 k24 n M x2 x3 x4 x5 x6) 36 [some (.ref (ad 67)), none, some (.int (rv_i x2)), some (.int x3), some (.int x4), some (.int x5), some (.int x6), none] [] M := by
  intro n
  induction n with
  | zero => exact fun _ _ _ _ _ _ => rv_stuck
  | succ n ih => exact b12_holding_36_s E k10 k24 h10 h24 (f12_holding_36 k10 k24 n) ih
set_option maxRecDepth 100000 in
theorem b12_holding_24_s {p : Program} {l : Launch} {e : Env} {s : State} {m : MethodId} {args : Array Value} {below : List Frame} {meth : Method} {c : Code} {D : va_G} {cI cZ : ClassId} {ad : Nat → Nat} (E : rR_E D cI cZ ad cX12_holding 8 (some .int) p s m args meth c) (k10 : rv_Mem → Bool → Int32 → Int32 → Option (Int32 × rv_Mem)) (h10 : ∀ (M : rv_Mem) (x2 : Bool) (x3 : Int32) (x4 : Int32), rv_M (rR_G D cI cZ ad) (rR_A ad) p l e rm12_holding s m args below meth c 0 0 (rR_qIW D cI cZ ad below args s) (k10 M x2 x3 x4) 10 [some (.ref (ad 67)), none, some (.int (rv_i x2)), some (.int x3), some (.int x4), none, none, none] [] M) (k24 : rv_Mem → Bool → Int32 → Int32 → Int32 → Option (Int32 × rv_Mem)) (h24 : ∀ (M : rv_Mem) (x2 : Bool) (x3 : Int32) (x4 : Int32) (x5 : Int32), rv_M (rR_G D cI cZ ad) (rR_A ad) p l e rm12_holding s m args below meth c 0 0 (rR_qIW D cI cZ ad below args s) (k24 M x2 x3 x4 x5) 24 [some (.ref (ad 67)), none, some (.int (rv_i x2)), some (.int x3), some (.int x4), some (.int x5), none, none] [] M) : ∀ (M : rv_Mem) (x2 : Bool) (x3 : Int32) (x4 : Int32) (x5 : Int32), rv_M (rR_G D cI cZ ad) (rR_A ad) p l e rm12_holding s m args below meth c 0 0 (rR_qIW D cI cZ ad below args s) (f12_holding_24_s k10 k24 M x2 x3 x4 x5) 24 [some (.ref (ad 67)), none, some (.int (rv_i x2)), some (.int x3), some (.int x4), some (.int x5), none, none] [] M := by
  intro M x2 x3 x4 x5
  unfold f12_holding_24_s
  refine rv_iload (q := 26) E.x dX12_holding_24 rfl rfl ?_
  refine rv_iload_n (q := 27) E.x dX12_holding_26 rfl rfl ?_
  refine rv_icmp_eq (q := 30) (tgt := 135) E.x dX12_holding_27 (by decide) rfl ?_ ?_
  · refine rv_iload_n (q := 31) E.x dX12_holding_30 rfl rfl ?_
    refine rv_istore (q := 33) (lv' := [_, _, _, _, _, _, _, _]) E.x dX12_holding_31 (Nat.le_of_ble_eq_true rfl) rfl rfl rfl ?_
    refine rv_iconst (q := 34) E.x dX12_holding_33 rv_ki0 rfl ?_
    refine rv_istore (q := 36) (lv' := [_, _, _, _, _, _, _, _]) E.x dX12_holding_34 (Nat.le_of_ble_eq_true rfl) rfl rfl rfl ?_
    refine rv_wk [true, false, true, true, true, true, true, false] ?_
    exact b12_holding_36 E k10 k24 h10 h24 rv_FU M x2 x3 x4 x3 0
  · refine rv_iinc (q := 138) (lv' := [_, _, _, _, _, _, _, _]) E.x dX12_holding_135 rv_ki1 rfl rfl rfl rfl ?_
    refine rv_goto (q := 10) E.x dX12_holding_138 (by decide) ?_
    refine rv_wk [true, false, true, true, true, false, false, false] ?_
    exact h10 M x2 x3 (x4 + 1)
theorem b12_holding_24 {p : Program} {l : Launch} {e : Env} {s : State} {m : MethodId} {args : Array Value} {below : List Frame} {meth : Method} {c : Code} {D : va_G} {cI cZ : ClassId} {ad : Nat → Nat} (E : rR_E D cI cZ ad cX12_holding 8 (some .int) p s m args meth c) (k10 : rv_Mem → Bool → Int32 → Int32 → Option (Int32 × rv_Mem)) (h10 : ∀ (M : rv_Mem) (x2 : Bool) (x3 : Int32) (x4 : Int32), rv_M (rR_G D cI cZ ad) (rR_A ad) p l e rm12_holding s m args below meth c 0 0 (rR_qIW D cI cZ ad below args s) (k10 M x2 x3 x4) 10 [some (.ref (ad 67)), none, some (.int (rv_i x2)), some (.int x3), some (.int x4), none, none, none] [] M) : ∀ (n : Nat), ∀ (M : rv_Mem) (x2 : Bool) (x3 : Int32) (x4 : Int32) (x5 : Int32), rv_M (rR_G D cI cZ ad) (rR_A ad) p l e rm12_holding s m args below meth c 0 0 (rR_qIW D cI cZ ad below args s) (f12_holding_24 k10 n M x2 x3 x4 x5) 24 [some (.ref (ad 67)), none, some (.int (rv_i x2)), some (.int x3), some (.int x4), some (.int x5), none, none] [] M := by
  intro n
  induction n with
  | zero => exact fun _ _ _ _ _ => rv_stuck
  | succ n ih => exact b12_holding_24_s E k10 h10 (f12_holding_24 k10 n) ih
set_option maxRecDepth 100000 in
theorem b12_holding_10_s {p : Program} {l : Launch} {e : Env} {s : State} {m : MethodId} {args : Array Value} {below : List Frame} {meth : Method} {c : Code} {D : va_G} {cI cZ : ClassId} {ad : Nat → Nat} (E : rR_E D cI cZ ad cX12_holding 8 (some .int) p s m args meth c)   (k10 : rv_Mem → Bool → Int32 → Int32 → Option (Int32 × rv_Mem)) (h10 : ∀ (M : rv_Mem) (x2 : Bool) (x3 : Int32) (x4 : Int32), rv_M (rR_G D cI cZ ad) (rR_A ad) p l e rm12_holding s m args below meth c 0 0 (rR_qIW D cI cZ ad below args s) (k10 M x2 x3 x4) 10 [some (.ref (ad 67)), none, some (.int (rv_i x2)), some (.int x3), some (.int x4), none, none, none] [] M) : ∀ (M : rv_Mem) (x2 : Bool) (x3 : Int32) (x4 : Int32), rv_M (rR_G D cI cZ ad) (rR_A ad) p l e rm12_holding s m args below meth c 0 0 (rR_qIW D cI cZ ad below args s) (f12_holding_10_s k10 M x2 x3 x4) 10 [some (.ref (ad 67)), none, some (.int (rv_i x2)), some (.int x3), some (.int x4), none, none, none] [] M := by
  intro M x2 x3 x4
  unfold f12_holding_10_s
  refine rv_iload (q := 12) E.x dX12_holding_10 rfl rfl ?_
  refine rv_bipush (q := 14) E.x dX12_holding_12 rv_kb17 rfl ?_
  refine rv_icmp_ge (q := 17) (tgt := 141) E.x dX12_holding_14 (by decide) rfl ?_ ?_
  · refine rv_iload_n (q := 18) E.x dX12_holding_17 rfl rfl ?_
    refine rv_ifz_eq (q := 21) (tgt := 141) E.x dX12_holding_18 (by decide) rfl ?_ ?_
    · refine rv_iconst (q := 22) E.x dX12_holding_21 rv_kim1 rfl ?_
      refine rv_istore (q := 24) (lv' := [_, _, _, _, _, _, _, _]) E.x dX12_holding_22 (Nat.le_of_ble_eq_true rfl) rfl rfl rfl ?_
      refine rv_wk [true, false, true, true, true, true, false, false] ?_
      exact b12_holding_24 E k10 h10 rv_FU M x2 x3 x4 (-1)
    · refine rv_iload_n (q := 142) E.x dX12_holding_141 rfl rfl ?_
      exact rR_iret E rfl dX12_holding_142
  · refine rv_iload_n (q := 142) E.x dX12_holding_141 rfl rfl ?_
    exact rR_iret E rfl dX12_holding_142
theorem b12_holding_10 {p : Program} {l : Launch} {e : Env} {s : State} {m : MethodId} {args : Array Value} {below : List Frame} {meth : Method} {c : Code} {D : va_G} {cI cZ : ClassId} {ad : Nat → Nat} (E : rR_E D cI cZ ad cX12_holding 8 (some .int) p s m args meth c)   : ∀ (n : Nat), ∀ (M : rv_Mem) (x2 : Bool) (x3 : Int32) (x4 : Int32), rv_M (rR_G D cI cZ ad) (rR_A ad) p l e rm12_holding s m args below meth c 0 0 (rR_qIW D cI cZ ad below args s) (f12_holding_10 n M x2 x3 x4) 10 [some (.ref (ad 67)), none, some (.int (rv_i x2)), some (.int x3), some (.int x4), none, none, none] [] M := by
  intro n
  induction n with
  | zero => exact fun _ _ _ _ => rv_stuck
  | succ n ih => exact b12_holding_10_s E  (f12_holding_10 n) ih
set_option maxRecDepth 100000 in
theorem b12_holding {p : Program} {l : Launch} {e : Env} {s : State} {m : MethodId} {args : Array Value} {below : List Frame} {meth : Method} {c : Code} {D : va_G} {cI cZ : ClassId} {ad : Nat → Nat} (E : rR_E D cI cZ ad cX12_holding 8 (some .int) p s m args meth c) (M : rv_Mem) (a1 : Int32) : rv_M (rR_G D cI cZ ad) (rR_A ad) p l e rm12_holding s m args below meth c 0 0  (rR_qIW D cI cZ ad below args s) (f12_holding M a1) 0 [some (.ref (ad 67)), some (.int a1), none, none, none, none, none, none] [] M := by
  unfold f12_holding
  refine rv_aload_n (q := 1) E.x dX12_holding_0 rfl rfl ?_
  refine rv_b2 (fun r2 M3 e1 => ?_)
  refine rR_calli (q := 4) E (c12_laysHeights E.2.2.1 e1) gX12_laysHeights hX12_laysHeights ⟨rfl, rfl⟩ ⟨Nat.le_of_ble_eq_true rfl, Nat.le_of_ble_eq_true rfl⟩ rfl rfl rfl (Nat.le_of_ble_eq_true rfl) dX12_holding_1 rfl ?_
  refine rv_istore_n (q := 5) (lv' := [_, _, _, _, _, _, _, _]) E.x dX12_holding_4 (Nat.le_of_ble_eq_true rfl) rfl rfl rfl ?_
  refine rv_iload_n (q := 6) E.x dX12_holding_5 rfl rfl ?_
  refine rv_istore_n (q := 7) (lv' := [_, _, _, _, _, _, _, _]) E.x dX12_holding_6 (Nat.le_of_ble_eq_true rfl) rfl rfl rfl ?_
  refine rv_iconst (q := 8) E.x dX12_holding_7 rv_ki0 rfl ?_
  refine rv_istore (q := 10) (lv' := [_, _, _, _, _, _, _, _]) E.x dX12_holding_8 (Nat.le_of_ble_eq_true rfl) rfl rfl rfl ?_
  refine rv_wk [true, false, true, true, true, false, false, false] ?_
  exact b12_holding_10 E rv_FU M3 r2 a1 0
theorem c12_holding {l : Launch} {D : va_G} {cI cZ : ClassId} {ad : Nat → Nat} (hI : rR_I ad) {M : rv_Mem} {a1 : Int32} {r : Int32} {M1 : rv_Mem} (h : f12_holding M a1 = some (r, M1)) : Met l yX12_holding (rv_ws yX12_holding cX12_holding 8 (some .int)) rm12_holding (rR_Pc D cI cZ ad [.ref (ad 67), .int a1] M) (rR_QI D cI cZ ad r M1) 0 0 (rR_A ad) := rR_met hI rfl (rv_cat rfl) (Nat.le_of_ble_eq_true rfl) (fun p e s m args below meth c E => ⟨(rR_qIW D cI cZ ad below args s), rfl, b12_holding E M a1⟩) h
abbrev rm12_isReady : Room := { frames := 9, cells := 0, slots := 0, locals := 239 }
set_option maxRecDepth 100000 in
theorem b12_isReady {p : Program} {l : Launch} {e : Env} {s : State} {m : MethodId} {args : Array Value} {below : List Frame} {meth : Method} {c : Code} {D : va_G} {cI cZ : ClassId} {ad : Nat → Nat} (E : rR_E D cI cZ ad cX12_isReady 3 (some .boolean) p s m args meth c) (M : rv_Mem) (a1 : Int32) (a2 : Int32) : rv_M (rR_G D cI cZ ad) (rR_A ad) p l e rm12_isReady s m args below meth c 0 0  (rR_qZW D cI cZ ad below args s) (f12_isReady M a1 a2) 0 [some (.ref (ad 67)), some (.int a1), some (.int a2)] [] M := by
  unfold f12_isReady
  refine rv_aload_n (q := 1) E.x dX12_isReady_0 rfl rfl ?_
  refine rv_aload_n (q := 2) E.x dX12_isReady_1 rfl rfl ?_
  refine rv_iload_n (q := 3) E.x dX12_isReady_2 rfl rfl ?_
  refine rv_iload_n (q := 4) E.x dX12_isReady_3 rfl rfl ?_
  refine rv_b2 (fun r2 M3 e1 => ?_)
  refine rR_calli (q := 7) E (c12_factsOf E.2.2.1 e1) gX12_factsOf hX12_factsOf ⟨rfl, rfl⟩ ⟨Nat.le_of_ble_eq_true rfl, Nat.le_of_ble_eq_true rfl⟩ rfl rfl rfl (Nat.le_of_ble_eq_true rfl) dX12_isReady_4 rfl ?_
  refine rv_b2 (fun r5 M6 e4 => ?_)
  refine rR_calli (q := 10) E (c12_holding E.2.2.1 e4) gX12_holding hX12_holding ⟨rfl, rfl⟩ ⟨Nat.le_of_ble_eq_true rfl, Nat.le_of_ble_eq_true rfl⟩ rfl rfl rfl (Nat.le_of_ble_eq_true rfl) dX12_isReady_7 rfl ?_
  refine rv_bipush (q := 12) E.x dX12_isReady_10 rv_kb15 rfl ?_
  refine rv_ishr (q := 13) E.x dX12_isReady_12 rfl ?_
  refine rv_iconst (q := 14) E.x dX12_isReady_13 rv_ki1 rfl ?_
  refine rv_iand (q := 15) E.x dX12_isReady_14 rfl ?_
  refine rv_iconst (q := 16) E.x dX12_isReady_15 rv_ki1 rfl ?_
  refine rv_icmp_ne (q := 19) (tgt := 23) E.x dX12_isReady_16 (by decide) rfl ?_ ?_
  · refine rv_iconst (q := 20) E.x dX12_isReady_19 rv_ki1 rfl ?_
    refine rv_goto (q := 24) E.x dX12_isReady_20 (by decide) ?_
    exact rR_zret E true rfl dX12_isReady_24
  · refine rv_iconst (q := 24) E.x dX12_isReady_23 rv_ki0 rfl ?_
    exact rR_zret E false rfl dX12_isReady_24
theorem c12_isReady {l : Launch} {D : va_G} {cI cZ : ClassId} {ad : Nat → Nat} (hI : rR_I ad) {M : rv_Mem} {a1 : Int32} {a2 : Int32} {r : Bool} {M1 : rv_Mem} (h : f12_isReady M a1 a2 = some (r, M1)) : Met l yX12_isReady (rv_ws yX12_isReady cX12_isReady 3 (some .boolean)) rm12_isReady (rR_Pc D cI cZ ad [.ref (ad 67), .int a1, .int a2] M) (rR_QI D cI cZ ad (rv_i r) M1) 0 0 (rR_A ad) := rR_met hI rfl (rv_cat rfl) (Nat.le_of_ble_eq_true rfl) (fun p e s m args below meth c E => ⟨(rR_qZW D cI cZ ad below args s), rfl, b12_isReady E M a1 a2⟩) h
abbrev rm12_lacksOf : Room := { frames := 9, cells := 0, slots := 0, locals := 239 }
set_option maxRecDepth 100000 in
theorem b12_lacksOf_71 {p : Program} {l : Launch} {e : Env} {s : State} {m : MethodId} {args : Array Value} {below : List Frame} {meth : Method} {c : Code} {D : va_G} {cI cZ : ClassId} {ad : Nat → Nat} (E : rR_E D cI cZ ad cX12_lacksOf 6 (some .int) p s m args meth c) (k14 : rv_Mem → Int32 → Int32 → Int32 → Option (Int32 × rv_Mem)) (h14 : ∀ (M : rv_Mem) (x2 : Int32) (x3 : Int32) (x4 : Int32), rv_M (rR_G D cI cZ ad) (rR_A ad) p l e rm12_lacksOf s m args below meth c 0 0 (rR_qIW D cI cZ ad below args s) (k14 M x2 x3 x4) 14 [some (.ref (ad 67)), none, some (.int x2), some (.int x3), some (.int x4), none] [] M) : ∀ (M : rv_Mem) (x2 : Int32) (x4 : Int32) (s0 : Int32), rv_M (rR_G D cI cZ ad) (rR_A ad) p l e rm12_lacksOf s m args below meth c 0 0 (rR_qIW D cI cZ ad below args s) (f12_lacksOf_71 k14 M x2 x4 s0) 71 [some (.ref (ad 67)), none, some (.int x2), none, some (.int x4), none] [.int s0] M := by
  intro M x2 x4 s0
  unfold f12_lacksOf_71
  refine rv_istore_n (q := 72) (lv' := [_, _, _, _, _, _]) E.x dX12_lacksOf_71 (Nat.le_of_ble_eq_true rfl) rfl rfl rfl ?_
  refine rv_iinc (q := 75) (lv' := [_, _, _, _, _, _]) E.x dX12_lacksOf_72 rv_kim1 rfl rfl rfl rfl ?_
  refine rv_goto (q := 14) E.x dX12_lacksOf_75 (by decide) ?_
  refine rv_wk [true, false, true, true, true, false] ?_
  exact h14 M x2 s0 (x4 + (-1))
set_option maxRecDepth 100000 in
theorem b12_lacksOf_65 {p : Program} {l : Launch} {e : Env} {s : State} {m : MethodId} {args : Array Value} {below : List Frame} {meth : Method} {c : Code} {D : va_G} {cI cZ : ClassId} {ad : Nat → Nat} (E : rR_E D cI cZ ad cX12_lacksOf 6 (some .int) p s m args meth c) (k14 : rv_Mem → Int32 → Int32 → Int32 → Option (Int32 × rv_Mem)) (h14 : ∀ (M : rv_Mem) (x2 : Int32) (x3 : Int32) (x4 : Int32), rv_M (rR_G D cI cZ ad) (rR_A ad) p l e rm12_lacksOf s m args below meth c 0 0 (rR_qIW D cI cZ ad below args s) (k14 M x2 x3 x4) 14 [some (.ref (ad 67)), none, some (.int x2), some (.int x3), some (.int x4), none] [] M) : ∀ (M : rv_Mem) (x2 : Int32) (x4 : Int32), rv_M (rR_G D cI cZ ad) (rR_A ad) p l e rm12_lacksOf s m args below meth c 0 0 (rR_qIW D cI cZ ad below args s) (f12_lacksOf_65 k14 M x2 x4) 65 [some (.ref (ad 67)), none, some (.int x2), none, some (.int x4), none] [] M := by
  intro M x2 x4
  unfold f12_lacksOf_65
  refine rv_iload (q := 67) E.x dX12_lacksOf_65 rfl rfl ?_
  refine rv_goto (q := 71) E.x dX12_lacksOf_67 (by decide) ?_
  refine rv_wk [true, false, true, false, true, false] ?_
  exact b12_lacksOf_71 E k14 h14 M x2 x4 x4
set_option maxRecDepth 100000 in
theorem b12_lacksOf_70 {p : Program} {l : Launch} {e : Env} {s : State} {m : MethodId} {args : Array Value} {below : List Frame} {meth : Method} {c : Code} {D : va_G} {cI cZ : ClassId} {ad : Nat → Nat} (E : rR_E D cI cZ ad cX12_lacksOf 6 (some .int) p s m args meth c) (k14 : rv_Mem → Int32 → Int32 → Int32 → Option (Int32 × rv_Mem)) (h14 : ∀ (M : rv_Mem) (x2 : Int32) (x3 : Int32) (x4 : Int32), rv_M (rR_G D cI cZ ad) (rR_A ad) p l e rm12_lacksOf s m args below meth c 0 0 (rR_qIW D cI cZ ad below args s) (k14 M x2 x3 x4) 14 [some (.ref (ad 67)), none, some (.int x2), some (.int x3), some (.int x4), none] [] M) : ∀ (M : rv_Mem) (x2 : Int32) (x3 : Int32) (x4 : Int32), rv_M (rR_G D cI cZ ad) (rR_A ad) p l e rm12_lacksOf s m args below meth c 0 0 (rR_qIW D cI cZ ad below args s) (f12_lacksOf_70 k14 M x2 x3 x4) 70 [some (.ref (ad 67)), none, some (.int x2), some (.int x3), some (.int x4), none] [] M := by
  intro M x2 x3 x4
  unfold f12_lacksOf_70
  refine rv_iload_n (q := 71) E.x dX12_lacksOf_70 rfl rfl ?_
  refine rv_wk [true, false, true, false, true, false] ?_
  exact b12_lacksOf_71 E k14 h14 M x2 x4 x3
set_option maxRecDepth 100000 in
theorem b12_lacksOf_41 {p : Program} {l : Launch} {e : Env} {s : State} {m : MethodId} {args : Array Value} {below : List Frame} {meth : Method} {c : Code} {D : va_G} {cI cZ : ClassId} {ad : Nat → Nat} (E : rR_E D cI cZ ad cX12_lacksOf 6 (some .int) p s m args meth c) (k14 : rv_Mem → Int32 → Int32 → Int32 → Option (Int32 × rv_Mem)) (h14 : ∀ (M : rv_Mem) (x2 : Int32) (x3 : Int32) (x4 : Int32), rv_M (rR_G D cI cZ ad) (rR_A ad) p l e rm12_lacksOf s m args below meth c 0 0 (rR_qIW D cI cZ ad below args s) (k14 M x2 x3 x4) 14 [some (.ref (ad 67)), none, some (.int x2), some (.int x3), some (.int x4), none] [] M) : ∀ (M : rv_Mem) (x2 : Int32) (x3 : Int32) (x4 : Int32) (s0 : Bool), rv_M (rR_G D cI cZ ad) (rR_A ad) p l e rm12_lacksOf s m args below meth c 0 0 (rR_qIW D cI cZ ad below args s) (f12_lacksOf_41 k14 M x2 x3 x4 s0) 41 [some (.ref (ad 67)), none, some (.int x2), some (.int x3), some (.int x4), none] [.int (rv_i s0)] M := by
  intro M x2 x3 x4 s0
  unfold f12_lacksOf_41
  refine rv_istore (q := 43) (lv' := [_, _, _, _, _, _]) E.x dX12_lacksOf_41 (Nat.le_of_ble_eq_true rfl) rfl rfl rfl ?_
  refine rv_iload (q := 45) E.x dX12_lacksOf_43 rfl rfl ?_
  refine rv_ifz_eq (q := 48) (tgt := 70) E.x dX12_lacksOf_45 (by decide) rfl ?_ ?_
  · refine rv_iload_n (q := 49) E.x dX12_lacksOf_48 rfl rfl ?_
    refine rv_iconst (q := 50) E.x dX12_lacksOf_49 rv_kim1 rfl ?_
    refine rv_icmp_eq (q := 53) (tgt := 65) E.x dX12_lacksOf_50 (by decide) rfl ?_ ?_
    · refine rv_iload (q := 55) E.x dX12_lacksOf_53 rfl rfl ?_
      refine rv_b1 (fun r2 e1 => ?_)
      refine rR_calls (q := 58) E (c12_bits e1) gX12_bits hX12_bits ⟨rfl, rfl⟩ ⟨Nat.le_of_ble_eq_true rfl, Nat.le_of_ble_eq_true rfl⟩ rfl rfl rfl (Nat.le_of_ble_eq_true rfl) dX12_lacksOf_55 rfl ?_
      refine rv_iload_n (q := 59) E.x dX12_lacksOf_58 rfl rfl ?_
      refine rv_b1 (fun r4 e3 => ?_)
      refine rR_calls (q := 62) E (c12_bits e3) gX12_bits hX12_bits ⟨rfl, rfl⟩ ⟨Nat.le_of_ble_eq_true rfl, Nat.le_of_ble_eq_true rfl⟩ rfl rfl rfl (Nat.le_of_ble_eq_true rfl) dX12_lacksOf_59 rfl ?_
      refine rv_icmp_gt (q := 65) (tgt := 70) E.x dX12_lacksOf_62 (by decide) rfl ?_ ?_
      · refine rv_wk [true, false, true, false, true, false] ?_
        exact b12_lacksOf_65 E k14 h14 M x2 x4
      · refine rv_wk [true, false, true, true, true, false] ?_
        exact b12_lacksOf_70 E k14 h14 M x2 x3 x4
    · refine rv_wk [true, false, true, false, true, false] ?_
      exact b12_lacksOf_65 E k14 h14 M x2 x4
  · refine rv_wk [true, false, true, true, true, false] ?_
    exact b12_lacksOf_70 E k14 h14 M x2 x3 x4
set_option maxRecDepth 100000 in
theorem b12_lacksOf_14_s {p : Program} {l : Launch} {e : Env} {s : State} {m : MethodId} {args : Array Value} {below : List Frame} {meth : Method} {c : Code} {D : va_G} {cI cZ : ClassId} {ad : Nat → Nat} (E : rR_E D cI cZ ad cX12_lacksOf 6 (some .int) p s m args meth c)   (k14 : rv_Mem → Int32 → Int32 → Int32 → Option (Int32 × rv_Mem)) (h14 : ∀ (M : rv_Mem) (x2 : Int32) (x3 : Int32) (x4 : Int32), rv_M (rR_G D cI cZ ad) (rR_A ad) p l e rm12_lacksOf s m args below meth c 0 0 (rR_qIW D cI cZ ad below args s) (k14 M x2 x3 x4) 14 [some (.ref (ad 67)), none, some (.int x2), some (.int x3), some (.int x4), none] [] M) : ∀ (M : rv_Mem) (x2 : Int32) (x3 : Int32) (x4 : Int32), rv_M (rR_G D cI cZ ad) (rR_A ad) p l e rm12_lacksOf s m args below meth c 0 0 (rR_qIW D cI cZ ad below args s) (f12_lacksOf_14_s k14 M x2 x3 x4) 14 [some (.ref (ad 67)), none, some (.int x2), some (.int x3), some (.int x4), none] [] M := by
  intro M x2 x3 x4
  unfold f12_lacksOf_14_s
  refine rv_iload (q := 16) E.x dX12_lacksOf_14 rfl rfl ?_
  refine rv_if_lt (q := 19) (tgt := 78) E.x dX12_lacksOf_16 (by decide) rfl ?_ ?_
  · refine rv_aload_n (q := 20) E.x dX12_lacksOf_19 rfl rfl ?_
    refine rv_iload_n (q := 21) E.x dX12_lacksOf_20 rfl rfl ?_
    refine rv_iload (q := 23) E.x dX12_lacksOf_21 rfl rfl ?_
    refine rv_ixor (q := 24) E.x dX12_lacksOf_23 rfl ?_
    refine rv_b2 (fun r2 M3 e1 => ?_)
    refine rR_calli (q := 27) E (c12_holding E.2.2.1 e1) gX12_holding hX12_holding ⟨rfl, rfl⟩ ⟨Nat.le_of_ble_eq_true rfl, Nat.le_of_ble_eq_true rfl⟩ rfl rfl rfl (Nat.le_of_ble_eq_true rfl) dX12_lacksOf_24 rfl ?_
    refine rv_bipush (q := 29) E.x dX12_lacksOf_27 rv_kb15 rfl ?_
    refine rv_ishr (q := 30) E.x dX12_lacksOf_29 rfl ?_
    refine rv_iconst (q := 31) E.x dX12_lacksOf_30 rv_ki1 rfl ?_
    refine rv_iand (q := 32) E.x dX12_lacksOf_31 rfl ?_
    refine rv_iconst (q := 33) E.x dX12_lacksOf_32 rv_ki1 rfl ?_
    refine rv_icmp_ne (q := 36) (tgt := 40) E.x dX12_lacksOf_33 (by decide) rfl ?_ ?_
    · refine rv_iconst (q := 37) E.x dX12_lacksOf_36 rv_ki1 rfl ?_
      refine rv_goto (q := 41) E.x dX12_lacksOf_37 (by decide) ?_
      refine rv_wk [true, false, true, true, true, false] ?_
      exact b12_lacksOf_41 E k14 h14 M3 x2 x3 x4 true
    · refine rv_iconst (q := 41) E.x dX12_lacksOf_40 rv_ki0 rfl ?_
      refine rv_wk [true, false, true, true, true, false] ?_
      exact b12_lacksOf_41 E k14 h14 M3 x2 x3 x4 false
  · refine rv_iload_n (q := 79) E.x dX12_lacksOf_78 rfl rfl ?_
    exact rR_iret E rfl dX12_lacksOf_79
theorem b12_lacksOf_14 {p : Program} {l : Launch} {e : Env} {s : State} {m : MethodId} {args : Array Value} {below : List Frame} {meth : Method} {c : Code} {D : va_G} {cI cZ : ClassId} {ad : Nat → Nat} (E : rR_E D cI cZ ad cX12_lacksOf 6 (some .int) p s m args meth c)   : ∀ (n : Nat), ∀ (M : rv_Mem) (x2 : Int32) (x3 : Int32) (x4 : Int32), rv_M (rR_G D cI cZ ad) (rR_A ad) p l e rm12_lacksOf s m args below meth c 0 0 (rR_qIW D cI cZ ad below args s) (f12_lacksOf_14 n M x2 x3 x4) 14 [some (.ref (ad 67)), none, some (.int x2), some (.int x3), some (.int x4), none] [] M := by
  intro n
  induction n with
  | zero => exact fun _ _ _ _ => rv_stuck
  | succ n ih => exact b12_lacksOf_14_s E  (f12_lacksOf_14 n) ih
set_option maxRecDepth 100000 in
theorem b12_lacksOf {p : Program} {l : Launch} {e : Env} {s : State} {m : MethodId} {args : Array Value} {below : List Frame} {meth : Method} {c : Code} {D : va_G} {cI cZ : ClassId} {ad : Nat → Nat} (E : rR_E D cI cZ ad cX12_lacksOf 6 (some .int) p s m args meth c) (M : rv_Mem) (a1 : Int32) : rv_M (rR_G D cI cZ ad) (rR_A ad) p l e rm12_lacksOf s m args below meth c 0 0  (rR_qIW D cI cZ ad below args s) (f12_lacksOf M a1) 0 [some (.ref (ad 67)), some (.int a1), none, none, none, none] [] M := by
  unfold f12_lacksOf
  refine rv_aload_n (q := 1) E.x dX12_lacksOf_0 rfl rfl ?_
  refine rv_iload_n (q := 2) E.x dX12_lacksOf_1 rfl rfl ?_
  refine rv_iconst (q := 3) E.x dX12_lacksOf_2 rv_ki0 rfl ?_
  refine rv_b2 (fun r2 M3 e1 => ?_)
  refine rR_calli (q := 6) E (c12_factsOf E.2.2.1 e1) gX12_factsOf hX12_factsOf ⟨rfl, rfl⟩ ⟨Nat.le_of_ble_eq_true rfl, Nat.le_of_ble_eq_true rfl⟩ rfl rfl rfl (Nat.le_of_ble_eq_true rfl) dX12_lacksOf_3 rfl ?_
  refine rv_istore_n (q := 7) (lv' := [_, _, _, _, _, _]) E.x dX12_lacksOf_6 (Nat.le_of_ble_eq_true rfl) rfl rfl rfl ?_
  refine rv_iconst (q := 8) E.x dX12_lacksOf_7 rv_kim1 rfl ?_
  refine rv_istore_n (q := 9) (lv' := [_, _, _, _, _, _]) E.x dX12_lacksOf_8 (Nat.le_of_ble_eq_true rfl) rfl rfl rfl ?_
  refine rv_sipush (q := 12) E.x dX12_lacksOf_9 rv_ks255 rfl ?_
  refine rv_istore (q := 14) (lv' := [_, _, _, _, _, _]) E.x dX12_lacksOf_12 (Nat.le_of_ble_eq_true rfl) rfl rfl rfl ?_
  refine rv_wk [true, false, true, true, true, false] ?_
  exact b12_lacksOf_14 E rv_FU M3 r2 (-1) 255
theorem c12_lacksOf {l : Launch} {D : va_G} {cI cZ : ClassId} {ad : Nat → Nat} (hI : rR_I ad) {M : rv_Mem} {a1 : Int32} {r : Int32} {M1 : rv_Mem} (h : f12_lacksOf M a1 = some (r, M1)) : Met l yX12_lacksOf (rv_ws yX12_lacksOf cX12_lacksOf 6 (some .int)) rm12_lacksOf (rR_Pc D cI cZ ad [.ref (ad 67), .int a1] M) (rR_QI D cI cZ ad r M1) 0 0 (rR_A ad) := rR_met hI rfl (rv_cat rfl) (Nat.le_of_ble_eq_true rfl) (fun p e s m args below meth c E => ⟨(rR_qIW D cI cZ ad below args s), rfl, b12_lacksOf E M a1⟩) h
abbrev rm12_isOf : Room := { frames := 0, cells := 0, slots := 0, locals := 0 }
set_option maxRecDepth 100000 in
theorem b12_isOf {p : Program} {l : Launch} {e : Env} {s : State} {m : MethodId} {args : Array Value} {below : List Frame} {meth : Method} {c : Code} (E : rS_E cX12_isOf 2 (some .boolean) p s m args meth c) (a1 : Int32) (a2 : Int32) : rv_M (fun (_ : Unit) _ => True) (fun _ => False) p l e rm12_isOf s m args below meth c 0 0  (rS_qZ below args s) (f12_isOf a1 a2) 0 [some (.int a1), some (.int a2)] [] () := by
  unfold f12_isOf
  refine rv_iload_n (q := 1) E.x dX12_isOf_0 rfl rfl ?_
  refine rv_iload_n (q := 2) E.x dX12_isOf_1 rfl rfl ?_
  refine rv_ishr (q := 3) E.x dX12_isOf_2 rfl ?_
  refine rv_iconst (q := 4) E.x dX12_isOf_3 rv_ki1 rfl ?_
  refine rv_iand (q := 5) E.x dX12_isOf_4 rfl ?_
  refine rv_iconst (q := 6) E.x dX12_isOf_5 rv_ki1 rfl ?_
  refine rv_icmp_ne (q := 9) (tgt := 13) E.x dX12_isOf_6 (by decide) rfl ?_ ?_
  · refine rv_iconst (q := 10) E.x dX12_isOf_9 rv_ki1 rfl ?_
    refine rv_goto (q := 14) E.x dX12_isOf_10 (by decide) ?_
    exact rR_szret E true rfl dX12_isOf_14
  · refine rv_iconst (q := 14) E.x dX12_isOf_13 rv_ki0 rfl ?_
    exact rR_szret E false rfl dX12_isOf_14
theorem c12_isOf {l : Launch} {a1 : Int32} {a2 : Int32} {r : Bool} (h : f12_isOf a1 a2 = some r) : Met l yX12_isOf (rv_ws yX12_isOf cX12_isOf 2 (some .boolean)) rm12_isOf (va_Pc [.int a1, .int a2] (fun _ => True)) (rR_SQ (rv_i r)) 0 0 (fun _ => False) := rR_mets rfl (rv_cat rfl) (Nat.le_of_ble_eq_true rfl) (fun p e s m args below meth c E hr hl => ⟨rS_qZ below args s, rfl, b12_isOf ⟨E, hr, hl⟩ a1 a2⟩) h
abbrev rm12_laysDifference : Room := { frames := 4, cells := 0, slots := 0, locals := 111 }
set_option maxRecDepth 100000 in
theorem b12_laysDifference_124 {p : Program} {l : Launch} {e : Env} {s : State} {m : MethodId} {args : Array Value} {below : List Frame} {meth : Method} {c : Code} {D : va_G} {cI cZ : ClassId} {ad : Nat → Nat} (E : rR_E D cI cZ ad cX12_laysDifference 9 none p s m args meth c) (k67 : rv_Mem → Int32 → Int32 → Int32 → Option (rv_Mem)) (k88 : rv_Mem → Int32 → Int32 → Int32 → Bool → Int32 → Option (rv_Mem)) (h67 : ∀ (M : rv_Mem) (x3 : Int32) (x5 : Int32) (x6 : Int32), rv_M (rR_G D cI cZ ad) (rR_A ad) p l e rm12_laysDifference s m args below meth c 0 0 (rR_qV D cI cZ ad below args s) (k67 M x3 x5 x6) 67 [some (.ref (ad 67)), none, none, some (.int x3), none, some (.int x5), some (.int x6), none, none] [] M) (h88 : ∀ (M : rv_Mem) (x3 : Int32) (x5 : Int32) (x6 : Int32) (x7 : Bool) (x8 : Int32), rv_M (rR_G D cI cZ ad) (rR_A ad) p l e rm12_laysDifference s m args below meth c 0 0 (rR_qV D cI cZ ad below args s) (k88 M x3 x5 x6 x7 x8) 88 [some (.ref (ad 67)), none, none, some (.int x3), none, some (.int x5), some (.int x6), some (.int (rv_i x7)), some (.int x8)] [] M) : ∀ (M : rv_Mem) (x3 : Int32) (x5 : Int32) (x6 : Int32) (x8 : Int32) (s0 : Bool), rv_M (rR_G D cI cZ ad) (rR_A ad) p l e rm12_laysDifference s m args below meth c 0 0 (rR_qV D cI cZ ad below args s) (f12_laysDifference_124 k67 k88 M x3 x5 x6 x8 s0) 124 [some (.ref (ad 67)), none, none, some (.int x3), none, some (.int x5), some (.int x6), none, some (.int x8)] [.int (rv_i s0)] M := by
  intro M x3 x5 x6 x8 s0
  unfold f12_laysDifference_124
  refine rv_istore (q := 126) (lv' := [_, _, _, _, _, _, _, _, _]) E.x dX12_laysDifference_124 (Nat.le_of_ble_eq_true rfl) rfl rfl rfl ?_
  refine rv_iinc (q := 129) (lv' := [_, _, _, _, _, _, _, _, _]) E.x dX12_laysDifference_126 rv_ki1 rfl rfl rfl rfl ?_
  refine rv_goto (q := 88) E.x dX12_laysDifference_129 (by decide) ?_
  refine rv_wk [true, false, false, true, false, true, true, true, true] ?_
  exact h88 M x3 x5 x6 s0 (x8 + 1)
set_option maxRecDepth 100000 in
theorem b12_laysDifference_119 {p : Program} {l : Launch} {e : Env} {s : State} {m : MethodId} {args : Array Value} {below : List Frame} {meth : Method} {c : Code} {D : va_G} {cI cZ : ClassId} {ad : Nat → Nat} (E : rR_E D cI cZ ad cX12_laysDifference 9 none p s m args meth c) (k67 : rv_Mem → Int32 → Int32 → Int32 → Option (rv_Mem)) (k88 : rv_Mem → Int32 → Int32 → Int32 → Bool → Int32 → Option (rv_Mem)) (h67 : ∀ (M : rv_Mem) (x3 : Int32) (x5 : Int32) (x6 : Int32), rv_M (rR_G D cI cZ ad) (rR_A ad) p l e rm12_laysDifference s m args below meth c 0 0 (rR_qV D cI cZ ad below args s) (k67 M x3 x5 x6) 67 [some (.ref (ad 67)), none, none, some (.int x3), none, some (.int x5), some (.int x6), none, none] [] M) (h88 : ∀ (M : rv_Mem) (x3 : Int32) (x5 : Int32) (x6 : Int32) (x7 : Bool) (x8 : Int32), rv_M (rR_G D cI cZ ad) (rR_A ad) p l e rm12_laysDifference s m args below meth c 0 0 (rR_qV D cI cZ ad below args s) (k88 M x3 x5 x6 x7 x8) 88 [some (.ref (ad 67)), none, none, some (.int x3), none, some (.int x5), some (.int x6), some (.int (rv_i x7)), some (.int x8)] [] M) : ∀ (M : rv_Mem) (x3 : Int32) (x5 : Int32) (x6 : Int32) (x8 : Int32), rv_M (rR_G D cI cZ ad) (rR_A ad) p l e rm12_laysDifference s m args below meth c 0 0 (rR_qV D cI cZ ad below args s) (f12_laysDifference_119 k67 k88 M x3 x5 x6 x8) 119 [some (.ref (ad 67)), none, none, some (.int x3), none, some (.int x5), some (.int x6), none, some (.int x8)] [] M := by
  intro M x3 x5 x6 x8
  unfold f12_laysDifference_119
  refine rv_iconst (q := 120) E.x dX12_laysDifference_119 rv_ki1 rfl ?_
  refine rv_goto (q := 124) E.x dX12_laysDifference_120 (by decide) ?_
  refine rv_wk [true, false, false, true, false, true, true, false, true] ?_
  exact b12_laysDifference_124 E k67 k88 h67 h88 M x3 x5 x6 x8 true
set_option maxRecDepth 100000 in
theorem b12_laysDifference_212 {p : Program} {l : Launch} {e : Env} {s : State} {m : MethodId} {args : Array Value} {below : List Frame} {meth : Method} {c : Code} {D : va_G} {cI cZ : ClassId} {ad : Nat → Nat} (E : rR_E D cI cZ ad cX12_laysDifference 9 none p s m args meth c) (k67 : rv_Mem → Int32 → Int32 → Int32 → Option (rv_Mem)) (h67 : ∀ (M : rv_Mem) (x3 : Int32) (x5 : Int32) (x6 : Int32), rv_M (rR_G D cI cZ ad) (rR_A ad) p l e rm12_laysDifference s m args below meth c 0 0 (rR_qV D cI cZ ad below args s) (k67 M x3 x5 x6) 67 [some (.ref (ad 67)), none, none, some (.int x3), none, some (.int x5), some (.int x6), none, none] [] M) : ∀ (M : rv_Mem) (x3 : Int32) (x6 : Int32) (s0 : Int32) (s1 : Bool), rv_M (rR_G D cI cZ ad) (rR_A ad) p l e rm12_laysDifference s m args below meth c 0 0 (rR_qV D cI cZ ad below args s) (f12_laysDifference_212 k67 M x3 x6 s0 s1) 212 [some (.ref (ad 67)), none, none, some (.int x3), none, none, some (.int x6), none, none] [.int (rv_i s1), .int s0] M := by
  intro M x3 x6 s0 s1
  unfold f12_laysDifference_212
  refine rv_iadd (q := 213) E.x dX12_laysDifference_212 rfl ?_
  refine rv_istore (q := 215) (lv' := [_, _, _, _, _, _, _, _, _]) E.x dX12_laysDifference_213 (Nat.le_of_ble_eq_true rfl) rfl rfl rfl ?_
  refine rv_iinc (q := 218) (lv' := [_, _, _, _, _, _, _, _, _]) E.x dX12_laysDifference_215 rv_ki1 rfl rfl rfl rfl ?_
  refine rv_goto (q := 67) E.x dX12_laysDifference_218 (by decide) ?_
  refine rv_wk [true, false, false, true, false, true, true, false, false] ?_
  exact h67 M x3 (s0 + (rv_i s1)) (x6 + 1)
set_option maxRecDepth 100000 in
theorem b12_laysDifference_88_s {p : Program} {l : Launch} {e : Env} {s : State} {m : MethodId} {args : Array Value} {below : List Frame} {meth : Method} {c : Code} {D : va_G} {cI cZ : ClassId} {ad : Nat → Nat} (E : rR_E D cI cZ ad cX12_laysDifference 9 none p s m args meth c) (k67 : rv_Mem → Int32 → Int32 → Int32 → Option (rv_Mem)) (h67 : ∀ (M : rv_Mem) (x3 : Int32) (x5 : Int32) (x6 : Int32), rv_M (rR_G D cI cZ ad) (rR_A ad) p l e rm12_laysDifference s m args below meth c 0 0 (rR_qV D cI cZ ad below args s) (k67 M x3 x5 x6) 67 [some (.ref (ad 67)), none, none, some (.int x3), none, some (.int x5), some (.int x6), none, none] [] M) (k88 : rv_Mem → Int32 → Int32 → Int32 → Bool → Int32 → Option (rv_Mem)) (h88 : ∀ (M : rv_Mem) (x3 : Int32) (x5 : Int32) (x6 : Int32) (x7 : Bool) (x8 : Int32), rv_M (rR_G D cI cZ ad) (rR_A ad) p l e rm12_laysDifference s m args below meth c 0 0 (rR_qV D cI cZ ad below args s) (k88 M x3 x5 x6 x7 x8) 88 [some (.ref (ad 67)), none, none, some (.int x3), none, some (.int x5), some (.int x6), some (.int (rv_i x7)), some (.int x8)] [] M) : ∀ (M : rv_Mem) (x3 : Int32) (x5 : Int32) (x6 : Int32) (x7 : Bool) (x8 : Int32), rv_M (rR_G D cI cZ ad) (rR_A ad) p l e rm12_laysDifference s m args below meth c 0 0 (rR_qV D cI cZ ad below args s) (f12_laysDifference_88_s k67 k88 M x3 x5 x6 x7 x8) 88 [some (.ref (ad 67)), none, none, some (.int x3), none, some (.int x5), some (.int x6), some (.int (rv_i x7)), some (.int x8)] [] M := by
  intro M x3 x5 x6 x7 x8
  unfold f12_laysDifference_88_s
  refine rv_iload (q := 90) E.x dX12_laysDifference_88 rfl rfl ?_
  refine rv_bipush (q := 92) E.x dX12_laysDifference_90 rv_kb45 rfl ?_
  refine rv_aload_n (q := 93) E.x dX12_laysDifference_92 rfl rfl ?_
  refine rR_get (q := 96) E 61 wf12_61 rfl (Nat.le_of_ble_eq_true rfl) rfl dX12_laysDifference_93 rfl ?_
  refine rv_iconst (q := 97) E.x dX12_laysDifference_96 rv_ki3 rfl ?_
  refine rR_iald (q := 98) (n := 4) E (Nat.le_of_ble_eq_true rfl) rfl rfl dX12_laysDifference_97 rfl ?_
  refine rv_iadd (q := 99) E.x dX12_laysDifference_98 rfl ?_
  refine rv_icmp_ge (q := 102) (tgt := 132) E.x dX12_laysDifference_99 (by decide) rfl ?_ ?_
  · refine rv_iload (q := 104) E.x dX12_laysDifference_102 rfl rfl ?_
    refine rv_ifz_ne (q := 107) (tgt := 119) E.x dX12_laysDifference_104 (by decide) rfl ?_ ?_
    · refine rv_aload_n (q := 108) E.x dX12_laysDifference_107 rfl rfl ?_
      refine rv_iload (q := 110) E.x dX12_laysDifference_108 rfl rfl ?_
      refine rv_iload (q := 112) E.x dX12_laysDifference_110 rfl rfl ?_
      refine rv_iload_n (q := 113) E.x dX12_laysDifference_112 rfl rfl ?_
      refine rv_b1 (fun r2 e1 => ?_)
      refine rR_calli (q := 116) E (c12_areAlike E.2.2.1 e1) gX12_areAlike hX12_areAlike ⟨rfl, rfl⟩ ⟨Nat.le_of_ble_eq_true rfl, Nat.le_of_ble_eq_true rfl⟩ rfl rfl rfl (Nat.le_of_ble_eq_true rfl) dX12_laysDifference_113 rfl ?_
      refine rv_ifz_eq (q := 119) (tgt := 123) E.x dX12_laysDifference_116 (by decide) rfl ?_ ?_
      · refine rv_wk [true, false, false, true, false, true, true, false, true] ?_
        exact b12_laysDifference_119 E k67 k88 h67 h88 M x3 x5 x6 x8
      · refine rv_iconst (q := 124) E.x dX12_laysDifference_123 rv_ki0 rfl ?_
        refine rv_wk [true, false, false, true, false, true, true, false, true] ?_
        exact b12_laysDifference_124 E k67 k88 h67 h88 M x3 x5 x6 x8 false
    · refine rv_wk [true, false, false, true, false, true, true, false, true] ?_
      exact b12_laysDifference_119 E k67 k88 h67 h88 M x3 x5 x6 x8
  · refine rv_aload_n (q := 133) E.x dX12_laysDifference_132 rfl rfl ?_
    refine rR_get (q := 136) E 55 wf12_55 rfl (Nat.le_of_ble_eq_true rfl) rfl dX12_laysDifference_133 rfl ?_
    refine rv_bipush (q := 138) E.x dX12_laysDifference_136 rv_kb30 rfl ?_
    refine rv_iload (q := 140) E.x dX12_laysDifference_138 rfl rfl ?_
    refine rv_iadd (q := 141) E.x dX12_laysDifference_140 rfl ?_
    refine rv_aload_n (q := 142) E.x dX12_laysDifference_141 rfl rfl ?_
    refine rR_get (q := 145) E 55 wf12_55 rfl (Nat.le_of_ble_eq_true rfl) rfl dX12_laysDifference_142 rfl ?_
    refine rv_iload (q := 147) E.x dX12_laysDifference_145 rfl rfl ?_
    refine rR_iald (q := 148) (n := 60) E (Nat.le_of_ble_eq_true rfl) rfl rfl dX12_laysDifference_147 rfl ?_
    refine rR_iast (q := 149) (n := 60) E (Nat.le_of_ble_eq_true rfl) rfl rfl dX12_laysDifference_148 rfl ?_
    refine rv_ltm (fun M3 => ?_)
    refine rv_aload_n (q := 150) E.x dX12_laysDifference_149 rfl rfl ?_
    refine rR_get (q := 153) E 56 wf12_56 rfl (Nat.le_of_ble_eq_true rfl) rfl dX12_laysDifference_150 rfl ?_
    refine rv_bipush (q := 155) E.x dX12_laysDifference_153 rv_kb30 rfl ?_
    refine rv_iload (q := 157) E.x dX12_laysDifference_155 rfl rfl ?_
    refine rv_iadd (q := 158) E.x dX12_laysDifference_157 rfl ?_
    refine rv_aload_n (q := 159) E.x dX12_laysDifference_158 rfl rfl ?_
    refine rR_get (q := 162) E 56 wf12_56 rfl (Nat.le_of_ble_eq_true rfl) rfl dX12_laysDifference_159 rfl ?_
    refine rv_iload (q := 164) E.x dX12_laysDifference_162 rfl rfl ?_
    refine rR_iald (q := 165) (n := 60) E (Nat.le_of_ble_eq_true rfl) rfl rfl dX12_laysDifference_164 rfl ?_
    refine rR_iast (q := 166) (n := 60) E (Nat.le_of_ble_eq_true rfl) rfl rfl dX12_laysDifference_165 rfl ?_
    refine rv_ltm (fun M4 => ?_)
    refine rv_aload_n (q := 167) E.x dX12_laysDifference_166 rfl rfl ?_
    refine rR_get (q := 170) E 57 wf12_57 rfl (Nat.le_of_ble_eq_true rfl) rfl dX12_laysDifference_167 rfl ?_
    refine rv_bipush (q := 172) E.x dX12_laysDifference_170 rv_kb30 rfl ?_
    refine rv_iload (q := 174) E.x dX12_laysDifference_172 rfl rfl ?_
    refine rv_iadd (q := 175) E.x dX12_laysDifference_174 rfl ?_
    refine rv_aload_n (q := 176) E.x dX12_laysDifference_175 rfl rfl ?_
    refine rR_get (q := 179) E 57 wf12_57 rfl (Nat.le_of_ble_eq_true rfl) rfl dX12_laysDifference_176 rfl ?_
    refine rv_iload (q := 181) E.x dX12_laysDifference_179 rfl rfl ?_
    refine rR_iald (q := 182) (n := 60) E (Nat.le_of_ble_eq_true rfl) rfl rfl dX12_laysDifference_181 rfl ?_
    refine rR_iast (q := 183) (n := 60) E (Nat.le_of_ble_eq_true rfl) rfl rfl dX12_laysDifference_182 rfl ?_
    refine rv_ltm (fun M5 => ?_)
    refine rv_aload_n (q := 184) E.x dX12_laysDifference_183 rfl rfl ?_
    refine rR_get (q := 187) E 58 wf12_58 rfl (Nat.le_of_ble_eq_true rfl) rfl dX12_laysDifference_184 rfl ?_
    refine rv_bipush (q := 189) E.x dX12_laysDifference_187 rv_kb30 rfl ?_
    refine rv_iload (q := 191) E.x dX12_laysDifference_189 rfl rfl ?_
    refine rv_iadd (q := 192) E.x dX12_laysDifference_191 rfl ?_
    refine rv_aload_n (q := 193) E.x dX12_laysDifference_192 rfl rfl ?_
    refine rR_get (q := 196) E 58 wf12_58 rfl (Nat.le_of_ble_eq_true rfl) rfl dX12_laysDifference_193 rfl ?_
    refine rv_iload (q := 198) E.x dX12_laysDifference_196 rfl rfl ?_
    refine rR_iald (q := 199) (n := 60) E (Nat.le_of_ble_eq_true rfl) rfl rfl dX12_laysDifference_198 rfl ?_
    refine rR_iast (q := 200) (n := 60) E (Nat.le_of_ble_eq_true rfl) rfl rfl dX12_laysDifference_199 rfl ?_
    refine rv_ltm (fun M6 => ?_)
    refine rv_iload (q := 202) E.x dX12_laysDifference_200 rfl rfl ?_
    refine rv_iload (q := 204) E.x dX12_laysDifference_202 rfl rfl ?_
    refine rv_ifz_eq (q := 207) (tgt := 211) E.x dX12_laysDifference_204 (by decide) rfl ?_ ?_
    · refine rv_iconst (q := 208) E.x dX12_laysDifference_207 rv_ki0 rfl ?_
      refine rv_goto (q := 212) E.x dX12_laysDifference_208 (by decide) ?_
      refine rv_wk [true, false, false, true, false, false, true, false, false] ?_
      exact b12_laysDifference_212 E k67 h67 M6 x3 x6 x5 false
    · refine rv_iconst (q := 212) E.x dX12_laysDifference_211 rv_ki1 rfl ?_
      refine rv_wk [true, false, false, true, false, false, true, false, false] ?_
      exact b12_laysDifference_212 E k67 h67 M6 x3 x6 x5 true
theorem b12_laysDifference_88 {p : Program} {l : Launch} {e : Env} {s : State} {m : MethodId} {args : Array Value} {below : List Frame} {meth : Method} {c : Code} {D : va_G} {cI cZ : ClassId} {ad : Nat → Nat} (E : rR_E D cI cZ ad cX12_laysDifference 9 none p s m args meth c) (k67 : rv_Mem → Int32 → Int32 → Int32 → Option (rv_Mem)) (h67 : ∀ (M : rv_Mem) (x3 : Int32) (x5 : Int32) (x6 : Int32), rv_M (rR_G D cI cZ ad) (rR_A ad) p l e rm12_laysDifference s m args below meth c 0 0 (rR_qV D cI cZ ad below args s) (k67 M x3 x5 x6) 67 [some (.ref (ad 67)), none, none, some (.int x3), none, some (.int x5), some (.int x6), none, none] [] M) : ∀ (n : Nat), ∀ (M : rv_Mem) (x3 : Int32) (x5 : Int32) (x6 : Int32) (x7 : Bool) (x8 : Int32), rv_M (rR_G D cI cZ ad) (rR_A ad) p l e rm12_laysDifference s m args below meth c 0 0 (rR_qV D cI cZ ad below args s) (f12_laysDifference_88 k67 n M x3 x5 x6 x7 x8) 88 [some (.ref (ad 67)), none, none, some (.int x3), none, some (.int x5), some (.int x6), some (.int (rv_i x7)), some (.int x8)] [] M := by
  intro n
  induction n with
  | zero => exact fun _ _ _ _ _ _ => rv_stuck
  | succ n ih => exact b12_laysDifference_88_s E k67 h67 (f12_laysDifference_88 k67 n) ih
set_option maxRecDepth 100000 in
theorem b12_laysDifference_67_s {p : Program} {l : Launch} {e : Env} {s : State} {m : MethodId} {args : Array Value} {below : List Frame} {meth : Method} {c : Code} {D : va_G} {cI cZ : ClassId} {ad : Nat → Nat} (E : rR_E D cI cZ ad cX12_laysDifference 9 none p s m args meth c)   (k67 : rv_Mem → Int32 → Int32 → Int32 → Option (rv_Mem)) (h67 : ∀ (M : rv_Mem) (x3 : Int32) (x5 : Int32) (x6 : Int32), rv_M (rR_G D cI cZ ad) (rR_A ad) p l e rm12_laysDifference s m args below meth c 0 0 (rR_qV D cI cZ ad below args s) (k67 M x3 x5 x6) 67 [some (.ref (ad 67)), none, none, some (.int x3), none, some (.int x5), some (.int x6), none, none] [] M) : ∀ (M : rv_Mem) (x3 : Int32) (x5 : Int32) (x6 : Int32), rv_M (rR_G D cI cZ ad) (rR_A ad) p l e rm12_laysDifference s m args below meth c 0 0 (rR_qV D cI cZ ad below args s) (f12_laysDifference_67_s k67 M x3 x5 x6) 67 [some (.ref (ad 67)), none, none, some (.int x3), none, some (.int x5), some (.int x6), none, none] [] M := by
  intro M x3 x5 x6
  unfold f12_laysDifference_67_s
  refine rv_iload (q := 69) E.x dX12_laysDifference_67 rfl rfl ?_
  refine rv_bipush (q := 71) E.x dX12_laysDifference_69 rv_kb30 rfl ?_
  refine rv_aload_n (q := 72) E.x dX12_laysDifference_71 rfl rfl ?_
  refine rR_get (q := 75) E 61 wf12_61 rfl (Nat.le_of_ble_eq_true rfl) rfl dX12_laysDifference_72 rfl ?_
  refine rv_iconst (q := 76) E.x dX12_laysDifference_75 rv_ki2 rfl ?_
  refine rR_iald (q := 77) (n := 4) E (Nat.le_of_ble_eq_true rfl) rfl rfl dX12_laysDifference_76 rfl ?_
  refine rv_iadd (q := 78) E.x dX12_laysDifference_77 rfl ?_
  refine rv_icmp_ge (q := 81) (tgt := 221) E.x dX12_laysDifference_78 (by decide) rfl ?_ ?_
  · refine rv_iconst (q := 82) E.x dX12_laysDifference_81 rv_ki0 rfl ?_
    refine rv_istore (q := 84) (lv' := [_, _, _, _, _, _, _, _, _]) E.x dX12_laysDifference_82 (Nat.le_of_ble_eq_true rfl) rfl rfl rfl ?_
    refine rv_bipush (q := 86) E.x dX12_laysDifference_84 rv_kb45 rfl ?_
    refine rv_istore (q := 88) (lv' := [_, _, _, _, _, _, _, _, _]) E.x dX12_laysDifference_86 (Nat.le_of_ble_eq_true rfl) rfl rfl rfl ?_
    refine rv_wk [true, false, false, true, false, true, true, true, true] ?_
    exact b12_laysDifference_88 E k67 h67 rv_FU M x3 x5 x6 false 45
  · refine rv_aload_n (q := 222) E.x dX12_laysDifference_221 rfl rfl ?_
    refine rR_get (q := 225) E 61 wf12_61 rfl (Nat.le_of_ble_eq_true rfl) rfl dX12_laysDifference_222 rfl ?_
    refine rv_iconst (q := 226) E.x dX12_laysDifference_225 rv_ki2 rfl ?_
    refine rv_iload (q := 228) E.x dX12_laysDifference_226 rfl rfl ?_
    refine rR_iast (q := 229) (n := 4) E (Nat.le_of_ble_eq_true rfl) rfl rfl dX12_laysDifference_228 rfl ?_
    refine rv_ltm (fun M1 => ?_)
    exact rR_vret E rfl dX12_laysDifference_229
theorem b12_laysDifference_67 {p : Program} {l : Launch} {e : Env} {s : State} {m : MethodId} {args : Array Value} {below : List Frame} {meth : Method} {c : Code} {D : va_G} {cI cZ : ClassId} {ad : Nat → Nat} (E : rR_E D cI cZ ad cX12_laysDifference 9 none p s m args meth c)   : ∀ (n : Nat), ∀ (M : rv_Mem) (x3 : Int32) (x5 : Int32) (x6 : Int32), rv_M (rR_G D cI cZ ad) (rR_A ad) p l e rm12_laysDifference s m args below meth c 0 0 (rR_qV D cI cZ ad below args s) (f12_laysDifference_67 n M x3 x5 x6) 67 [some (.ref (ad 67)), none, none, some (.int x3), none, some (.int x5), some (.int x6), none, none] [] M := by
  intro n
  induction n with
  | zero => exact fun _ _ _ _ => rv_stuck
  | succ n ih => exact b12_laysDifference_67_s E  (f12_laysDifference_67 n) ih
set_option maxRecDepth 100000 in
theorem b12_laysDifference_60 {p : Program} {l : Launch} {e : Env} {s : State} {m : MethodId} {args : Array Value} {below : List Frame} {meth : Method} {c : Code} {D : va_G} {cI cZ : ClassId} {ad : Nat → Nat} (E : rR_E D cI cZ ad cX12_laysDifference 9 none p s m args meth c)   : ∀ (M : rv_Mem) (x3 : Int32), rv_M (rR_G D cI cZ ad) (rR_A ad) p l e rm12_laysDifference s m args below meth c 0 0 (rR_qV D cI cZ ad below args s) (f12_laysDifference_60 M x3) 60 [some (.ref (ad 67)), none, none, some (.int x3), none, none, none, none, none] [] M := by
  intro M x3
  unfold f12_laysDifference_60
  refine rv_iconst (q := 61) E.x dX12_laysDifference_60 rv_ki0 rfl ?_
  refine rv_istore (q := 63) (lv' := [_, _, _, _, _, _, _, _, _]) E.x dX12_laysDifference_61 (Nat.le_of_ble_eq_true rfl) rfl rfl rfl ?_
  refine rv_bipush (q := 65) E.x dX12_laysDifference_63 rv_kb30 rfl ?_
  refine rv_istore (q := 67) (lv' := [_, _, _, _, _, _, _, _, _]) E.x dX12_laysDifference_65 (Nat.le_of_ble_eq_true rfl) rfl rfl rfl ?_
  refine rv_wk [true, false, false, true, false, true, true, false, false] ?_
  exact b12_laysDifference_67 E rv_FU M x3 0 30
set_option maxRecDepth 100000 in
theorem b12_laysDifference_28 {p : Program} {l : Launch} {e : Env} {s : State} {m : MethodId} {args : Array Value} {below : List Frame} {meth : Method} {c : Code} {D : va_G} {cI cZ : ClassId} {ad : Nat → Nat} (E : rR_E D cI cZ ad cX12_laysDifference 9 none p s m args meth c)   : ∀ (M : rv_Mem) (x1 : Int32) (x2 : Int32) (x3 : Int32) (s0 : Bool), rv_M (rR_G D cI cZ ad) (rR_A ad) p l e rm12_laysDifference s m args below meth c 0 0 (rR_qV D cI cZ ad below args s) (f12_laysDifference_28 M x1 x2 x3 s0) 28 [some (.ref (ad 67)), some (.int x1), some (.int x2), some (.int x3), none, none, none, none, none] [.int (rv_i s0)] M := by
  intro M x1 x2 x3 s0
  unfold f12_laysDifference_28
  refine rv_istore (q := 30) (lv' := [_, _, _, _, _, _, _, _, _]) E.x dX12_laysDifference_28 (Nat.le_of_ble_eq_true rfl) rfl rfl rfl ?_
  refine rv_aload_n (q := 31) E.x dX12_laysDifference_30 rfl rfl ?_
  refine rR_get (q := 34) E 61 wf12_61 rfl (Nat.le_of_ble_eq_true rfl) rfl dX12_laysDifference_31 rfl ?_
  refine rv_iconst (q := 35) E.x dX12_laysDifference_34 rv_ki3 rfl ?_
  refine rv_iconst (q := 36) E.x dX12_laysDifference_35 rv_ki0 rfl ?_
  refine rR_iast (q := 37) (n := 4) E (Nat.le_of_ble_eq_true rfl) rfl rfl dX12_laysDifference_36 rfl ?_
  refine rv_ltm (fun M1 => ?_)
  refine rv_iload (q := 39) E.x dX12_laysDifference_37 rfl rfl ?_
  refine rv_ifz_eq (q := 42) (tgt := 60) E.x dX12_laysDifference_39 (by decide) rfl ?_ ?_
  · refine rv_aload_n (q := 43) E.x dX12_laysDifference_42 rfl rfl ?_
    refine rv_iconst (q := 44) E.x dX12_laysDifference_43 rv_ki3 rfl ?_
    refine rv_aload_n (q := 45) E.x dX12_laysDifference_44 rfl rfl ?_
    refine rR_get (q := 48) E 2 wf12_2 rfl (Nat.le_of_ble_eq_true rfl) rfl dX12_laysDifference_45 rfl ?_
    refine rv_iload_n (q := 49) E.x dX12_laysDifference_48 rfl rfl ?_
    refine rR_iald (q := 50) (n := 82) E (Nat.le_of_ble_eq_true rfl) rfl rfl dX12_laysDifference_49 rfl ?_
    refine rv_aload_n (q := 51) E.x dX12_laysDifference_50 rfl rfl ?_
    refine rR_get (q := 54) E 2 wf12_2 rfl (Nat.le_of_ble_eq_true rfl) rfl dX12_laysDifference_51 rfl ?_
    refine rv_iload_n (q := 55) E.x dX12_laysDifference_54 rfl rfl ?_
    refine rR_iald (q := 56) (n := 82) E (Nat.le_of_ble_eq_true rfl) rfl rfl dX12_laysDifference_55 rfl ?_
    refine rv_iload_n (q := 57) E.x dX12_laysDifference_56 rfl rfl ?_
    refine rv_b1 (fun M3 e2 => ?_)
    refine rR_callv (q := 60) E (c12_laysHunks E.2.2.1 e2) gX12_laysHunks hX12_laysHunks ⟨rfl, rfl⟩ ⟨Nat.le_of_ble_eq_true rfl, Nat.le_of_ble_eq_true rfl⟩ rfl rfl rfl (Nat.le_of_ble_eq_true rfl) dX12_laysDifference_57 rfl ?_
    refine rv_wk [true, false, false, true, false, false, false, false, false] ?_
    exact b12_laysDifference_60 E M3 x3
  · refine rv_wk [true, false, false, true, false, false, false, false, false] ?_
    exact b12_laysDifference_60 E M1 x3
set_option maxRecDepth 100000 in
theorem b12_laysDifference {p : Program} {l : Launch} {e : Env} {s : State} {m : MethodId} {args : Array Value} {below : List Frame} {meth : Method} {c : Code} {D : va_G} {cI cZ : ClassId} {ad : Nat → Nat} (E : rR_E D cI cZ ad cX12_laysDifference 9 none p s m args meth c) (M : rv_Mem) (a1 : Int32) (a2 : Int32) (a3 : Int32) : rv_M (rR_G D cI cZ ad) (rR_A ad) p l e rm12_laysDifference s m args below meth c 0 0  (rR_qV D cI cZ ad below args s) (f12_laysDifference M a1 a2 a3) 0 [some (.ref (ad 67)), some (.int a1), some (.int a2), some (.int a3), none, none, none, none, none] [] M := by
  unfold f12_laysDifference
  refine rv_aload_n (q := 1) E.x dX12_laysDifference_0 rfl rfl ?_
  refine rv_iconst (q := 2) E.x dX12_laysDifference_1 rv_ki2 rfl ?_
  refine rv_iload_n (q := 3) E.x dX12_laysDifference_2 rfl rfl ?_
  refine rv_iload_n (q := 4) E.x dX12_laysDifference_3 rfl rfl ?_
  refine rv_iload_n (q := 5) E.x dX12_laysDifference_4 rfl rfl ?_
  refine rv_b1 (fun M2 e1 => ?_)
  refine rR_callv (q := 8) E (c12_laysHunks E.2.2.1 e1) gX12_laysHunks hX12_laysHunks ⟨rfl, rfl⟩ ⟨Nat.le_of_ble_eq_true rfl, Nat.le_of_ble_eq_true rfl⟩ rfl rfl rfl (Nat.le_of_ble_eq_true rfl) dX12_laysDifference_5 rfl ?_
  refine rv_aload_n (q := 9) E.x dX12_laysDifference_8 rfl rfl ?_
  refine rR_get (q := 12) E 2 wf12_2 rfl (Nat.le_of_ble_eq_true rfl) rfl dX12_laysDifference_9 rfl ?_
  refine rv_iload_n (q := 13) E.x dX12_laysDifference_12 rfl rfl ?_
  refine rR_iald (q := 14) (n := 82) E (Nat.le_of_ble_eq_true rfl) rfl rfl dX12_laysDifference_13 rfl ?_
  refine rv_aload_n (q := 15) E.x dX12_laysDifference_14 rfl rfl ?_
  refine rR_get (q := 18) E 2 wf12_2 rfl (Nat.le_of_ble_eq_true rfl) rfl dX12_laysDifference_15 rfl ?_
  refine rv_iload_n (q := 19) E.x dX12_laysDifference_18 rfl rfl ?_
  refine rR_iald (q := 20) (n := 82) E (Nat.le_of_ble_eq_true rfl) rfl rfl dX12_laysDifference_19 rfl ?_
  refine rv_icmp_eq (q := 23) (tgt := 27) E.x dX12_laysDifference_20 (by decide) rfl ?_ ?_
  · refine rv_iconst (q := 24) E.x dX12_laysDifference_23 rv_ki1 rfl ?_
    refine rv_goto (q := 28) E.x dX12_laysDifference_24 (by decide) ?_
    refine rv_wk [true, true, true, true, false, false, false, false, false] ?_
    exact b12_laysDifference_28 E M2 a1 a2 a3 true
  · refine rv_iconst (q := 28) E.x dX12_laysDifference_27 rv_ki0 rfl ?_
    refine rv_wk [true, true, true, true, false, false, false, false, false] ?_
    exact b12_laysDifference_28 E M2 a1 a2 a3 false
theorem c12_laysDifference {l : Launch} {D : va_G} {cI cZ : ClassId} {ad : Nat → Nat} (hI : rR_I ad) {M : rv_Mem} {a1 : Int32} {a2 : Int32} {a3 : Int32} {M1 : rv_Mem} (h : f12_laysDifference M a1 a2 a3 = some M1) : Met l yX12_laysDifference (rv_ws yX12_laysDifference cX12_laysDifference 9 none) rm12_laysDifference (rR_Pc D cI cZ ad [.ref (ad 67), .int a1, .int a2, .int a3] M) (rR_QV D cI cZ ad M1) 0 0 (rR_A ad) := rR_met hI rfl (rv_cat rfl) (Nat.le_of_ble_eq_true rfl) (fun p e s m args below meth c E => ⟨(rR_qV D cI cZ ad below args s), rfl, b12_laysDifference E M a1 a2 a3⟩) h
abbrev rm12_stands : Room := { frames := 1, cells := 0, slots := 0, locals := 24 }
set_option maxRecDepth 100000 in
theorem b12_stands_110 {p : Program} {l : Launch} {e : Env} {s : State} {m : MethodId} {args : Array Value} {below : List Frame} {meth : Method} {c : Code} {D : va_G} {cI cZ : ClassId} {ad : Nat → Nat} (E : rR_E D cI cZ ad cX12_stands 7 (some .boolean) p s m args meth c) (M : rv_Mem) (k50 : Int32 → Int32 → Int32 → Int32 → Bool → Int32 → Option (Bool)) (h50 : ∀ (x1 : Int32) (x2 : Int32) (x3 : Int32) (x4 : Int32) (x5 : Bool) (x6 : Int32), rv_M (rR_G D cI cZ ad) (rR_A ad) p l e rm12_stands s m args below meth c 0 0 (rR_qZ D cI cZ ad below args s M) (k50 x1 x2 x3 x4 x5 x6) 50 [some (.ref (ad 67)), some (.int x1), some (.int x2), some (.int x3), some (.int x4), some (.int (rv_i x5)), some (.int x6)] [] M) : ∀ (x1 : Int32) (x2 : Int32) (x3 : Int32) (x4 : Int32) (x6 : Int32) (s0 : Bool), rv_M (rR_G D cI cZ ad) (rR_A ad) p l e rm12_stands s m args below meth c 0 0 (rR_qZ D cI cZ ad below args s M) (f12_stands_110 M k50 x1 x2 x3 x4 x6 s0) 110 [some (.ref (ad 67)), some (.int x1), some (.int x2), some (.int x3), some (.int x4), none, some (.int x6)] [.int (rv_i s0)] M := by
  intro x1 x2 x3 x4 x6 s0
  unfold f12_stands_110
  refine rv_istore (q := 112) (lv' := [_, _, _, _, _, _, _]) E.x dX12_stands_110 (Nat.le_of_ble_eq_true rfl) rfl rfl rfl ?_
  refine rv_iinc (q := 115) (lv' := [_, _, _, _, _, _, _]) E.x dX12_stands_112 rv_ki1 rfl rfl rfl rfl ?_
  refine rv_goto (q := 50) E.x dX12_stands_115 (by decide) ?_
  refine rv_wk [true, true, true, true, true, true, true] ?_
  exact h50 x1 x2 x3 x4 s0 (x6 + 1)
set_option maxRecDepth 100000 in
theorem b12_stands_50_s {p : Program} {l : Launch} {e : Env} {s : State} {m : MethodId} {args : Array Value} {below : List Frame} {meth : Method} {c : Code} {D : va_G} {cI cZ : ClassId} {ad : Nat → Nat} (E : rR_E D cI cZ ad cX12_stands 7 (some .boolean) p s m args meth c) (M : rv_Mem)   (k50 : Int32 → Int32 → Int32 → Int32 → Bool → Int32 → Option (Bool)) (h50 : ∀ (x1 : Int32) (x2 : Int32) (x3 : Int32) (x4 : Int32) (x5 : Bool) (x6 : Int32), rv_M (rR_G D cI cZ ad) (rR_A ad) p l e rm12_stands s m args below meth c 0 0 (rR_qZ D cI cZ ad below args s M) (k50 x1 x2 x3 x4 x5 x6) 50 [some (.ref (ad 67)), some (.int x1), some (.int x2), some (.int x3), some (.int x4), some (.int (rv_i x5)), some (.int x6)] [] M) : ∀ (x1 : Int32) (x2 : Int32) (x3 : Int32) (x4 : Int32) (x5 : Bool) (x6 : Int32), rv_M (rR_G D cI cZ ad) (rR_A ad) p l e rm12_stands s m args below meth c 0 0 (rR_qZ D cI cZ ad below args s M) (f12_stands_50_s M k50 x1 x2 x3 x4 x5 x6) 50 [some (.ref (ad 67)), some (.int x1), some (.int x2), some (.int x3), some (.int x4), some (.int (rv_i x5)), some (.int x6)] [] M := by
  intro x1 x2 x3 x4 x5 x6
  unfold f12_stands_50_s
  refine rv_iload (q := 52) E.x dX12_stands_50 rfl rfl ?_
  refine rv_aload_n (q := 53) E.x dX12_stands_52 rfl rfl ?_
  refine rR_get (q := 56) E 30 wf12_30 rfl (Nat.le_of_ble_eq_true rfl) rfl dX12_stands_53 rfl ?_
  refine rv_iload_n (q := 57) E.x dX12_stands_56 rfl rfl ?_
  refine rR_iald (q := 58) (n := 60) E (Nat.le_of_ble_eq_true rfl) rfl rfl dX12_stands_57 rfl ?_
  refine rv_icmp_ge (q := 61) (tgt := 118) E.x dX12_stands_58 (by decide) rfl ?_ ?_
  · refine rv_iload (q := 63) E.x dX12_stands_61 rfl rfl ?_
    refine rv_ifz_eq (q := 66) (tgt := 118) E.x dX12_stands_63 (by decide) rfl ?_ ?_
    · refine rv_aload_n (q := 67) E.x dX12_stands_66 rfl rfl ?_
      refine rv_iload (q := 69) E.x dX12_stands_67 rfl rfl ?_
      refine rv_aload_n (q := 70) E.x dX12_stands_69 rfl rfl ?_
      refine rR_get (q := 73) E 28 wf12_28 rfl (Nat.le_of_ble_eq_true rfl) rfl dX12_stands_70 rfl ?_
      refine rv_iload_n (q := 74) E.x dX12_stands_73 rfl rfl ?_
      refine rR_iald (q := 75) (n := 60) E (Nat.le_of_ble_eq_true rfl) rfl rfl dX12_stands_74 rfl ?_
      refine rv_aload_n (q := 76) E.x dX12_stands_75 rfl rfl ?_
      refine rR_get (q := 79) E 29 wf12_29 rfl (Nat.le_of_ble_eq_true rfl) rfl dX12_stands_76 rfl ?_
      refine rv_iload_n (q := 80) E.x dX12_stands_79 rfl rfl ?_
      refine rR_iald (q := 81) (n := 60) E (Nat.le_of_ble_eq_true rfl) rfl rfl dX12_stands_80 rfl ?_
      refine rv_iload (q := 83) E.x dX12_stands_81 rfl rfl ?_
      refine rv_iadd (q := 84) E.x dX12_stands_83 rfl ?_
      refine rv_b1 (fun r2 e1 => ?_)
      refine rR_calli (q := 87) E (c12_lineAt E.2.2.1 e1) gX12_lineAt hX12_lineAt ⟨rfl, rfl⟩ ⟨Nat.le_of_ble_eq_true rfl, Nat.le_of_ble_eq_true rfl⟩ rfl rfl rfl (Nat.le_of_ble_eq_true rfl) dX12_stands_84 rfl ?_
      refine rv_aload_n (q := 88) E.x dX12_stands_87 rfl rfl ?_
      refine rv_iload_n (q := 89) E.x dX12_stands_88 rfl rfl ?_
      refine rv_aload_n (q := 90) E.x dX12_stands_89 rfl rfl ?_
      refine rR_get (q := 93) E 28 wf12_28 rfl (Nat.le_of_ble_eq_true rfl) rfl dX12_stands_90 rfl ?_
      refine rv_iload_n (q := 94) E.x dX12_stands_93 rfl rfl ?_
      refine rR_iald (q := 95) (n := 60) E (Nat.le_of_ble_eq_true rfl) rfl rfl dX12_stands_94 rfl ?_
      refine rv_iload_n (q := 96) E.x dX12_stands_95 rfl rfl ?_
      refine rv_iload (q := 98) E.x dX12_stands_96 rfl rfl ?_
      refine rv_iadd (q := 99) E.x dX12_stands_98 rfl ?_
      refine rv_b1 (fun r4 e3 => ?_)
      refine rR_calli (q := 102) E (c12_lineAt E.2.2.1 e3) gX12_lineAt hX12_lineAt ⟨rfl, rfl⟩ ⟨Nat.le_of_ble_eq_true rfl, Nat.le_of_ble_eq_true rfl⟩ rfl rfl rfl (Nat.le_of_ble_eq_true rfl) dX12_stands_99 rfl ?_
      refine rv_icmp_ne (q := 105) (tgt := 109) E.x dX12_stands_102 (by decide) rfl ?_ ?_
      · refine rv_iconst (q := 106) E.x dX12_stands_105 rv_ki1 rfl ?_
        refine rv_goto (q := 110) E.x dX12_stands_106 (by decide) ?_
        refine rv_wk [true, true, true, true, true, false, true] ?_
        exact b12_stands_110 E M k50 h50 x1 x2 x3 x4 x6 true
      · refine rv_iconst (q := 110) E.x dX12_stands_109 rv_ki0 rfl ?_
        refine rv_wk [true, true, true, true, true, false, true] ?_
        exact b12_stands_110 E M k50 h50 x1 x2 x3 x4 x6 false
    · refine rv_iload (q := 120) E.x dX12_stands_118 rfl rfl ?_
      exact rR_zret E x5 rfl dX12_stands_120
  · refine rv_iload (q := 120) E.x dX12_stands_118 rfl rfl ?_
    exact rR_zret E x5 rfl dX12_stands_120
theorem b12_stands_50 {p : Program} {l : Launch} {e : Env} {s : State} {m : MethodId} {args : Array Value} {below : List Frame} {meth : Method} {c : Code} {D : va_G} {cI cZ : ClassId} {ad : Nat → Nat} (E : rR_E D cI cZ ad cX12_stands 7 (some .boolean) p s m args meth c) (M : rv_Mem)   : ∀ (n : Nat), ∀ (x1 : Int32) (x2 : Int32) (x3 : Int32) (x4 : Int32) (x5 : Bool) (x6 : Int32), rv_M (rR_G D cI cZ ad) (rR_A ad) p l e rm12_stands s m args below meth c 0 0 (rR_qZ D cI cZ ad below args s M) (f12_stands_50 M n x1 x2 x3 x4 x5 x6) 50 [some (.ref (ad 67)), some (.int x1), some (.int x2), some (.int x3), some (.int x4), some (.int (rv_i x5)), some (.int x6)] [] M := by
  intro n
  induction n with
  | zero => exact fun _ _ _ _ _ _ => rv_stuck
  | succ n ih => exact b12_stands_50_s E M (f12_stands_50 M n) ih
set_option maxRecDepth 100000 in
theorem b12_stands_45 {p : Program} {l : Launch} {e : Env} {s : State} {m : MethodId} {args : Array Value} {below : List Frame} {meth : Method} {c : Code} {D : va_G} {cI cZ : ClassId} {ad : Nat → Nat} (E : rR_E D cI cZ ad cX12_stands 7 (some .boolean) p s m args meth c) (M : rv_Mem)   : ∀ (x1 : Int32) (x2 : Int32) (x3 : Int32) (x4 : Int32) (s0 : Bool), rv_M (rR_G D cI cZ ad) (rR_A ad) p l e rm12_stands s m args below meth c 0 0 (rR_qZ D cI cZ ad below args s M) (f12_stands_45 M x1 x2 x3 x4 s0) 45 [some (.ref (ad 67)), some (.int x1), some (.int x2), some (.int x3), some (.int x4), none, none] [.int (rv_i s0)] M := by
  intro x1 x2 x3 x4 s0
  unfold f12_stands_45
  refine rv_istore (q := 47) (lv' := [_, _, _, _, _, _, _]) E.x dX12_stands_45 (Nat.le_of_ble_eq_true rfl) rfl rfl rfl ?_
  refine rv_iconst (q := 48) E.x dX12_stands_47 rv_ki0 rfl ?_
  refine rv_istore (q := 50) (lv' := [_, _, _, _, _, _, _]) E.x dX12_stands_48 (Nat.le_of_ble_eq_true rfl) rfl rfl rfl ?_
  refine rv_wk [true, true, true, true, true, true, true] ?_
  exact b12_stands_50 E M rv_FU x1 x2 x3 x4 s0 0
set_option maxRecDepth 100000 in
theorem b12_stands {p : Program} {l : Launch} {e : Env} {s : State} {m : MethodId} {args : Array Value} {below : List Frame} {meth : Method} {c : Code} {D : va_G} {cI cZ : ClassId} {ad : Nat → Nat} (E : rR_E D cI cZ ad cX12_stands 7 (some .boolean) p s m args meth c) (M : rv_Mem) (a1 : Int32) (a2 : Int32) (a3 : Int32) : rv_M (rR_G D cI cZ ad) (rR_A ad) p l e rm12_stands s m args below meth c 0 0  (rR_qZ D cI cZ ad below args s M) (f12_stands M a1 a2 a3) 0 [some (.ref (ad 67)), some (.int a1), some (.int a2), some (.int a3), none, none, none] [] M := by
  unfold f12_stands
  refine rv_aload_n (q := 1) E.x dX12_stands_0 rfl rfl ?_
  refine rv_aload_n (q := 2) E.x dX12_stands_1 rfl rfl ?_
  refine rR_get (q := 5) E 26 wf12_26 rfl (Nat.le_of_ble_eq_true rfl) rfl dX12_stands_2 rfl ?_
  refine rv_iload_n (q := 6) E.x dX12_stands_5 rfl rfl ?_
  refine rR_iald (q := 7) (n := 60) E (Nat.le_of_ble_eq_true rfl) rfl rfl dX12_stands_6 rfl ?_
  refine rv_aload_n (q := 8) E.x dX12_stands_7 rfl rfl ?_
  refine rR_get (q := 11) E 27 wf12_27 rfl (Nat.le_of_ble_eq_true rfl) rfl dX12_stands_8 rfl ?_
  refine rv_iload_n (q := 12) E.x dX12_stands_11 rfl rfl ?_
  refine rR_iald (q := 13) (n := 60) E (Nat.le_of_ble_eq_true rfl) rfl rfl dX12_stands_12 rfl ?_
  refine rv_b1 (fun r2 e1 => ?_)
  refine rR_calli (q := 16) E (c12_commitAt E.2.2.1 e1) gX12_commitAt hX12_commitAt ⟨rfl, rfl⟩ ⟨Nat.le_of_ble_eq_true rfl, Nat.le_of_ble_eq_true rfl⟩ rfl rfl rfl (Nat.le_of_ble_eq_true rfl) dX12_stands_13 rfl ?_
  refine rv_istore (q := 18) (lv' := [_, _, _, _, _, _, _]) E.x dX12_stands_16 (Nat.le_of_ble_eq_true rfl) rfl rfl rfl ?_
  refine rv_iload_n (q := 19) E.x dX12_stands_18 rfl rfl ?_
  refine rv_aload_n (q := 20) E.x dX12_stands_19 rfl rfl ?_
  refine rR_get (q := 23) E 30 wf12_30 rfl (Nat.le_of_ble_eq_true rfl) rfl dX12_stands_20 rfl ?_
  refine rv_iload_n (q := 24) E.x dX12_stands_23 rfl rfl ?_
  refine rR_iald (q := 25) (n := 60) E (Nat.le_of_ble_eq_true rfl) rfl rfl dX12_stands_24 rfl ?_
  refine rv_iadd (q := 26) E.x dX12_stands_25 rfl ?_
  refine rv_aload_n (q := 27) E.x dX12_stands_26 rfl rfl ?_
  refine rv_iload_n (q := 28) E.x dX12_stands_27 rfl rfl ?_
  refine rv_aload_n (q := 29) E.x dX12_stands_28 rfl rfl ?_
  refine rR_get (q := 32) E 28 wf12_28 rfl (Nat.le_of_ble_eq_true rfl) rfl dX12_stands_29 rfl ?_
  refine rv_iload_n (q := 33) E.x dX12_stands_32 rfl rfl ?_
  refine rR_iald (q := 34) (n := 60) E (Nat.le_of_ble_eq_true rfl) rfl rfl dX12_stands_33 rfl ?_
  refine rv_b1 (fun r4 e3 => ?_)
  refine rR_calli (q := 37) E (c12_sizeOf E.2.2.1 e3) gX12_sizeOf hX12_sizeOf ⟨rfl, rfl⟩ ⟨Nat.le_of_ble_eq_true rfl, Nat.le_of_ble_eq_true rfl⟩ rfl rfl rfl (Nat.le_of_ble_eq_true rfl) dX12_stands_34 rfl ?_
  refine rv_icmp_gt (q := 40) (tgt := 44) E.x dX12_stands_37 (by decide) rfl ?_ ?_
  · refine rv_iconst (q := 41) E.x dX12_stands_40 rv_ki1 rfl ?_
    refine rv_goto (q := 45) E.x dX12_stands_41 (by decide) ?_
    refine rv_wk [true, true, true, true, true, false, false] ?_
    exact b12_stands_45 E M a1 a2 a3 r2 true
  · refine rv_iconst (q := 45) E.x dX12_stands_44 rv_ki0 rfl ?_
    refine rv_wk [true, true, true, true, true, false, false] ?_
    exact b12_stands_45 E M a1 a2 a3 r2 false
theorem c12_stands {l : Launch} {D : va_G} {cI cZ : ClassId} {ad : Nat → Nat} (hI : rR_I ad) {M : rv_Mem} {a1 : Int32} {a2 : Int32} {a3 : Int32} {r : Bool} (h : f12_stands M a1 a2 a3 = some r) : Met l yX12_stands (rv_ws yX12_stands cX12_stands 7 (some .boolean)) rm12_stands (rR_Pc D cI cZ ad [.ref (ad 67), .int a1, .int a2, .int a3] M) (rR_QI D cI cZ ad (rv_i r) M) 0 0 (rR_A ad) := rR_met hI rfl (rv_cat rfl) (Nat.le_of_ble_eq_true rfl) (fun p e s m args below meth c E => ⟨(rR_qZ D cI cZ ad below args s M), rfl, b12_stands E M a1 a2 a3⟩) h
abbrev rm12_found : Room := { frames := 2, cells := 0, slots := 0, locals := 50 }
set_option maxRecDepth 100000 in
theorem b12_found_61 {p : Program} {l : Launch} {e : Env} {s : State} {m : MethodId} {args : Array Value} {below : List Frame} {meth : Method} {c : Code} {D : va_G} {cI cZ : ClassId} {ad : Nat → Nat} (E : rR_E D cI cZ ad cX12_found 7 (some .int) p s m args meth c) (M : rv_Mem) (k8 : Int32 → Int32 → Int32 → Int32 → Int32 → Option (Int32)) (h8 : ∀ (x1 : Int32) (x2 : Int32) (x3 : Int32) (x4 : Int32) (x5 : Int32), rv_M (rR_G D cI cZ ad) (rR_A ad) p l e rm12_found s m args below meth c 0 0 (rR_qI D cI cZ ad below args s M) (k8 x1 x2 x3 x4 x5) 8 [some (.ref (ad 67)), some (.int x1), some (.int x2), some (.int x3), some (.int x4), some (.int x5), none] [] M) : ∀ (x1 : Int32) (x2 : Int32) (x3 : Int32) (x5 : Int32) (s0 : Int32), rv_M (rR_G D cI cZ ad) (rR_A ad) p l e rm12_found s m args below meth c 0 0 (rR_qI D cI cZ ad below args s M) (f12_found_61 M k8 x1 x2 x3 x5 s0) 61 [some (.ref (ad 67)), some (.int x1), some (.int x2), some (.int x3), none, some (.int x5), none] [.int s0] M := by
  intro x1 x2 x3 x5 s0
  unfold f12_found_61
  refine rv_istore (q := 63) (lv' := [_, _, _, _, _, _, _]) E.x dX12_found_61 (Nat.le_of_ble_eq_true rfl) rfl rfl rfl ?_
  refine rv_iinc (q := 66) (lv' := [_, _, _, _, _, _, _]) E.x dX12_found_63 rv_ki1 rfl rfl rfl rfl ?_
  refine rv_goto (q := 8) E.x dX12_found_66 (by decide) ?_
  refine rv_wk [true, true, true, true, true, true, false] ?_
  exact h8 x1 x2 x3 s0 (x5 + 1)
set_option maxRecDepth 100000 in
theorem b12_found_36 {p : Program} {l : Launch} {e : Env} {s : State} {m : MethodId} {args : Array Value} {below : List Frame} {meth : Method} {c : Code} {D : va_G} {cI cZ : ClassId} {ad : Nat → Nat} (E : rR_E D cI cZ ad cX12_found 7 (some .int) p s m args meth c) (M : rv_Mem) (k8 : Int32 → Int32 → Int32 → Int32 → Int32 → Option (Int32)) (h8 : ∀ (x1 : Int32) (x2 : Int32) (x3 : Int32) (x4 : Int32) (x5 : Int32), rv_M (rR_G D cI cZ ad) (rR_A ad) p l e rm12_found s m args below meth c 0 0 (rR_qI D cI cZ ad below args s M) (k8 x1 x2 x3 x4 x5) 8 [some (.ref (ad 67)), some (.int x1), some (.int x2), some (.int x3), some (.int x4), some (.int x5), none] [] M) : ∀ (x1 : Int32) (x2 : Int32) (x4 : Int32) (x5 : Int32) (x6 : Bool) (s0 : Int32) (s1 : Bool), rv_M (rR_G D cI cZ ad) (rR_A ad) p l e rm12_found s m args below meth c 0 0 (rR_qI D cI cZ ad below args s M) (f12_found_36 M k8 x1 x2 x4 x5 x6 s0 s1) 36 [some (.ref (ad 67)), some (.int x1), some (.int x2), none, some (.int x4), some (.int x5), some (.int (rv_i x6))] [.int (rv_i s1), .int s0] M := by
  intro x1 x2 x4 x5 x6 s0 s1
  unfold f12_found_36
  refine rv_iadd (q := 37) E.x dX12_found_36 rfl ?_
  refine rv_istore_n (q := 38) (lv' := [_, _, _, _, _, _, _]) E.x dX12_found_37 (Nat.le_of_ble_eq_true rfl) rfl rfl rfl ?_
  refine rv_iload (q := 40) E.x dX12_found_38 rfl rfl ?_
  refine rv_ifz_eq (q := 43) (tgt := 59) E.x dX12_found_40 (by decide) rfl ?_ ?_
  · refine rv_iconst (q := 44) E.x dX12_found_43 rv_ki1 rfl ?_
    refine rv_aload_n (q := 45) E.x dX12_found_44 rfl rfl ?_
    refine rR_get (q := 48) E 30 wf12_30 rfl (Nat.le_of_ble_eq_true rfl) rfl dX12_found_45 rfl ?_
    refine rv_iload_n (q := 49) E.x dX12_found_48 rfl rfl ?_
    refine rR_iald (q := 50) (n := 60) E (Nat.le_of_ble_eq_true rfl) rfl rfl dX12_found_49 rfl ?_
    refine rv_ishl (q := 51) E.x dX12_found_50 rfl ?_
    refine rv_iconst (q := 52) E.x dX12_found_51 rv_ki1 rfl ?_
    refine rv_isub (q := 53) E.x dX12_found_52 rfl ?_
    refine rv_iload (q := 55) E.x dX12_found_53 rfl rfl ?_
    refine rv_ishl (q := 56) E.x dX12_found_55 rfl ?_
    refine rv_goto (q := 61) E.x dX12_found_56 (by decide) ?_
    refine rv_wk [true, true, true, true, false, true, false] ?_
    exact b12_found_61 E M k8 h8 x1 x2 (s0 + (rv_i s1)) x5 (((1 <<< ((M 30 (x1).toNatClampNeg) &&& 31)) - 1) <<< (x5 &&& 31))
  · refine rv_iload (q := 61) E.x dX12_found_59 rfl rfl ?_
    refine rv_wk [true, true, true, true, false, true, false] ?_
    exact b12_found_61 E M k8 h8 x1 x2 (s0 + (rv_i s1)) x5 x4
set_option maxRecDepth 100000 in
theorem b12_found_8_s {p : Program} {l : Launch} {e : Env} {s : State} {m : MethodId} {args : Array Value} {below : List Frame} {meth : Method} {c : Code} {D : va_G} {cI cZ : ClassId} {ad : Nat → Nat} (E : rR_E D cI cZ ad cX12_found 7 (some .int) p s m args meth c) (M : rv_Mem)   (k8 : Int32 → Int32 → Int32 → Int32 → Int32 → Option (Int32)) (h8 : ∀ (x1 : Int32) (x2 : Int32) (x3 : Int32) (x4 : Int32) (x5 : Int32), rv_M (rR_G D cI cZ ad) (rR_A ad) p l e rm12_found s m args below meth c 0 0 (rR_qI D cI cZ ad below args s M) (k8 x1 x2 x3 x4 x5) 8 [some (.ref (ad 67)), some (.int x1), some (.int x2), some (.int x3), some (.int x4), some (.int x5), none] [] M) : ∀ (x1 : Int32) (x2 : Int32) (x3 : Int32) (x4 : Int32) (x5 : Int32), rv_M (rR_G D cI cZ ad) (rR_A ad) p l e rm12_found s m args below meth c 0 0 (rR_qI D cI cZ ad below args s M) (f12_found_8_s M k8 x1 x2 x3 x4 x5) 8 [some (.ref (ad 67)), some (.int x1), some (.int x2), some (.int x3), some (.int x4), some (.int x5), none] [] M := by
  intro x1 x2 x3 x4 x5
  unfold f12_found_8_s
  refine rv_iload (q := 10) E.x dX12_found_8 rfl rfl ?_
  refine rv_bipush (q := 12) E.x dX12_found_10 rv_kb10 rfl ?_
  refine rv_icmp_ge (q := 15) (tgt := 69) E.x dX12_found_12 (by decide) rfl ?_ ?_
  · refine rv_aload_n (q := 16) E.x dX12_found_15 rfl rfl ?_
    refine rv_iload_n (q := 17) E.x dX12_found_16 rfl rfl ?_
    refine rv_iload_n (q := 18) E.x dX12_found_17 rfl rfl ?_
    refine rv_iload (q := 20) E.x dX12_found_18 rfl rfl ?_
    refine rv_b1 (fun r2 e1 => ?_)
    refine rR_calli (q := 23) E (c12_stands E.2.2.1 e1) gX12_stands hX12_stands ⟨rfl, rfl⟩ ⟨Nat.le_of_ble_eq_true rfl, Nat.le_of_ble_eq_true rfl⟩ rfl rfl rfl (Nat.le_of_ble_eq_true rfl) dX12_found_20 rfl ?_
    refine rv_istore (q := 25) (lv' := [_, _, _, _, _, _, _]) E.x dX12_found_23 (Nat.le_of_ble_eq_true rfl) rfl rfl rfl ?_
    refine rv_iload_n (q := 26) E.x dX12_found_25 rfl rfl ?_
    refine rv_iload (q := 28) E.x dX12_found_26 rfl rfl ?_
    refine rv_ifz_eq (q := 31) (tgt := 35) E.x dX12_found_28 (by decide) rfl ?_ ?_
    · refine rv_iconst (q := 32) E.x dX12_found_31 rv_ki1 rfl ?_
      refine rv_goto (q := 36) E.x dX12_found_32 (by decide) ?_
      refine rv_wk [true, true, true, false, true, true, true] ?_
      exact b12_found_36 E M k8 h8 x1 x2 x4 x5 r2 x3 true
    · refine rv_iconst (q := 36) E.x dX12_found_35 rv_ki0 rfl ?_
      refine rv_wk [true, true, true, false, true, true, true] ?_
      exact b12_found_36 E M k8 h8 x1 x2 x4 x5 r2 x3 false
  · refine rv_iload_n (q := 70) E.x dX12_found_69 rfl rfl ?_
    refine rv_iconst (q := 71) E.x dX12_found_70 rv_ki1 rfl ?_
    refine rv_icmp_ne (q := 74) (tgt := 79) E.x dX12_found_71 (by decide) rfl ?_ ?_
    · refine rv_iload (q := 76) E.x dX12_found_74 rfl rfl ?_
      refine rv_goto (q := 80) E.x dX12_found_76 (by decide) ?_
      exact rR_iret E rfl dX12_found_80
    · refine rv_iconst (q := 80) E.x dX12_found_79 rv_ki0 rfl ?_
      exact rR_iret E rfl dX12_found_80
theorem b12_found_8 {p : Program} {l : Launch} {e : Env} {s : State} {m : MethodId} {args : Array Value} {below : List Frame} {meth : Method} {c : Code} {D : va_G} {cI cZ : ClassId} {ad : Nat → Nat} (E : rR_E D cI cZ ad cX12_found 7 (some .int) p s m args meth c) (M : rv_Mem)   : ∀ (n : Nat), ∀ (x1 : Int32) (x2 : Int32) (x3 : Int32) (x4 : Int32) (x5 : Int32), rv_M (rR_G D cI cZ ad) (rR_A ad) p l e rm12_found s m args below meth c 0 0 (rR_qI D cI cZ ad below args s M) (f12_found_8 M n x1 x2 x3 x4 x5) 8 [some (.ref (ad 67)), some (.int x1), some (.int x2), some (.int x3), some (.int x4), some (.int x5), none] [] M := by
  intro n
  induction n with
  | zero => exact fun _ _ _ _ _ => rv_stuck
  | succ n ih => exact b12_found_8_s E M (f12_found_8 M n) ih
set_option maxRecDepth 100000 in
theorem b12_found {p : Program} {l : Launch} {e : Env} {s : State} {m : MethodId} {args : Array Value} {below : List Frame} {meth : Method} {c : Code} {D : va_G} {cI cZ : ClassId} {ad : Nat → Nat} (E : rR_E D cI cZ ad cX12_found 7 (some .int) p s m args meth c) (M : rv_Mem) (a1 : Int32) (a2 : Int32) : rv_M (rR_G D cI cZ ad) (rR_A ad) p l e rm12_found s m args below meth c 0 0  (rR_qI D cI cZ ad below args s M) (f12_found M a1 a2) 0 [some (.ref (ad 67)), some (.int a1), some (.int a2), none, none, none, none] [] M := by
  unfold f12_found
  refine rv_iconst (q := 1) E.x dX12_found_0 rv_ki0 rfl ?_
  refine rv_istore_n (q := 2) (lv' := [_, _, _, _, _, _, _]) E.x dX12_found_1 (Nat.le_of_ble_eq_true rfl) rfl rfl rfl ?_
  refine rv_iconst (q := 3) E.x dX12_found_2 rv_ki0 rfl ?_
  refine rv_istore (q := 5) (lv' := [_, _, _, _, _, _, _]) E.x dX12_found_3 (Nat.le_of_ble_eq_true rfl) rfl rfl rfl ?_
  refine rv_iconst (q := 6) E.x dX12_found_5 rv_ki0 rfl ?_
  refine rv_istore (q := 8) (lv' := [_, _, _, _, _, _, _]) E.x dX12_found_6 (Nat.le_of_ble_eq_true rfl) rfl rfl rfl ?_
  refine rv_wk [true, true, true, true, true, true, false] ?_
  exact b12_found_8 E M rv_FU a1 a2 0 0 0
theorem c12_found {l : Launch} {D : va_G} {cI cZ : ClassId} {ad : Nat → Nat} (hI : rR_I ad) {M : rv_Mem} {a1 : Int32} {a2 : Int32} {r : Int32} (h : f12_found M a1 a2 = some r) : Met l yX12_found (rv_ws yX12_found cX12_found 7 (some .int)) rm12_found (rR_Pc D cI cZ ad [.ref (ad 67), .int a1, .int a2] M) (rR_QI D cI cZ ad r M) 0 0 (rR_A ad) := rR_met hI rfl (rv_cat rfl) (Nat.le_of_ble_eq_true rfl) (fun p e s m args below meth c E => ⟨(rR_qI D cI cZ ad below args s M), rfl, b12_found E M a1 a2⟩) h
abbrev rm12_shownIn : Room := { frames := 3, cells := 0, slots := 0, locals := 82 }
set_option maxRecDepth 100000 in
theorem b12_shownIn_120 {p : Program} {l : Launch} {e : Env} {s : State} {m : MethodId} {args : Array Value} {below : List Frame} {meth : Method} {c : Code} {D : va_G} {cI cZ : ClassId} {ad : Nat → Nat} (E : rR_E D cI cZ ad cX12_shownIn 8 (some .int) p s m args meth c) (k26 : rv_Mem → Int32 → Int32 → Int32 → Int32 → Option (Int32 × rv_Mem)) (k78 : rv_Mem → Int32 → Int32 → Int32 → Int32 → Int32 → Int32 → Int32 → Option (Int32 × rv_Mem)) (h26 : ∀ (M : rv_Mem) (x1 : Int32) (x2 : Int32) (x3 : Int32) (x4 : Int32), rv_M (rR_G D cI cZ ad) (rR_A ad) p l e rm12_shownIn s m args below meth c 0 0 (rR_qIW D cI cZ ad below args s) (k26 M x1 x2 x3 x4) 26 [some (.ref (ad 67)), some (.int x1), some (.int x2), some (.int x3), some (.int x4), none, none, none] [] M) (h78 : ∀ (M : rv_Mem) (x1 : Int32) (x2 : Int32) (x3 : Int32) (x4 : Int32) (x5 : Int32) (x6 : Int32) (x7 : Int32), rv_M (rR_G D cI cZ ad) (rR_A ad) p l e rm12_shownIn s m args below meth c 0 0 (rR_qIW D cI cZ ad below args s) (k78 M x1 x2 x3 x4 x5 x6 x7) 78 [some (.ref (ad 67)), some (.int x1), some (.int x2), some (.int x3), some (.int x4), some (.int x5), some (.int x6), some (.int x7)] [] M) : ∀ (M : rv_Mem) (x1 : Int32) (x2 : Int32) (x3 : Int32) (x4 : Int32) (x5 : Int32) (x7 : Int32) (s0 : Int32) (s1 : Int32), rv_M (rR_G D cI cZ ad) (rR_A ad) p l e rm12_shownIn s m args below meth c 0 0 (rR_qIW D cI cZ ad below args s) (f12_shownIn_120 k26 k78 M x1 x2 x3 x4 x5 x7 s0 s1) 120 [some (.ref (ad 67)), some (.int x1), some (.int x2), some (.int x3), some (.int x4), some (.int x5), none, some (.int x7)] [.int s1, .int s0] M := by
  intro M x1 x2 x3 x4 x5 x7 s0 s1
  unfold f12_shownIn_120
  refine rv_ior (q := 121) E.x dX12_shownIn_120 rfl ?_
  refine rv_istore (q := 123) (lv' := [_, _, _, _, _, _, _, _]) E.x dX12_shownIn_121 (Nat.le_of_ble_eq_true rfl) rfl rfl rfl ?_
  refine rv_iinc (q := 126) (lv' := [_, _, _, _, _, _, _, _]) E.x dX12_shownIn_123 rv_ki1 rfl rfl rfl rfl ?_
  refine rv_goto (q := 78) E.x dX12_shownIn_126 (by decide) ?_
  refine rv_wk [true, true, true, true, true, true, true, true] ?_
  exact h78 M x1 x2 x3 x4 x5 (s0 ||| s1) (x7 + 1)
set_option maxRecDepth 100000 in
theorem b12_shownIn_119 {p : Program} {l : Launch} {e : Env} {s : State} {m : MethodId} {args : Array Value} {below : List Frame} {meth : Method} {c : Code} {D : va_G} {cI cZ : ClassId} {ad : Nat → Nat} (E : rR_E D cI cZ ad cX12_shownIn 8 (some .int) p s m args meth c) (k26 : rv_Mem → Int32 → Int32 → Int32 → Int32 → Option (Int32 × rv_Mem)) (k78 : rv_Mem → Int32 → Int32 → Int32 → Int32 → Int32 → Int32 → Int32 → Option (Int32 × rv_Mem)) (h26 : ∀ (M : rv_Mem) (x1 : Int32) (x2 : Int32) (x3 : Int32) (x4 : Int32), rv_M (rR_G D cI cZ ad) (rR_A ad) p l e rm12_shownIn s m args below meth c 0 0 (rR_qIW D cI cZ ad below args s) (k26 M x1 x2 x3 x4) 26 [some (.ref (ad 67)), some (.int x1), some (.int x2), some (.int x3), some (.int x4), none, none, none] [] M) (h78 : ∀ (M : rv_Mem) (x1 : Int32) (x2 : Int32) (x3 : Int32) (x4 : Int32) (x5 : Int32) (x6 : Int32) (x7 : Int32), rv_M (rR_G D cI cZ ad) (rR_A ad) p l e rm12_shownIn s m args below meth c 0 0 (rR_qIW D cI cZ ad below args s) (k78 M x1 x2 x3 x4 x5 x6 x7) 78 [some (.ref (ad 67)), some (.int x1), some (.int x2), some (.int x3), some (.int x4), some (.int x5), some (.int x6), some (.int x7)] [] M) : ∀ (M : rv_Mem) (x1 : Int32) (x2 : Int32) (x3 : Int32) (x4 : Int32) (x5 : Int32) (x7 : Int32) (s0 : Int32), rv_M (rR_G D cI cZ ad) (rR_A ad) p l e rm12_shownIn s m args below meth c 0 0 (rR_qIW D cI cZ ad below args s) (f12_shownIn_119 k26 k78 M x1 x2 x3 x4 x5 x7 s0) 119 [some (.ref (ad 67)), some (.int x1), some (.int x2), some (.int x3), some (.int x4), some (.int x5), none, some (.int x7)] [.int s0] M := by
  intro M x1 x2 x3 x4 x5 x7 s0
  unfold f12_shownIn_119
  refine rv_iconst (q := 120) E.x dX12_shownIn_119 rv_ki0 rfl ?_
  refine rv_wk [true, true, true, true, true, true, false, true] ?_
  exact b12_shownIn_120 E k26 k78 h26 h78 M x1 x2 x3 x4 x5 x7 s0 0
set_option maxRecDepth 100000 in
theorem b12_shownIn_146 {p : Program} {l : Launch} {e : Env} {s : State} {m : MethodId} {args : Array Value} {below : List Frame} {meth : Method} {c : Code} {D : va_G} {cI cZ : ClassId} {ad : Nat → Nat} (E : rR_E D cI cZ ad cX12_shownIn 8 (some .int) p s m args meth c) (k26 : rv_Mem → Int32 → Int32 → Int32 → Int32 → Option (Int32 × rv_Mem)) (h26 : ∀ (M : rv_Mem) (x1 : Int32) (x2 : Int32) (x3 : Int32) (x4 : Int32), rv_M (rR_G D cI cZ ad) (rR_A ad) p l e rm12_shownIn s m args below meth c 0 0 (rR_qIW D cI cZ ad below args s) (k26 M x1 x2 x3 x4) 26 [some (.ref (ad 67)), some (.int x1), some (.int x2), some (.int x3), some (.int x4), none, none, none] [] M) : ∀ (M : rv_Mem) (x1 : Int32) (x2 : Int32) (x4 : Int32) (s0 : Int32), rv_M (rR_G D cI cZ ad) (rR_A ad) p l e rm12_shownIn s m args below meth c 0 0 (rR_qIW D cI cZ ad below args s) (f12_shownIn_146 k26 M x1 x2 x4 s0) 146 [some (.ref (ad 67)), some (.int x1), some (.int x2), none, some (.int x4), none, none, none] [.int s0] M := by
  intro M x1 x2 x4 s0
  unfold f12_shownIn_146
  refine rv_istore_n (q := 147) (lv' := [_, _, _, _, _, _, _, _]) E.x dX12_shownIn_146 (Nat.le_of_ble_eq_true rfl) rfl rfl rfl ?_
  refine rv_iinc (q := 150) (lv' := [_, _, _, _, _, _, _, _]) E.x dX12_shownIn_147 rv_ki1 rfl rfl rfl rfl ?_
  refine rv_goto (q := 26) E.x dX12_shownIn_150 (by decide) ?_
  refine rv_wk [true, true, true, true, true, false, false, false] ?_
  exact h26 M x1 x2 s0 (x4 + 1)
set_option maxRecDepth 100000 in
theorem b12_shownIn_78_s {p : Program} {l : Launch} {e : Env} {s : State} {m : MethodId} {args : Array Value} {below : List Frame} {meth : Method} {c : Code} {D : va_G} {cI cZ : ClassId} {ad : Nat → Nat} (E : rR_E D cI cZ ad cX12_shownIn 8 (some .int) p s m args meth c) (k26 : rv_Mem → Int32 → Int32 → Int32 → Int32 → Option (Int32 × rv_Mem)) (h26 : ∀ (M : rv_Mem) (x1 : Int32) (x2 : Int32) (x3 : Int32) (x4 : Int32), rv_M (rR_G D cI cZ ad) (rR_A ad) p l e rm12_shownIn s m args below meth c 0 0 (rR_qIW D cI cZ ad below args s) (k26 M x1 x2 x3 x4) 26 [some (.ref (ad 67)), some (.int x1), some (.int x2), some (.int x3), some (.int x4), none, none, none] [] M) (k78 : rv_Mem → Int32 → Int32 → Int32 → Int32 → Int32 → Int32 → Int32 → Option (Int32 × rv_Mem)) (h78 : ∀ (M : rv_Mem) (x1 : Int32) (x2 : Int32) (x3 : Int32) (x4 : Int32) (x5 : Int32) (x6 : Int32) (x7 : Int32), rv_M (rR_G D cI cZ ad) (rR_A ad) p l e rm12_shownIn s m args below meth c 0 0 (rR_qIW D cI cZ ad below args s) (k78 M x1 x2 x3 x4 x5 x6 x7) 78 [some (.ref (ad 67)), some (.int x1), some (.int x2), some (.int x3), some (.int x4), some (.int x5), some (.int x6), some (.int x7)] [] M) : ∀ (M : rv_Mem) (x1 : Int32) (x2 : Int32) (x3 : Int32) (x4 : Int32) (x5 : Int32) (x6 : Int32) (x7 : Int32), rv_M (rR_G D cI cZ ad) (rR_A ad) p l e rm12_shownIn s m args below meth c 0 0 (rR_qIW D cI cZ ad below args s) (f12_shownIn_78_s k26 k78 M x1 x2 x3 x4 x5 x6 x7) 78 [some (.ref (ad 67)), some (.int x1), some (.int x2), some (.int x3), some (.int x4), some (.int x5), some (.int x6), some (.int x7)] [] M := by
  intro M x1 x2 x3 x4 x5 x6 x7
  unfold f12_shownIn_78_s
  refine rv_iload (q := 80) E.x dX12_shownIn_78 rfl rfl ?_
  refine rv_bipush (q := 82) E.x dX12_shownIn_80 rv_kb10 rfl ?_
  refine rv_icmp_ge (q := 85) (tgt := 129) E.x dX12_shownIn_82 (by decide) rfl ?_ ?_
  · refine rv_iload (q := 87) E.x dX12_shownIn_85 rfl rfl ?_
    refine rv_iload_n (q := 88) E.x dX12_shownIn_87 rfl rfl ?_
    refine rv_iload (q := 90) E.x dX12_shownIn_88 rfl rfl ?_
    refine rv_b1 (fun r2 e1 => ?_)
    refine rR_calls (q := 93) E (c12_isOf e1) gX12_isOf hX12_isOf ⟨rfl, rfl⟩ ⟨Nat.le_of_ble_eq_true rfl, Nat.le_of_ble_eq_true rfl⟩ rfl rfl rfl (Nat.le_of_ble_eq_true rfl) dX12_shownIn_90 rfl ?_
    refine rv_ifz_eq (q := 96) (tgt := 119) E.x dX12_shownIn_93 (by decide) rfl ?_ ?_
    · refine rv_aload_n (q := 97) E.x dX12_shownIn_96 rfl rfl ?_
      refine rR_get (q := 100) E 54 wf12_54 rfl (Nat.le_of_ble_eq_true rfl) rfl dX12_shownIn_97 rfl ?_
      refine rv_iload (q := 102) E.x dX12_shownIn_100 rfl rfl ?_
      refine rR_iald (q := 103) (n := 10) E (Nat.le_of_ble_eq_true rfl) rfl rfl dX12_shownIn_102 rfl ?_
      refine rv_iconst (q := 104) E.x dX12_shownIn_103 rv_kim1 rfl ?_
      refine rv_icmp_eq (q := 107) (tgt := 119) E.x dX12_shownIn_104 (by decide) rfl ?_ ?_
      · refine rv_iconst (q := 108) E.x dX12_shownIn_107 rv_ki1 rfl ?_
        refine rv_aload_n (q := 109) E.x dX12_shownIn_108 rfl rfl ?_
        refine rR_get (q := 112) E 54 wf12_54 rfl (Nat.le_of_ble_eq_true rfl) rfl dX12_shownIn_109 rfl ?_
        refine rv_iload (q := 114) E.x dX12_shownIn_112 rfl rfl ?_
        refine rR_iald (q := 115) (n := 10) E (Nat.le_of_ble_eq_true rfl) rfl rfl dX12_shownIn_114 rfl ?_
        refine rv_ishl (q := 116) E.x dX12_shownIn_115 rfl ?_
        refine rv_goto (q := 120) E.x dX12_shownIn_116 (by decide) ?_
        refine rv_wk [true, true, true, true, true, true, false, true] ?_
        exact b12_shownIn_120 E k26 k78 h26 h78 M x1 x2 x3 x4 x5 x7 x6 (1 <<< ((M 54 (x7).toNatClampNeg) &&& 31))
      · refine rv_wk [true, true, true, true, true, true, false, true] ?_
        exact b12_shownIn_119 E k26 k78 h26 h78 M x1 x2 x3 x4 x5 x7 x6
    · refine rv_wk [true, true, true, true, true, true, false, true] ?_
      exact b12_shownIn_119 E k26 k78 h26 h78 M x1 x2 x3 x4 x5 x7 x6
  · refine rv_iload (q := 131) E.x dX12_shownIn_129 rfl rfl ?_
    refine rv_if_ne (q := 134) (tgt := 144) E.x dX12_shownIn_131 (by decide) rfl ?_ ?_
    · refine rv_aload_n (q := 135) E.x dX12_shownIn_134 rfl rfl ?_
      refine rv_iload_n (q := 136) E.x dX12_shownIn_135 rfl rfl ?_
      refine rv_iload (q := 138) E.x dX12_shownIn_136 rfl rfl ?_
      refine rv_b1 (fun r4 e3 => ?_)
      refine rR_calli (q := 141) E (c12_found E.2.2.1 e3) gX12_found hX12_found ⟨rfl, rfl⟩ ⟨Nat.le_of_ble_eq_true rfl, Nat.le_of_ble_eq_true rfl⟩ rfl rfl rfl (Nat.le_of_ble_eq_true rfl) dX12_shownIn_138 rfl ?_
      refine rv_goto (q := 146) E.x dX12_shownIn_141 (by decide) ?_
      refine rv_wk [true, true, true, false, true, false, false, false] ?_
      exact b12_shownIn_146 E k26 h26 M x1 x2 x4 r4
    · refine rv_iload (q := 146) E.x dX12_shownIn_144 rfl rfl ?_
      refine rv_wk [true, true, true, false, true, false, false, false] ?_
      exact b12_shownIn_146 E k26 h26 M x1 x2 x4 x6
theorem b12_shownIn_78 {p : Program} {l : Launch} {e : Env} {s : State} {m : MethodId} {args : Array Value} {below : List Frame} {meth : Method} {c : Code} {D : va_G} {cI cZ : ClassId} {ad : Nat → Nat} (E : rR_E D cI cZ ad cX12_shownIn 8 (some .int) p s m args meth c) (k26 : rv_Mem → Int32 → Int32 → Int32 → Int32 → Option (Int32 × rv_Mem)) (h26 : ∀ (M : rv_Mem) (x1 : Int32) (x2 : Int32) (x3 : Int32) (x4 : Int32), rv_M (rR_G D cI cZ ad) (rR_A ad) p l e rm12_shownIn s m args below meth c 0 0 (rR_qIW D cI cZ ad below args s) (k26 M x1 x2 x3 x4) 26 [some (.ref (ad 67)), some (.int x1), some (.int x2), some (.int x3), some (.int x4), none, none, none] [] M) : ∀ (n : Nat), ∀ (M : rv_Mem) (x1 : Int32) (x2 : Int32) (x3 : Int32) (x4 : Int32) (x5 : Int32) (x6 : Int32) (x7 : Int32), rv_M (rR_G D cI cZ ad) (rR_A ad) p l e rm12_shownIn s m args below meth c 0 0 (rR_qIW D cI cZ ad below args s) (f12_shownIn_78 k26 n M x1 x2 x3 x4 x5 x6 x7) 78 [some (.ref (ad 67)), some (.int x1), some (.int x2), some (.int x3), some (.int x4), some (.int x5), some (.int x6), some (.int x7)] [] M := by
  intro n
  induction n with
  | zero => exact fun _ _ _ _ _ _ _ _ => rv_stuck
  | succ n ih => exact b12_shownIn_78_s E k26 h26 (f12_shownIn_78 k26 n) ih
set_option maxRecDepth 100000 in
theorem b12_shownIn_26_s {p : Program} {l : Launch} {e : Env} {s : State} {m : MethodId} {args : Array Value} {below : List Frame} {meth : Method} {c : Code} {D : va_G} {cI cZ : ClassId} {ad : Nat → Nat} (E : rR_E D cI cZ ad cX12_shownIn 8 (some .int) p s m args meth c)   (k26 : rv_Mem → Int32 → Int32 → Int32 → Int32 → Option (Int32 × rv_Mem)) (h26 : ∀ (M : rv_Mem) (x1 : Int32) (x2 : Int32) (x3 : Int32) (x4 : Int32), rv_M (rR_G D cI cZ ad) (rR_A ad) p l e rm12_shownIn s m args below meth c 0 0 (rR_qIW D cI cZ ad below args s) (k26 M x1 x2 x3 x4) 26 [some (.ref (ad 67)), some (.int x1), some (.int x2), some (.int x3), some (.int x4), none, none, none] [] M) : ∀ (M : rv_Mem) (x1 : Int32) (x2 : Int32) (x3 : Int32) (x4 : Int32), rv_M (rR_G D cI cZ ad) (rR_A ad) p l e rm12_shownIn s m args below meth c 0 0 (rR_qIW D cI cZ ad below args s) (f12_shownIn_26_s k26 M x1 x2 x3 x4) 26 [some (.ref (ad 67)), some (.int x1), some (.int x2), some (.int x3), some (.int x4), none, none, none] [] M := by
  intro M x1 x2 x3 x4
  unfold f12_shownIn_26_s
  refine rv_iload (q := 28) E.x dX12_shownIn_26 rfl rfl ?_
  refine rv_iload_n (q := 29) E.x dX12_shownIn_28 rfl rfl ?_
  refine rv_icmp_ge (q := 32) (tgt := 153) E.x dX12_shownIn_29 (by decide) rfl ?_ ?_
  · refine rv_aload_n (q := 33) E.x dX12_shownIn_32 rfl rfl ?_
    refine rv_aload_n (q := 34) E.x dX12_shownIn_33 rfl rfl ?_
    refine rR_get (q := 37) E 26 wf12_26 rfl (Nat.le_of_ble_eq_true rfl) rfl dX12_shownIn_34 rfl ?_
    refine rv_iload_n (q := 38) E.x dX12_shownIn_37 rfl rfl ?_
    refine rR_iald (q := 39) (n := 60) E (Nat.le_of_ble_eq_true rfl) rfl rfl dX12_shownIn_38 rfl ?_
    refine rv_iload (q := 41) E.x dX12_shownIn_39 rfl rfl ?_
    refine rv_iconst (q := 42) E.x dX12_shownIn_41 rv_ki1 rfl ?_
    refine rv_iadd (q := 43) E.x dX12_shownIn_42 rfl ?_
    refine rv_b1 (fun r2 e1 => ?_)
    refine rR_calli (q := 46) E (c12_commitAt E.2.2.1 e1) gX12_commitAt hX12_commitAt ⟨rfl, rfl⟩ ⟨Nat.le_of_ble_eq_true rfl, Nat.le_of_ble_eq_true rfl⟩ rfl rfl rfl (Nat.le_of_ble_eq_true rfl) dX12_shownIn_43 rfl ?_
    refine rv_istore (q := 48) (lv' := [_, _, _, _, _, _, _, _]) E.x dX12_shownIn_46 (Nat.le_of_ble_eq_true rfl) rfl rfl rfl ?_
    refine rv_aload_n (q := 49) E.x dX12_shownIn_48 rfl rfl ?_
    refine rv_aload_n (q := 50) E.x dX12_shownIn_49 rfl rfl ?_
    refine rv_aload_n (q := 51) E.x dX12_shownIn_50 rfl rfl ?_
    refine rR_get (q := 54) E 26 wf12_26 rfl (Nat.le_of_ble_eq_true rfl) rfl dX12_shownIn_51 rfl ?_
    refine rv_iload_n (q := 55) E.x dX12_shownIn_54 rfl rfl ?_
    refine rR_iald (q := 56) (n := 60) E (Nat.le_of_ble_eq_true rfl) rfl rfl dX12_shownIn_55 rfl ?_
    refine rv_iload (q := 58) E.x dX12_shownIn_56 rfl rfl ?_
    refine rv_b1 (fun r4 e3 => ?_)
    refine rR_calli (q := 61) E (c12_commitAt E.2.2.1 e3) gX12_commitAt hX12_commitAt ⟨rfl, rfl⟩ ⟨Nat.le_of_ble_eq_true rfl, Nat.le_of_ble_eq_true rfl⟩ rfl rfl rfl (Nat.le_of_ble_eq_true rfl) dX12_shownIn_58 rfl ?_
    refine rv_iload (q := 63) E.x dX12_shownIn_61 rfl rfl ?_
    refine rv_aload_n (q := 64) E.x dX12_shownIn_63 rfl rfl ?_
    refine rR_get (q := 67) E 28 wf12_28 rfl (Nat.le_of_ble_eq_true rfl) rfl dX12_shownIn_64 rfl ?_
    refine rv_iload_n (q := 68) E.x dX12_shownIn_67 rfl rfl ?_
    refine rR_iald (q := 69) (n := 60) E (Nat.le_of_ble_eq_true rfl) rfl rfl dX12_shownIn_68 rfl ?_
    refine rv_b1 (fun M6 e5 => ?_)
    refine rR_callv (q := 72) E (c12_pairs E.2.2.1 e5) gX12_pairs hX12_pairs ⟨rfl, rfl⟩ ⟨Nat.le_of_ble_eq_true rfl, Nat.le_of_ble_eq_true rfl⟩ rfl rfl rfl (Nat.le_of_ble_eq_true rfl) dX12_shownIn_69 rfl ?_
    refine rv_iconst (q := 73) E.x dX12_shownIn_72 rv_ki0 rfl ?_
    refine rv_istore (q := 75) (lv' := [_, _, _, _, _, _, _, _]) E.x dX12_shownIn_73 (Nat.le_of_ble_eq_true rfl) rfl rfl rfl ?_
    refine rv_iconst (q := 76) E.x dX12_shownIn_75 rv_ki0 rfl ?_
    refine rv_istore (q := 78) (lv' := [_, _, _, _, _, _, _, _]) E.x dX12_shownIn_76 (Nat.le_of_ble_eq_true rfl) rfl rfl rfl ?_
    refine rv_wk [true, true, true, true, true, true, true, true] ?_
    exact b12_shownIn_78 E k26 h26 rv_FU M6 x1 x2 x3 x4 r2 0 0
  · refine rv_iload_n (q := 154) E.x dX12_shownIn_153 rfl rfl ?_
    refine rv_aload_n (q := 155) E.x dX12_shownIn_154 rfl rfl ?_
    refine rR_get (q := 158) E 27 wf12_27 rfl (Nat.le_of_ble_eq_true rfl) rfl dX12_shownIn_155 rfl ?_
    refine rv_iload_n (q := 159) E.x dX12_shownIn_158 rfl rfl ?_
    refine rR_iald (q := 160) (n := 60) E (Nat.le_of_ble_eq_true rfl) rfl rfl dX12_shownIn_159 rfl ?_
    refine rv_icmp_ge (q := 163) (tgt := 167) E.x dX12_shownIn_160 (by decide) rfl ?_ ?_
    · refine rv_iconst (q := 164) E.x dX12_shownIn_163 rv_ki0 rfl ?_
      refine rv_goto (q := 168) E.x dX12_shownIn_164 (by decide) ?_
      exact rR_iret E rfl dX12_shownIn_168
    · refine rv_iload_n (q := 168) E.x dX12_shownIn_167 rfl rfl ?_
      exact rR_iret E rfl dX12_shownIn_168
theorem b12_shownIn_26 {p : Program} {l : Launch} {e : Env} {s : State} {m : MethodId} {args : Array Value} {below : List Frame} {meth : Method} {c : Code} {D : va_G} {cI cZ : ClassId} {ad : Nat → Nat} (E : rR_E D cI cZ ad cX12_shownIn 8 (some .int) p s m args meth c)   : ∀ (n : Nat), ∀ (M : rv_Mem) (x1 : Int32) (x2 : Int32) (x3 : Int32) (x4 : Int32), rv_M (rR_G D cI cZ ad) (rR_A ad) p l e rm12_shownIn s m args below meth c 0 0 (rR_qIW D cI cZ ad below args s) (f12_shownIn_26 n M x1 x2 x3 x4) 26 [some (.ref (ad 67)), some (.int x1), some (.int x2), some (.int x3), some (.int x4), none, none, none] [] M := by
  intro n
  induction n with
  | zero => exact fun _ _ _ _ _ => rv_stuck
  | succ n ih => exact b12_shownIn_26_s E  (f12_shownIn_26 n) ih
set_option maxRecDepth 100000 in
theorem b12_shownIn {p : Program} {l : Launch} {e : Env} {s : State} {m : MethodId} {args : Array Value} {below : List Frame} {meth : Method} {c : Code} {D : va_G} {cI cZ : ClassId} {ad : Nat → Nat} (E : rR_E D cI cZ ad cX12_shownIn 8 (some .int) p s m args meth c) (M : rv_Mem) (a1 : Int32) (a2 : Int32) : rv_M (rR_G D cI cZ ad) (rR_A ad) p l e rm12_shownIn s m args below meth c 0 0  (rR_qIW D cI cZ ad below args s) (f12_shownIn M a1 a2) 0 [some (.ref (ad 67)), some (.int a1), some (.int a2), none, none, none, none, none] [] M := by
  unfold f12_shownIn
  refine rv_iconst (q := 1) E.x dX12_shownIn_0 rv_ki1 rfl ?_
  refine rv_aload_n (q := 2) E.x dX12_shownIn_1 rfl rfl ?_
  refine rR_get (q := 5) E 30 wf12_30 rfl (Nat.le_of_ble_eq_true rfl) rfl dX12_shownIn_2 rfl ?_
  refine rv_iload_n (q := 6) E.x dX12_shownIn_5 rfl rfl ?_
  refine rR_iald (q := 7) (n := 60) E (Nat.le_of_ble_eq_true rfl) rfl rfl dX12_shownIn_6 rfl ?_
  refine rv_ishl (q := 8) E.x dX12_shownIn_7 rfl ?_
  refine rv_iconst (q := 9) E.x dX12_shownIn_8 rv_ki1 rfl ?_
  refine rv_isub (q := 10) E.x dX12_shownIn_9 rfl ?_
  refine rv_aload_n (q := 11) E.x dX12_shownIn_10 rfl rfl ?_
  refine rR_get (q := 14) E 29 wf12_29 rfl (Nat.le_of_ble_eq_true rfl) rfl dX12_shownIn_11 rfl ?_
  refine rv_iload_n (q := 15) E.x dX12_shownIn_14 rfl rfl ?_
  refine rR_iald (q := 16) (n := 60) E (Nat.le_of_ble_eq_true rfl) rfl rfl dX12_shownIn_15 rfl ?_
  refine rv_ishl (q := 17) E.x dX12_shownIn_16 rfl ?_
  refine rv_istore_n (q := 18) (lv' := [_, _, _, _, _, _, _, _]) E.x dX12_shownIn_17 (Nat.le_of_ble_eq_true rfl) rfl rfl rfl ?_
  refine rv_aload_n (q := 19) E.x dX12_shownIn_18 rfl rfl ?_
  refine rR_get (q := 22) E 27 wf12_27 rfl (Nat.le_of_ble_eq_true rfl) rfl dX12_shownIn_19 rfl ?_
  refine rv_iload_n (q := 23) E.x dX12_shownIn_22 rfl rfl ?_
  refine rR_iald (q := 24) (n := 60) E (Nat.le_of_ble_eq_true rfl) rfl rfl dX12_shownIn_23 rfl ?_
  refine rv_istore (q := 26) (lv' := [_, _, _, _, _, _, _, _]) E.x dX12_shownIn_24 (Nat.le_of_ble_eq_true rfl) rfl rfl rfl ?_
  refine rv_wk [true, true, true, true, true, false, false, false] ?_
  exact b12_shownIn_26 E rv_FU M a1 a2 (((1 <<< ((M 30 (a1).toNatClampNeg) &&& 31)) - 1) <<< ((M 29 (a1).toNatClampNeg) &&& 31)) (M 27 (a1).toNatClampNeg)
theorem c12_shownIn {l : Launch} {D : va_G} {cI cZ : ClassId} {ad : Nat → Nat} (hI : rR_I ad) {M : rv_Mem} {a1 : Int32} {a2 : Int32} {r : Int32} {M1 : rv_Mem} (h : f12_shownIn M a1 a2 = some (r, M1)) : Met l yX12_shownIn (rv_ws yX12_shownIn cX12_shownIn 8 (some .int)) rm12_shownIn (rR_Pc D cI cZ ad [.ref (ad 67), .int a1, .int a2] M) (rR_QI D cI cZ ad r M1) 0 0 (rR_A ad) := rR_met hI rfl (rv_cat rfl) (Nat.le_of_ble_eq_true rfl) (fun p e s m args below meth c E => ⟨(rR_qIW D cI cZ ad below args s), rfl, b12_shownIn E M a1 a2⟩) h
abbrev rm12_findingAt : Room := { frames := 0, cells := 0, slots := 0, locals := 0 }
set_option maxRecDepth 100000 in
theorem b12_findingAt_83 {p : Program} {l : Launch} {e : Env} {s : State} {m : MethodId} {args : Array Value} {below : List Frame} {meth : Method} {c : Code} {D : va_G} {cI cZ : ClassId} {ad : Nat → Nat} (E : rR_E D cI cZ ad cX12_findingAt 7 (some .int) p s m args meth c) (M : rv_Mem) (k8 : Int32 → Int32 → Int32 → Int32 → Int32 → Option (Int32)) (h8 : ∀ (x1 : Int32) (x2 : Int32) (x3 : Int32) (x4 : Int32) (x5 : Int32), rv_M (rR_G D cI cZ ad) (rR_A ad) p l e rm12_findingAt s m args below meth c 0 0 (rR_qI D cI cZ ad below args s M) (k8 x1 x2 x3 x4 x5) 8 [some (.ref (ad 67)), some (.int x1), some (.int x2), some (.int x3), some (.int x4), some (.int x5), none] [] M) : ∀ (x1 : Int32) (x2 : Int32) (x3 : Int32) (x5 : Int32) (s0 : Int32) (s1 : Bool), rv_M (rR_G D cI cZ ad) (rR_A ad) p l e rm12_findingAt s m args below meth c 0 0 (rR_qI D cI cZ ad below args s M) (f12_findingAt_83 M k8 x1 x2 x3 x5 s0 s1) 83 [some (.ref (ad 67)), some (.int x1), some (.int x2), some (.int x3), none, some (.int x5), none] [.int (rv_i s1), .int s0] M := by
  intro x1 x2 x3 x5 s0 s1
  unfold f12_findingAt_83
  refine rv_iadd (q := 84) E.x dX12_findingAt_83 rfl ?_
  refine rv_istore (q := 86) (lv' := [_, _, _, _, _, _, _]) E.x dX12_findingAt_84 (Nat.le_of_ble_eq_true rfl) rfl rfl rfl ?_
  refine rv_iinc (q := 89) (lv' := [_, _, _, _, _, _, _]) E.x dX12_findingAt_86 rv_ki1 rfl rfl rfl rfl ?_
  refine rv_goto (q := 8) E.x dX12_findingAt_89 (by decide) ?_
  refine rv_wk [true, true, true, true, true, true, false] ?_
  exact h8 x1 x2 x3 (s0 + (rv_i s1)) (x5 + 1)
set_option maxRecDepth 100000 in
theorem b12_findingAt_70 {p : Program} {l : Launch} {e : Env} {s : State} {m : MethodId} {args : Array Value} {below : List Frame} {meth : Method} {c : Code} {D : va_G} {cI cZ : ClassId} {ad : Nat → Nat} (E : rR_E D cI cZ ad cX12_findingAt 7 (some .int) p s m args meth c) (M : rv_Mem) (k8 : Int32 → Int32 → Int32 → Int32 → Int32 → Option (Int32)) (h8 : ∀ (x1 : Int32) (x2 : Int32) (x3 : Int32) (x4 : Int32) (x5 : Int32), rv_M (rR_G D cI cZ ad) (rR_A ad) p l e rm12_findingAt s m args below meth c 0 0 (rR_qI D cI cZ ad below args s M) (k8 x1 x2 x3 x4 x5) 8 [some (.ref (ad 67)), some (.int x1), some (.int x2), some (.int x3), some (.int x4), some (.int x5), none] [] M) : ∀ (x1 : Int32) (x2 : Int32) (x4 : Int32) (x5 : Int32) (x6 : Bool) (s0 : Int32), rv_M (rR_G D cI cZ ad) (rR_A ad) p l e rm12_findingAt s m args below meth c 0 0 (rR_qI D cI cZ ad below args s M) (f12_findingAt_70 M k8 x1 x2 x4 x5 x6 s0) 70 [some (.ref (ad 67)), some (.int x1), some (.int x2), none, some (.int x4), some (.int x5), some (.int (rv_i x6))] [.int s0] M := by
  intro x1 x2 x4 x5 x6 s0
  unfold f12_findingAt_70
  refine rv_istore_n (q := 71) (lv' := [_, _, _, _, _, _, _]) E.x dX12_findingAt_70 (Nat.le_of_ble_eq_true rfl) rfl rfl rfl ?_
  refine rv_iload (q := 73) E.x dX12_findingAt_71 rfl rfl ?_
  refine rv_iload (q := 75) E.x dX12_findingAt_73 rfl rfl ?_
  refine rv_ifz_eq (q := 78) (tgt := 82) E.x dX12_findingAt_75 (by decide) rfl ?_ ?_
  · refine rv_iconst (q := 79) E.x dX12_findingAt_78 rv_ki1 rfl ?_
    refine rv_goto (q := 83) E.x dX12_findingAt_79 (by decide) ?_
    refine rv_wk [true, true, true, true, false, true, false] ?_
    exact b12_findingAt_83 E M k8 h8 x1 x2 s0 x5 x4 true
  · refine rv_iconst (q := 83) E.x dX12_findingAt_82 rv_ki0 rfl ?_
    refine rv_wk [true, true, true, true, false, true, false] ?_
    exact b12_findingAt_83 E M k8 h8 x1 x2 s0 x5 x4 false
set_option maxRecDepth 100000 in
theorem b12_findingAt_69 {p : Program} {l : Launch} {e : Env} {s : State} {m : MethodId} {args : Array Value} {below : List Frame} {meth : Method} {c : Code} {D : va_G} {cI cZ : ClassId} {ad : Nat → Nat} (E : rR_E D cI cZ ad cX12_findingAt 7 (some .int) p s m args meth c) (M : rv_Mem) (k8 : Int32 → Int32 → Int32 → Int32 → Int32 → Option (Int32)) (h8 : ∀ (x1 : Int32) (x2 : Int32) (x3 : Int32) (x4 : Int32) (x5 : Int32), rv_M (rR_G D cI cZ ad) (rR_A ad) p l e rm12_findingAt s m args below meth c 0 0 (rR_qI D cI cZ ad below args s M) (k8 x1 x2 x3 x4 x5) 8 [some (.ref (ad 67)), some (.int x1), some (.int x2), some (.int x3), some (.int x4), some (.int x5), none] [] M) : ∀ (x1 : Int32) (x2 : Int32) (x3 : Int32) (x4 : Int32) (x5 : Int32) (x6 : Bool), rv_M (rR_G D cI cZ ad) (rR_A ad) p l e rm12_findingAt s m args below meth c 0 0 (rR_qI D cI cZ ad below args s M) (f12_findingAt_69 M k8 x1 x2 x3 x4 x5 x6) 69 [some (.ref (ad 67)), some (.int x1), some (.int x2), some (.int x3), some (.int x4), some (.int x5), some (.int (rv_i x6))] [] M := by
  intro x1 x2 x3 x4 x5 x6
  unfold f12_findingAt_69
  refine rv_iload_n (q := 70) E.x dX12_findingAt_69 rfl rfl ?_
  refine rv_wk [true, true, true, false, true, true, true] ?_
  exact b12_findingAt_70 E M k8 h8 x1 x2 x4 x5 x6 x3
set_option maxRecDepth 100000 in
theorem b12_findingAt_51 {p : Program} {l : Launch} {e : Env} {s : State} {m : MethodId} {args : Array Value} {below : List Frame} {meth : Method} {c : Code} {D : va_G} {cI cZ : ClassId} {ad : Nat → Nat} (E : rR_E D cI cZ ad cX12_findingAt 7 (some .int) p s m args meth c) (M : rv_Mem) (k8 : Int32 → Int32 → Int32 → Int32 → Int32 → Option (Int32)) (h8 : ∀ (x1 : Int32) (x2 : Int32) (x3 : Int32) (x4 : Int32) (x5 : Int32), rv_M (rR_G D cI cZ ad) (rR_A ad) p l e rm12_findingAt s m args below meth c 0 0 (rR_qI D cI cZ ad below args s M) (k8 x1 x2 x3 x4 x5) 8 [some (.ref (ad 67)), some (.int x1), some (.int x2), some (.int x3), some (.int x4), some (.int x5), none] [] M) : ∀ (x1 : Int32) (x2 : Int32) (x3 : Int32) (x4 : Int32) (x5 : Int32) (s0 : Bool), rv_M (rR_G D cI cZ ad) (rR_A ad) p l e rm12_findingAt s m args below meth c 0 0 (rR_qI D cI cZ ad below args s M) (f12_findingAt_51 M k8 x1 x2 x3 x4 x5 s0) 51 [some (.ref (ad 67)), some (.int x1), some (.int x2), some (.int x3), some (.int x4), some (.int x5), none] [.int (rv_i s0)] M := by
  intro x1 x2 x3 x4 x5 s0
  unfold f12_findingAt_51
  refine rv_istore (q := 53) (lv' := [_, _, _, _, _, _, _]) E.x dX12_findingAt_51 (Nat.le_of_ble_eq_true rfl) rfl rfl rfl ?_
  refine rv_iload (q := 55) E.x dX12_findingAt_53 rfl rfl ?_
  refine rv_ifz_eq (q := 58) (tgt := 69) E.x dX12_findingAt_55 (by decide) rfl ?_ ?_
  · refine rv_iload (q := 60) E.x dX12_findingAt_58 rfl rfl ?_
    refine rv_iload_n (q := 61) E.x dX12_findingAt_60 rfl rfl ?_
    refine rv_icmp_ne (q := 64) (tgt := 69) E.x dX12_findingAt_61 (by decide) rfl ?_ ?_
    · refine rv_iload (q := 66) E.x dX12_findingAt_64 rfl rfl ?_
      refine rv_goto (q := 70) E.x dX12_findingAt_66 (by decide) ?_
      refine rv_wk [true, true, true, false, true, true, true] ?_
      exact b12_findingAt_70 E M k8 h8 x1 x2 x4 x5 s0 x5
    · refine rv_wk [true, true, true, true, true, true, true] ?_
      exact b12_findingAt_69 E M k8 h8 x1 x2 x3 x4 x5 s0
  · refine rv_wk [true, true, true, true, true, true, true] ?_
    exact b12_findingAt_69 E M k8 h8 x1 x2 x3 x4 x5 s0
set_option maxRecDepth 100000 in
theorem b12_findingAt_50 {p : Program} {l : Launch} {e : Env} {s : State} {m : MethodId} {args : Array Value} {below : List Frame} {meth : Method} {c : Code} {D : va_G} {cI cZ : ClassId} {ad : Nat → Nat} (E : rR_E D cI cZ ad cX12_findingAt 7 (some .int) p s m args meth c) (M : rv_Mem) (k8 : Int32 → Int32 → Int32 → Int32 → Int32 → Option (Int32)) (h8 : ∀ (x1 : Int32) (x2 : Int32) (x3 : Int32) (x4 : Int32) (x5 : Int32), rv_M (rR_G D cI cZ ad) (rR_A ad) p l e rm12_findingAt s m args below meth c 0 0 (rR_qI D cI cZ ad below args s M) (k8 x1 x2 x3 x4 x5) 8 [some (.ref (ad 67)), some (.int x1), some (.int x2), some (.int x3), some (.int x4), some (.int x5), none] [] M) : ∀ (x1 : Int32) (x2 : Int32) (x3 : Int32) (x4 : Int32) (x5 : Int32), rv_M (rR_G D cI cZ ad) (rR_A ad) p l e rm12_findingAt s m args below meth c 0 0 (rR_qI D cI cZ ad below args s M) (f12_findingAt_50 M k8 x1 x2 x3 x4 x5) 50 [some (.ref (ad 67)), some (.int x1), some (.int x2), some (.int x3), some (.int x4), some (.int x5), none] [] M := by
  intro x1 x2 x3 x4 x5
  unfold f12_findingAt_50
  refine rv_iconst (q := 51) E.x dX12_findingAt_50 rv_ki0 rfl ?_
  refine rv_wk [true, true, true, true, true, true, false] ?_
  exact b12_findingAt_51 E M k8 h8 x1 x2 x3 x4 x5 false
set_option maxRecDepth 100000 in
theorem b12_findingAt_8_s {p : Program} {l : Launch} {e : Env} {s : State} {m : MethodId} {args : Array Value} {below : List Frame} {meth : Method} {c : Code} {D : va_G} {cI cZ : ClassId} {ad : Nat → Nat} (E : rR_E D cI cZ ad cX12_findingAt 7 (some .int) p s m args meth c) (M : rv_Mem)   (k8 : Int32 → Int32 → Int32 → Int32 → Int32 → Option (Int32)) (h8 : ∀ (x1 : Int32) (x2 : Int32) (x3 : Int32) (x4 : Int32) (x5 : Int32), rv_M (rR_G D cI cZ ad) (rR_A ad) p l e rm12_findingAt s m args below meth c 0 0 (rR_qI D cI cZ ad below args s M) (k8 x1 x2 x3 x4 x5) 8 [some (.ref (ad 67)), some (.int x1), some (.int x2), some (.int x3), some (.int x4), some (.int x5), none] [] M) : ∀ (x1 : Int32) (x2 : Int32) (x3 : Int32) (x4 : Int32) (x5 : Int32), rv_M (rR_G D cI cZ ad) (rR_A ad) p l e rm12_findingAt s m args below meth c 0 0 (rR_qI D cI cZ ad below args s M) (f12_findingAt_8_s M k8 x1 x2 x3 x4 x5) 8 [some (.ref (ad 67)), some (.int x1), some (.int x2), some (.int x3), some (.int x4), some (.int x5), none] [] M := by
  intro x1 x2 x3 x4 x5
  unfold f12_findingAt_8_s
  refine rv_iload (q := 10) E.x dX12_findingAt_8 rfl rfl ?_
  refine rv_aload_n (q := 11) E.x dX12_findingAt_10 rfl rfl ?_
  refine rR_get (q := 14) E 34 wf12_34 rfl (Nat.le_of_ble_eq_true rfl) rfl dX12_findingAt_11 rfl ?_
  refine rv_icmp_ge (q := 17) (tgt := 92) E.x dX12_findingAt_14 (by decide) rfl ?_ ?_
  · refine rv_aload_n (q := 18) E.x dX12_findingAt_17 rfl rfl ?_
    refine rR_get (q := 21) E 35 wf12_35 rfl (Nat.le_of_ble_eq_true rfl) rfl dX12_findingAt_18 rfl ?_
    refine rv_iload (q := 23) E.x dX12_findingAt_21 rfl rfl ?_
    refine rR_iald (q := 24) (n := 40) E (Nat.le_of_ble_eq_true rfl) rfl rfl dX12_findingAt_23 rfl ?_
    refine rv_iload_n (q := 25) E.x dX12_findingAt_24 rfl rfl ?_
    refine rv_icmp_ne (q := 28) (tgt := 50) E.x dX12_findingAt_25 (by decide) rfl ?_ ?_
    · refine rv_aload_n (q := 29) E.x dX12_findingAt_28 rfl rfl ?_
      refine rR_get (q := 32) E 36 wf12_36 rfl (Nat.le_of_ble_eq_true rfl) rfl dX12_findingAt_29 rfl ?_
      refine rv_iload (q := 34) E.x dX12_findingAt_32 rfl rfl ?_
      refine rR_iald (q := 35) (n := 40) E (Nat.le_of_ble_eq_true rfl) rfl rfl dX12_findingAt_34 rfl ?_
      refine rv_aload_n (q := 36) E.x dX12_findingAt_35 rfl rfl ?_
      refine rR_get (q := 39) E 14 wf12_14 rfl (Nat.le_of_ble_eq_true rfl) rfl dX12_findingAt_36 rfl ?_
      refine rv_iload_n (q := 40) E.x dX12_findingAt_39 rfl rfl ?_
      refine rR_iald (q := 41) (n := 20) E (Nat.le_of_ble_eq_true rfl) rfl rfl dX12_findingAt_40 rfl ?_
      refine rv_iconst (q := 42) E.x dX12_findingAt_41 rv_ki1 rfl ?_
      refine rv_isub (q := 43) E.x dX12_findingAt_42 rfl ?_
      refine rv_icmp_ne (q := 46) (tgt := 50) E.x dX12_findingAt_43 (by decide) rfl ?_ ?_
      · refine rv_iconst (q := 47) E.x dX12_findingAt_46 rv_ki1 rfl ?_
        refine rv_goto (q := 51) E.x dX12_findingAt_47 (by decide) ?_
        refine rv_wk [true, true, true, true, true, true, false] ?_
        exact b12_findingAt_51 E M k8 h8 x1 x2 x3 x4 x5 true
      · refine rv_wk [true, true, true, true, true, true, false] ?_
        exact b12_findingAt_50 E M k8 h8 x1 x2 x3 x4 x5
    · refine rv_wk [true, true, true, true, true, true, false] ?_
      exact b12_findingAt_50 E M k8 h8 x1 x2 x3 x4 x5
  · refine rv_iload_n (q := 93) E.x dX12_findingAt_92 rfl rfl ?_
    exact rR_iret E rfl dX12_findingAt_93
theorem b12_findingAt_8 {p : Program} {l : Launch} {e : Env} {s : State} {m : MethodId} {args : Array Value} {below : List Frame} {meth : Method} {c : Code} {D : va_G} {cI cZ : ClassId} {ad : Nat → Nat} (E : rR_E D cI cZ ad cX12_findingAt 7 (some .int) p s m args meth c) (M : rv_Mem)   : ∀ (n : Nat), ∀ (x1 : Int32) (x2 : Int32) (x3 : Int32) (x4 : Int32) (x5 : Int32), rv_M (rR_G D cI cZ ad) (rR_A ad) p l e rm12_findingAt s m args below meth c 0 0 (rR_qI D cI cZ ad below args s M) (f12_findingAt_8 M n x1 x2 x3 x4 x5) 8 [some (.ref (ad 67)), some (.int x1), some (.int x2), some (.int x3), some (.int x4), some (.int x5), none] [] M := by
  intro n
  induction n with
  | zero => exact fun _ _ _ _ _ => rv_stuck
  | succ n ih => exact b12_findingAt_8_s E M (f12_findingAt_8 M n) ih
set_option maxRecDepth 100000 in
theorem b12_findingAt {p : Program} {l : Launch} {e : Env} {s : State} {m : MethodId} {args : Array Value} {below : List Frame} {meth : Method} {c : Code} {D : va_G} {cI cZ : ClassId} {ad : Nat → Nat} (E : rR_E D cI cZ ad cX12_findingAt 7 (some .int) p s m args meth c) (M : rv_Mem) (a1 : Int32) (a2 : Int32) : rv_M (rR_G D cI cZ ad) (rR_A ad) p l e rm12_findingAt s m args below meth c 0 0  (rR_qI D cI cZ ad below args s M) (f12_findingAt M a1 a2) 0 [some (.ref (ad 67)), some (.int a1), some (.int a2), none, none, none, none] [] M := by
  unfold f12_findingAt
  refine rv_iconst (q := 1) E.x dX12_findingAt_0 rv_kim1 rfl ?_
  refine rv_istore_n (q := 2) (lv' := [_, _, _, _, _, _, _]) E.x dX12_findingAt_1 (Nat.le_of_ble_eq_true rfl) rfl rfl rfl ?_
  refine rv_iconst (q := 3) E.x dX12_findingAt_2 rv_ki0 rfl ?_
  refine rv_istore (q := 5) (lv' := [_, _, _, _, _, _, _]) E.x dX12_findingAt_3 (Nat.le_of_ble_eq_true rfl) rfl rfl rfl ?_
  refine rv_iconst (q := 6) E.x dX12_findingAt_5 rv_ki0 rfl ?_
  refine rv_istore (q := 8) (lv' := [_, _, _, _, _, _, _]) E.x dX12_findingAt_6 (Nat.le_of_ble_eq_true rfl) rfl rfl rfl ?_
  refine rv_wk [true, true, true, true, true, true, false] ?_
  exact b12_findingAt_8 E M rv_FU a1 a2 (-1) 0 0
theorem c12_findingAt {l : Launch} {D : va_G} {cI cZ : ClassId} {ad : Nat → Nat} (hI : rR_I ad) {M : rv_Mem} {a1 : Int32} {a2 : Int32} {r : Int32} (h : f12_findingAt M a1 a2 = some r) : Met l yX12_findingAt (rv_ws yX12_findingAt cX12_findingAt 7 (some .int)) rm12_findingAt (rR_Pc D cI cZ ad [.ref (ad 67), .int a1, .int a2] M) (rR_QI D cI cZ ad r M) 0 0 (rR_A ad) := rR_met hI rfl (rv_cat rfl) (Nat.le_of_ble_eq_true rfl) (fun p e s m args below meth c E => ⟨(rR_qI D cI cZ ad below args s M), rfl, b12_findingAt E M a1 a2⟩) h
abbrev rm12_isTaken : Room := { frames := 0, cells := 0, slots := 0, locals := 0 }
set_option maxRecDepth 100000 in
theorem b12_isTaken {p : Program} {l : Launch} {e : Env} {s : State} {m : MethodId} {args : Array Value} {below : List Frame} {meth : Method} {c : Code} {D : va_G} {cI cZ : ClassId} {ad : Nat → Nat} (E : rR_E D cI cZ ad cX12_isTaken 3 (some .boolean) p s m args meth c) (M : rv_Mem) (a1 : Int32) (a2 : Int32) : rv_M (rR_G D cI cZ ad) (rR_A ad) p l e rm12_isTaken s m args below meth c 0 0  (rR_qZ D cI cZ ad below args s M) (f12_isTaken M a1 a2) 0 [some (.ref (ad 67)), some (.int a1), some (.int a2)] [] M := by
  unfold f12_isTaken
  refine rv_iload_n (q := 1) E.x dX12_isTaken_0 rfl rfl ?_
  refine rv_bipush (q := 3) E.x dX12_isTaken_1 rv_kb31 rfl ?_
  refine rv_icmp_ge (q := 6) (tgt := 19) E.x dX12_isTaken_3 (by decide) rfl ?_ ?_
  · refine rv_iload_n (q := 7) E.x dX12_isTaken_6 rfl rfl ?_
    refine rv_iload_n (q := 8) E.x dX12_isTaken_7 rfl rfl ?_
    refine rv_ishr (q := 9) E.x dX12_isTaken_8 rfl ?_
    refine rv_iconst (q := 10) E.x dX12_isTaken_9 rv_ki1 rfl ?_
    refine rv_iand (q := 11) E.x dX12_isTaken_10 rfl ?_
    refine rv_iconst (q := 12) E.x dX12_isTaken_11 rv_ki1 rfl ?_
    refine rv_icmp_ne (q := 15) (tgt := 19) E.x dX12_isTaken_12 (by decide) rfl ?_ ?_
    · refine rv_iconst (q := 16) E.x dX12_isTaken_15 rv_ki1 rfl ?_
      refine rv_goto (q := 20) E.x dX12_isTaken_16 (by decide) ?_
      exact rR_zret E true rfl dX12_isTaken_20
    · refine rv_iconst (q := 20) E.x dX12_isTaken_19 rv_ki0 rfl ?_
      exact rR_zret E false rfl dX12_isTaken_20
  · refine rv_iconst (q := 20) E.x dX12_isTaken_19 rv_ki0 rfl ?_
    exact rR_zret E false rfl dX12_isTaken_20
theorem c12_isTaken {l : Launch} {D : va_G} {cI cZ : ClassId} {ad : Nat → Nat} (hI : rR_I ad) {M : rv_Mem} {a1 : Int32} {a2 : Int32} {r : Bool} (h : f12_isTaken M a1 a2 = some r) : Met l yX12_isTaken (rv_ws yX12_isTaken cX12_isTaken 3 (some .boolean)) rm12_isTaken (rR_Pc D cI cZ ad [.ref (ad 67), .int a1, .int a2] M) (rR_QI D cI cZ ad (rv_i r) M) 0 0 (rR_A ad) := rR_met hI rfl (rv_cat rfl) (Nat.le_of_ble_eq_true rfl) (fun p e s m args below meth c E => ⟨(rR_qZ D cI cZ ad below args s M), rfl, b12_isTaken E M a1 a2⟩) h
