abbrev rm5_mergeBaseOf : Room := { frames := 3, cells := 0, slots := 0, locals := 64 }
set_option maxRecDepth 100000 in
theorem b5_mergeBaseOf_37 {p : Program} {l : Launch} {e : Env} {s : State} {m : MethodId} {args : Array Value} {below : List Frame} {meth : Method} {c : Code} {D : va_G} {cI cZ cO : ClassId} {ad : Nat → Nat} {gh : rC_gh} {de : Nat} (E : rC_E D cI cZ cO ad gh (rC_K ad gh) RX5 cX5_mergeBaseOf 5 (some .int) p s m args meth c) (M : rv_Mem)   : ∀ (x2 : Int32), rv_M (rC_G D cI cZ cO ad gh de) (rC_K ad gh) p l e rm5_mergeBaseOf s m args below meth c 0 0 (rC_qI D cI cZ cO ad gh de below args s M) (f5_mergeBaseOf_37 gh M x2) 37 [some (.ref (ad 6)), none, some (.int x2), none, none] [] M := by
  intro x2
  unfold f5_mergeBaseOf_37
  refine rv_aload_n (q := 38) E.x dX5_mergeBaseOf_37 rfl rfl ?_
  refine rC_getX5 (q := 41) E 6 0 wfX5_18 rfl (Nat.le_of_ble_eq_true rfl) ⟨rfl, rfl⟩ rfl dX5_mergeBaseOf_38 rfl ?_
  refine rv_aload_n (q := 42) E.x dX5_mergeBaseOf_41 rfl rfl ?_
  refine rC_getX5 (q := 45) E 6 0 wfX5_18 rfl (Nat.le_of_ble_eq_true rfl) ⟨rfl, rfl⟩ rfl dX5_mergeBaseOf_42 rfl ?_
  refine rv_iload_n (q := 46) E.x dX5_mergeBaseOf_45 rfl rfl ?_
  refine rv_b1 (fun r2 e1 => ?_)
  refine rC_calliX9 (q := 49) E ⟨rfl, rfl⟩ (c9_currentOf E.2.2.1 e1) gX5_106 hX9_currentOf ⟨rfl, rfl⟩ ⟨Nat.le_of_ble_eq_true rfl, Nat.le_of_ble_eq_true rfl⟩ ⟨Nat.le_of_ble_eq_true rfl, Nat.le_of_ble_eq_true rfl⟩ rfl rfl rfl (Nat.le_of_ble_eq_true rfl) dX5_mergeBaseOf_46 rfl ?_
  refine rv_b1 (fun r4 e3 => ?_)
  refine rC_calliX9 (q := 52) E ⟨rfl, rfl⟩ (c9_baseOf E.2.2.1 e3) gX5_115 hX9_baseOf ⟨rfl, rfl⟩ ⟨Nat.le_of_ble_eq_true rfl, Nat.le_of_ble_eq_true rfl⟩ ⟨Nat.le_of_ble_eq_true rfl, Nat.le_of_ble_eq_true rfl⟩ rfl rfl rfl (Nat.le_of_ble_eq_true rfl) dX5_mergeBaseOf_49 rfl ?_
  exact rC_iret E rfl dX5_mergeBaseOf_52
set_option maxRecDepth 100000 in
theorem b5_mergeBaseOf_11_s {p : Program} {l : Launch} {e : Env} {s : State} {m : MethodId} {args : Array Value} {below : List Frame} {meth : Method} {c : Code} {D : va_G} {cI cZ cO : ClassId} {ad : Nat → Nat} {gh : rC_gh} {de : Nat} (E : rC_E D cI cZ cO ad gh (rC_K ad gh) RX5 cX5_mergeBaseOf 5 (some .int) p s m args meth c) (M : rv_Mem)   (k11 : Int32 → Int32 → Int32 → Option (Int32)) (h11 : ∀ (x2 : Int32) (x3 : Int32) (x4 : Int32), rv_M (rC_G D cI cZ cO ad gh de) (rC_K ad gh) p l e rm5_mergeBaseOf s m args below meth c 0 0 (rC_qI D cI cZ cO ad gh de below args s M) (k11 x2 x3 x4) 11 [some (.ref (ad 6)), none, some (.int x2), some (.int x3), some (.int x4)] [] M) : ∀ (x2 : Int32) (x3 : Int32) (x4 : Int32), rv_M (rC_G D cI cZ cO ad gh de) (rC_K ad gh) p l e rm5_mergeBaseOf s m args below meth c 0 0 (rC_qI D cI cZ cO ad gh de below args s M) (f5_mergeBaseOf_11_s gh M k11 x2 x3 x4) 11 [some (.ref (ad 6)), none, some (.int x2), some (.int x3), some (.int x4)] [] M := by
  intro x2 x3 x4
  unfold f5_mergeBaseOf_11_s
  refine rv_iload (q := 13) E.x dX5_mergeBaseOf_11 rfl rfl ?_
  refine rv_bipush (q := 15) E.x dX5_mergeBaseOf_13 rv_kb20 rfl ?_
  refine rv_icmp_ge (q := 18) (tgt := 37) E.x dX5_mergeBaseOf_15 (by decide) rfl ?_ ?_
  · refine rv_iload_n (q := 19) E.x dX5_mergeBaseOf_18 rfl rfl ?_
    refine rv_iconst (q := 20) E.x dX5_mergeBaseOf_19 rv_kim1 rfl ?_
    refine rv_icmp_eq (q := 23) (tgt := 37) E.x dX5_mergeBaseOf_20 (by decide) rfl ?_ ?_
    · refine rv_iload_n (q := 24) E.x dX5_mergeBaseOf_23 rfl rfl ?_
      refine rv_istore_n (q := 25) (lv' := [_, _, _, _, _]) E.x dX5_mergeBaseOf_24 (Nat.le_of_ble_eq_true rfl) rfl rfl rfl ?_
      refine rv_aload_n (q := 26) E.x dX5_mergeBaseOf_25 rfl rfl ?_
      refine rv_iload_n (q := 27) E.x dX5_mergeBaseOf_26 rfl rfl ?_
      refine rv_b1 (fun r2 e1 => ?_)
      refine rC_calliX5 (q := 30) E ⟨rfl, rfl⟩ (c5_squashedParentOf E.2.2.1 e1) gX5_139 hX5_squashedParentOf ⟨rfl, rfl⟩ ⟨Nat.le_of_ble_eq_true rfl, Nat.le_of_ble_eq_true rfl⟩ ⟨Nat.le_of_ble_eq_true rfl, Nat.le_of_ble_eq_true rfl⟩ rfl rfl rfl (Nat.le_of_ble_eq_true rfl) dX5_mergeBaseOf_27 rfl ?_
      refine rv_istore_n (q := 31) (lv' := [_, _, _, _, _]) E.x dX5_mergeBaseOf_30 (Nat.le_of_ble_eq_true rfl) rfl rfl rfl ?_
      refine rv_iinc (q := 34) (lv' := [_, _, _, _, _]) E.x dX5_mergeBaseOf_31 rv_ki1 rfl rfl rfl rfl ?_
      refine rv_goto (q := 11) E.x dX5_mergeBaseOf_34 (by decide) ?_
      refine rv_wk [true, false, true, true, true] ?_
      exact h11 x3 r2 (x4 + 1)
    · refine rv_wk [true, false, true, false, false] ?_
      exact b5_mergeBaseOf_37 E M x2
  · refine rv_wk [true, false, true, false, false] ?_
    exact b5_mergeBaseOf_37 E M x2
theorem b5_mergeBaseOf_11 {p : Program} {l : Launch} {e : Env} {s : State} {m : MethodId} {args : Array Value} {below : List Frame} {meth : Method} {c : Code} {D : va_G} {cI cZ cO : ClassId} {ad : Nat → Nat} {gh : rC_gh} {de : Nat} (E : rC_E D cI cZ cO ad gh (rC_K ad gh) RX5 cX5_mergeBaseOf 5 (some .int) p s m args meth c) (M : rv_Mem)   : ∀ (n : Nat), ∀ (x2 : Int32) (x3 : Int32) (x4 : Int32), rv_M (rC_G D cI cZ cO ad gh de) (rC_K ad gh) p l e rm5_mergeBaseOf s m args below meth c 0 0 (rC_qI D cI cZ cO ad gh de below args s M) (f5_mergeBaseOf_11 gh M n x2 x3 x4) 11 [some (.ref (ad 6)), none, some (.int x2), some (.int x3), some (.int x4)] [] M := by
  intro n
  induction n with
  | zero => exact fun _ _ _ => rv_stuck
  | succ n ih => exact b5_mergeBaseOf_11_s E M (f5_mergeBaseOf_11 gh M n) ih
set_option maxRecDepth 100000 in
theorem b5_mergeBaseOf {p : Program} {l : Launch} {e : Env} {s : State} {m : MethodId} {args : Array Value} {below : List Frame} {meth : Method} {c : Code} {D : va_G} {cI cZ cO : ClassId} {ad : Nat → Nat} {gh : rC_gh} {de : Nat} (E : rC_E D cI cZ cO ad gh (rC_K ad gh) RX5 cX5_mergeBaseOf 5 (some .int) p s m args meth c) (M : rv_Mem) (a1 : Int32) : rv_M (rC_G D cI cZ cO ad gh de) (rC_K ad gh) p l e rm5_mergeBaseOf s m args below meth c 0 0 (rC_qI D cI cZ cO ad gh de below args s M) (f5_mergeBaseOf gh M a1) 0 [some (.ref (ad 6)), some (.int a1), none, none, none] [] M := by
  unfold f5_mergeBaseOf
  refine rv_iload_n (q := 1) E.x dX5_mergeBaseOf_0 rfl rfl ?_
  refine rv_istore_n (q := 2) (lv' := [_, _, _, _, _]) E.x dX5_mergeBaseOf_1 (Nat.le_of_ble_eq_true rfl) rfl rfl rfl ?_
  refine rv_aload_n (q := 3) E.x dX5_mergeBaseOf_2 rfl rfl ?_
  refine rv_iload_n (q := 4) E.x dX5_mergeBaseOf_3 rfl rfl ?_
  refine rv_b1 (fun r2 e1 => ?_)
  refine rC_calliX5 (q := 7) E ⟨rfl, rfl⟩ (c5_squashedParentOf E.2.2.1 e1) gX5_139 hX5_squashedParentOf ⟨rfl, rfl⟩ ⟨Nat.le_of_ble_eq_true rfl, Nat.le_of_ble_eq_true rfl⟩ ⟨Nat.le_of_ble_eq_true rfl, Nat.le_of_ble_eq_true rfl⟩ rfl rfl rfl (Nat.le_of_ble_eq_true rfl) dX5_mergeBaseOf_4 rfl ?_
  refine rv_istore_n (q := 8) (lv' := [_, _, _, _, _]) E.x dX5_mergeBaseOf_7 (Nat.le_of_ble_eq_true rfl) rfl rfl rfl ?_
  refine rv_iconst (q := 9) E.x dX5_mergeBaseOf_8 rv_ki0 rfl ?_
  refine rv_istore (q := 11) (lv' := [_, _, _, _, _]) E.x dX5_mergeBaseOf_9 (Nat.le_of_ble_eq_true rfl) rfl rfl rfl ?_
  refine rv_wk [true, false, true, true, true] ?_
  exact b5_mergeBaseOf_11 E M rv_FU a1 r2 0
theorem c5_mergeBaseOf {l : Launch} {D : va_G} {cI cZ cO : ClassId} {ad : Nat → Nat} {gh : rC_gh} {de : Nat} (hI : rC_I ad gh) {M : rv_Mem} {a1 : Int32} {r : Int32} (h : f5_mergeBaseOf gh M a1 = some r) : Met l yX5_mergeBaseOf (rv_ws yX5_mergeBaseOf cX5_mergeBaseOf 5 (some .int)) rm5_mergeBaseOf (rC_Pc D cI cZ cO ad gh de [.ref (ad 6), .int a1] M) (rC_QI D cI cZ cO ad gh de r M) 0 0 (rC_K ad gh) := rC_met hI rfl (by decide) (Nat.le_of_ble_eq_true rfl) (fun p e s m args below meth c E => ⟨(rC_qI D cI cZ cO ad gh de below args s M), rfl, b5_mergeBaseOf E M a1⟩) h
abbrev rm9_copyFiles : Room := { frames := 1, cells := 0, slots := 0, locals := 25 }
set_option maxRecDepth 100000 in
theorem b9_copyFiles_32_s {p : Program} {l : Launch} {e : Env} {s : State} {m : MethodId} {args : Array Value} {below : List Frame} {meth : Method} {c : Code} {D : va_G} {cI cZ cO : ClassId} {ad : Nat → Nat} {gh : rC_gh} {de : Nat} (E : rC_E D cI cZ cO ad gh (rC_K ad gh) RX9 cX9_copyFiles 6 none p s m args meth c) (k2 : rv_Mem → Int32 → Int32 → Int32 → Option (rv_Mem)) (h2 : ∀ (M : rv_Mem) (x1 : Int32) (x2 : Int32) (x3 : Int32), rv_M (rC_G D cI cZ cO ad gh de) (rC_K ad gh) p l e rm9_copyFiles s m args below meth c 0 0 (rC_qV D cI cZ cO ad gh de below args s) (k2 M x1 x2 x3) 2 [some (.ref (ad 1)), some (.int x1), some (.int x2), some (.int x3), none, none] [] M) (k32 : rv_Mem → Int32 → Int32 → Int32 → Int32 → Int32 → Option (rv_Mem)) (h32 : ∀ (M : rv_Mem) (x1 : Int32) (x2 : Int32) (x3 : Int32) (x4 : Int32) (x5 : Int32), rv_M (rC_G D cI cZ cO ad gh de) (rC_K ad gh) p l e rm9_copyFiles s m args below meth c 0 0 (rC_qV D cI cZ cO ad gh de below args s) (k32 M x1 x2 x3 x4 x5) 32 [some (.ref (ad 1)), some (.int x1), some (.int x2), some (.int x3), some (.int x4), some (.int x5)] [] M) : ∀ (M : rv_Mem) (x1 : Int32) (x2 : Int32) (x3 : Int32) (x4 : Int32) (x5 : Int32), rv_M (rC_G D cI cZ cO ad gh de) (rC_K ad gh) p l e rm9_copyFiles s m args below meth c 0 0 (rC_qV D cI cZ cO ad gh de below args s) (f9_copyFiles_32_s gh k2 k32 M x1 x2 x3 x4 x5) 32 [some (.ref (ad 1)), some (.int x1), some (.int x2), some (.int x3), some (.int x4), some (.int x5)] [] M := by
  intro M x1 x2 x3 x4 x5
  unfold f9_copyFiles_32_s
  refine rv_iload (q := 34) E.x dX9_copyFiles_32 rfl rfl ?_
  refine rv_iload (q := 36) E.x dX9_copyFiles_34 rfl rfl ?_
  refine rv_icmp_ge (q := 39) (tgt := 68) E.x dX9_copyFiles_36 (by decide) rfl ?_ ?_
  · refine rv_aload_n (q := 40) E.x dX9_copyFiles_39 rfl rfl ?_
    refine rC_getX9 (q := 43) E 1 0 wfX9_11 rfl (Nat.le_of_ble_eq_true rfl) ⟨rfl, rfl⟩ rfl dX9_copyFiles_40 rfl ?_
    refine rv_iload_n (q := 44) E.x dX9_copyFiles_43 rfl rfl ?_
    refine rv_iload_n (q := 45) E.x dX9_copyFiles_44 rfl rfl ?_
    refine rv_b1 (fun r2 e1 => ?_)
    refine rC_calls (q := 48) E (c9_startOf e1) gX9_74 hX9_startOf ⟨rfl, rfl⟩ ⟨Nat.le_of_ble_eq_true rfl, Nat.le_of_ble_eq_true rfl⟩ ⟨Nat.le_of_ble_eq_true rfl, Nat.le_of_ble_eq_true rfl⟩ rfl rfl rfl (Nat.le_of_ble_eq_true rfl) dX9_copyFiles_45 rfl ?_
    refine rv_iload (q := 50) E.x dX9_copyFiles_48 rfl rfl ?_
    refine rv_iadd (q := 51) E.x dX9_copyFiles_50 rfl ?_
    refine rv_aload_n (q := 52) E.x dX9_copyFiles_51 rfl rfl ?_
    refine rv_iload_n (q := 53) E.x dX9_copyFiles_52 rfl rfl ?_
    refine rv_iload_n (q := 54) E.x dX9_copyFiles_53 rfl rfl ?_
    refine rv_iload (q := 56) E.x dX9_copyFiles_54 rfl rfl ?_
    refine rv_b1 (fun r4 e3 => ?_)
    refine rC_calliX9 (q := 59) E ⟨rfl, rfl⟩ (c9_lineAt E.2.2.1 e3) gX9_77 hX9_lineAt ⟨rfl, rfl⟩ ⟨Nat.le_of_ble_eq_true rfl, Nat.le_of_ble_eq_true rfl⟩ ⟨Nat.le_of_ble_eq_true rfl, Nat.le_of_ble_eq_true rfl⟩ rfl rfl rfl (Nat.le_of_ble_eq_true rfl) dX9_copyFiles_56 rfl ?_
    refine rv_b1 (fun M6 e5 => ?_)
    refine rC_callsv (q := 62) E (c9_write E.2.2.1 e5) gX9_70 hX9_write ⟨rfl, rfl⟩ ⟨Nat.le_of_ble_eq_true rfl, Nat.le_of_ble_eq_true rfl⟩ ⟨Nat.le_of_ble_eq_true rfl, Nat.le_of_ble_eq_true rfl⟩ rfl rfl rfl (Nat.le_of_ble_eq_true rfl) dX9_copyFiles_59 rfl ?_
    refine rv_iinc (q := 65) (lv' := [_, _, _, _, _, _]) E.x dX9_copyFiles_62 rv_ki1 rfl rfl rfl rfl ?_
    refine rv_goto (q := 32) E.x dX9_copyFiles_65 (by decide) ?_
    refine rv_wk [true, true, true, true, true, true] ?_
    exact h32 M6 x1 x2 x3 x4 (x5 + 1)
  · refine rv_iinc (q := 71) (lv' := [_, _, _, _, _, _]) E.x dX9_copyFiles_68 rv_ki1 rfl rfl rfl rfl ?_
    refine rv_goto (q := 2) E.x dX9_copyFiles_71 (by decide) ?_
    refine rv_wk [true, true, true, true, false, false] ?_
    exact h2 M x1 x2 (x3 + 1)
theorem b9_copyFiles_32 {p : Program} {l : Launch} {e : Env} {s : State} {m : MethodId} {args : Array Value} {below : List Frame} {meth : Method} {c : Code} {D : va_G} {cI cZ cO : ClassId} {ad : Nat → Nat} {gh : rC_gh} {de : Nat} (E : rC_E D cI cZ cO ad gh (rC_K ad gh) RX9 cX9_copyFiles 6 none p s m args meth c) (k2 : rv_Mem → Int32 → Int32 → Int32 → Option (rv_Mem)) (h2 : ∀ (M : rv_Mem) (x1 : Int32) (x2 : Int32) (x3 : Int32), rv_M (rC_G D cI cZ cO ad gh de) (rC_K ad gh) p l e rm9_copyFiles s m args below meth c 0 0 (rC_qV D cI cZ cO ad gh de below args s) (k2 M x1 x2 x3) 2 [some (.ref (ad 1)), some (.int x1), some (.int x2), some (.int x3), none, none] [] M) : ∀ (n : Nat), ∀ (M : rv_Mem) (x1 : Int32) (x2 : Int32) (x3 : Int32) (x4 : Int32) (x5 : Int32), rv_M (rC_G D cI cZ cO ad gh de) (rC_K ad gh) p l e rm9_copyFiles s m args below meth c 0 0 (rC_qV D cI cZ cO ad gh de below args s) (f9_copyFiles_32 gh k2 n M x1 x2 x3 x4 x5) 32 [some (.ref (ad 1)), some (.int x1), some (.int x2), some (.int x3), some (.int x4), some (.int x5)] [] M := by
  intro n
  induction n with
  | zero => exact fun _ _ _ _ _ _ => rv_stuck
  | succ n ih => exact b9_copyFiles_32_s E k2 h2 (f9_copyFiles_32 gh k2 n) ih
set_option maxRecDepth 100000 in
theorem b9_copyFiles_2_s {p : Program} {l : Launch} {e : Env} {s : State} {m : MethodId} {args : Array Value} {below : List Frame} {meth : Method} {c : Code} {D : va_G} {cI cZ cO : ClassId} {ad : Nat → Nat} {gh : rC_gh} {de : Nat} (E : rC_E D cI cZ cO ad gh (rC_K ad gh) RX9 cX9_copyFiles 6 none p s m args meth c)   (k2 : rv_Mem → Int32 → Int32 → Int32 → Option (rv_Mem)) (h2 : ∀ (M : rv_Mem) (x1 : Int32) (x2 : Int32) (x3 : Int32), rv_M (rC_G D cI cZ cO ad gh de) (rC_K ad gh) p l e rm9_copyFiles s m args below meth c 0 0 (rC_qV D cI cZ cO ad gh de below args s) (k2 M x1 x2 x3) 2 [some (.ref (ad 1)), some (.int x1), some (.int x2), some (.int x3), none, none] [] M) : ∀ (M : rv_Mem) (x1 : Int32) (x2 : Int32) (x3 : Int32), rv_M (rC_G D cI cZ cO ad gh de) (rC_K ad gh) p l e rm9_copyFiles s m args below meth c 0 0 (rC_qV D cI cZ cO ad gh de below args s) (f9_copyFiles_2_s gh k2 M x1 x2 x3) 2 [some (.ref (ad 1)), some (.int x1), some (.int x2), some (.int x3), none, none] [] M := by
  intro M x1 x2 x3
  unfold f9_copyFiles_2_s
  refine rv_iload_n (q := 3) E.x dX9_copyFiles_2 rfl rfl ?_
  refine rv_iconst (q := 4) E.x dX9_copyFiles_3 rv_ki4 rfl ?_
  refine rv_icmp_ge (q := 7) (tgt := 74) E.x dX9_copyFiles_4 (by decide) rfl ?_ ?_
  · refine rv_aload_n (q := 8) E.x dX9_copyFiles_7 rfl rfl ?_
    refine rv_iload_n (q := 9) E.x dX9_copyFiles_8 rfl rfl ?_
    refine rv_iload_n (q := 10) E.x dX9_copyFiles_9 rfl rfl ?_
    refine rv_b1 (fun r2 e1 => ?_)
    refine rC_calliX9 (q := 13) E ⟨rfl, rfl⟩ (c9_sizeOf E.2.2.1 e1) gX9_66 hX9_sizeOf ⟨rfl, rfl⟩ ⟨Nat.le_of_ble_eq_true rfl, Nat.le_of_ble_eq_true rfl⟩ ⟨Nat.le_of_ble_eq_true rfl, Nat.le_of_ble_eq_true rfl⟩ rfl rfl rfl (Nat.le_of_ble_eq_true rfl) dX9_copyFiles_10 rfl ?_
    refine rv_istore (q := 15) (lv' := [_, _, _, _, _, _]) E.x dX9_copyFiles_13 (Nat.le_of_ble_eq_true rfl) rfl rfl rfl ?_
    refine rv_aload_n (q := 16) E.x dX9_copyFiles_15 rfl rfl ?_
    refine rC_getX9 (q := 19) E 1 1 wfX9_15 rfl (Nat.le_of_ble_eq_true rfl) ⟨rfl, rfl⟩ rfl dX9_copyFiles_16 rfl ?_
    refine rv_iload_n (q := 20) E.x dX9_copyFiles_19 rfl rfl ?_
    refine rv_iconst (q := 21) E.x dX9_copyFiles_20 rv_ki4 rfl ?_
    refine rv_imul (q := 22) E.x dX9_copyFiles_21 rfl ?_
    refine rv_iload_n (q := 23) E.x dX9_copyFiles_22 rfl rfl ?_
    refine rv_iadd (q := 24) E.x dX9_copyFiles_23 rfl ?_
    refine rv_iload (q := 26) E.x dX9_copyFiles_24 rfl rfl ?_
    refine rv_b1 (fun M4 e3 => ?_)
    refine rC_callsv (q := 29) E (c9_write E.2.2.1 e3) gX9_70 hX9_write ⟨rfl, rfl⟩ ⟨Nat.le_of_ble_eq_true rfl, Nat.le_of_ble_eq_true rfl⟩ ⟨Nat.le_of_ble_eq_true rfl, Nat.le_of_ble_eq_true rfl⟩ rfl rfl rfl (Nat.le_of_ble_eq_true rfl) dX9_copyFiles_26 rfl ?_
    refine rv_iconst (q := 30) E.x dX9_copyFiles_29 rv_ki0 rfl ?_
    refine rv_istore (q := 32) (lv' := [_, _, _, _, _, _]) E.x dX9_copyFiles_30 (Nat.le_of_ble_eq_true rfl) rfl rfl rfl ?_
    refine rv_wk [true, true, true, true, true, true] ?_
    exact b9_copyFiles_32 E k2 h2 rv_FU M4 x1 x2 x3 r2 0
  · exact rC_vret E rfl dX9_copyFiles_74
theorem b9_copyFiles_2 {p : Program} {l : Launch} {e : Env} {s : State} {m : MethodId} {args : Array Value} {below : List Frame} {meth : Method} {c : Code} {D : va_G} {cI cZ cO : ClassId} {ad : Nat → Nat} {gh : rC_gh} {de : Nat} (E : rC_E D cI cZ cO ad gh (rC_K ad gh) RX9 cX9_copyFiles 6 none p s m args meth c)   : ∀ (n : Nat), ∀ (M : rv_Mem) (x1 : Int32) (x2 : Int32) (x3 : Int32), rv_M (rC_G D cI cZ cO ad gh de) (rC_K ad gh) p l e rm9_copyFiles s m args below meth c 0 0 (rC_qV D cI cZ cO ad gh de below args s) (f9_copyFiles_2 gh n M x1 x2 x3) 2 [some (.ref (ad 1)), some (.int x1), some (.int x2), some (.int x3), none, none] [] M := by
  intro n
  induction n with
  | zero => exact fun _ _ _ _ => rv_stuck
  | succ n ih => exact b9_copyFiles_2_s E  (f9_copyFiles_2 gh n) ih
set_option maxRecDepth 100000 in
theorem b9_copyFiles {p : Program} {l : Launch} {e : Env} {s : State} {m : MethodId} {args : Array Value} {below : List Frame} {meth : Method} {c : Code} {D : va_G} {cI cZ cO : ClassId} {ad : Nat → Nat} {gh : rC_gh} {de : Nat} (E : rC_E D cI cZ cO ad gh (rC_K ad gh) RX9 cX9_copyFiles 6 none p s m args meth c) (M : rv_Mem) (a1 : Int32) (a2 : Int32) : rv_M (rC_G D cI cZ cO ad gh de) (rC_K ad gh) p l e rm9_copyFiles s m args below meth c 0 0 (rC_qV D cI cZ cO ad gh de below args s) (f9_copyFiles gh M a1 a2) 0 [some (.ref (ad 1)), some (.int a1), some (.int a2), none, none, none] [] M := by
  unfold f9_copyFiles
  refine rv_iconst (q := 1) E.x dX9_copyFiles_0 rv_ki0 rfl ?_
  refine rv_istore_n (q := 2) (lv' := [_, _, _, _, _, _]) E.x dX9_copyFiles_1 (Nat.le_of_ble_eq_true rfl) rfl rfl rfl ?_
  refine rv_wk [true, true, true, true, false, false] ?_
  exact b9_copyFiles_2 E rv_FU M a1 a2 0
theorem c9_copyFiles {l : Launch} {D : va_G} {cI cZ cO : ClassId} {ad : Nat → Nat} {gh : rC_gh} {de : Nat} (hI : rC_I ad gh) {M : rv_Mem} {a1 : Int32} {a2 : Int32} {M1 : rv_Mem} (h : f9_copyFiles gh M a1 a2 = some M1) : Met l yX9_copyFiles (rv_ws yX9_copyFiles cX9_copyFiles 6 none) rm9_copyFiles (rC_Pc D cI cZ cO ad gh de [.ref (ad 1), .int a1, .int a2] M) (rC_QV D cI cZ cO ad gh de M1) 0 0 (rC_K ad gh) := rC_met hI rfl (by decide) (Nat.le_of_ble_eq_true rfl) (fun p e s m args below meth c E => ⟨(rC_qV D cI cZ cO ad gh de below args s), rfl, b9_copyFiles E M a1 a2⟩) h
abbrev rm9_addCommit : Room := { frames := 2, cells := 0, slots := 0, locals := 50 }
set_option maxRecDepth 100000 in
theorem b9_addCommit {p : Program} {l : Launch} {e : Env} {s : State} {m : MethodId} {args : Array Value} {below : List Frame} {meth : Method} {c : Code} {D : va_G} {cI cZ cO : ClassId} {ad : Nat → Nat} {gh : rC_gh} {de : Nat} (E : rC_E D cI cZ cO ad gh (rC_K ad gh) RX9 cX9_addCommit 5 (some .int) p s m args meth c) (M : rv_Mem) (a1 : Int32) (a2 : Int32) (a3 : Int32) : rv_M (rC_G D cI cZ cO ad gh de) (rC_K ad gh) p l e rm9_addCommit s m args below meth c 0 0 (rC_qIW D cI cZ cO ad gh de below args s) (f9_addCommit gh M a1 a2 a3) 0 [some (.ref (ad 1)), some (.int a1), some (.int a2), some (.int a3), none] [] M := by
  unfold f9_addCommit
  refine rv_aload_n (q := 1) E.x dX9_addCommit_0 rfl rfl ?_
  refine rv_b1 (fun r2 e1 => ?_)
  refine rC_calliX9 (q := 4) E ⟨rfl, rfl⟩ (c9_isFull E.2.2.1 e1) gX9_84 hX9_isFull ⟨rfl, rfl⟩ ⟨Nat.le_of_ble_eq_true rfl, Nat.le_of_ble_eq_true rfl⟩ ⟨Nat.le_of_ble_eq_true rfl, Nat.le_of_ble_eq_true rfl⟩ rfl rfl rfl (Nat.le_of_ble_eq_true rfl) dX9_addCommit_1 rfl ?_
  refine rv_ifz_eq (q := 7) (tgt := 9) E.x dX9_addCommit_4 (by decide) rfl ?_ ?_
  · refine rv_iconst (q := 8) E.x dX9_addCommit_7 rv_kim1 rfl ?_
    exact rC_iret E rfl dX9_addCommit_8
  · refine rv_aload_n (q := 10) E.x dX9_addCommit_9 rfl rfl ?_
    refine rC_getX9 (q := 13) E 1 10 wfX9_48 rfl (Nat.le_of_ble_eq_true rfl) ⟨rfl, rfl⟩ rfl dX9_addCommit_10 rfl ?_
    refine rv_istore (q := 15) (lv' := [_, _, _, _, _]) E.x dX9_addCommit_13 (Nat.le_of_ble_eq_true rfl) rfl rfl rfl ?_
    refine rv_aload_n (q := 16) E.x dX9_addCommit_15 rfl rfl ?_
    refine rv_iload_n (q := 17) E.x dX9_addCommit_16 rfl rfl ?_
    refine rv_iload (q := 19) E.x dX9_addCommit_17 rfl rfl ?_
    refine rv_b1 (fun M4 e3 => ?_)
    refine rC_callvX9 (q := 22) E ⟨rfl, rfl⟩ (c9_copyFiles E.2.2.1 e3) gX9_88 hX9_copyFiles ⟨rfl, rfl⟩ ⟨Nat.le_of_ble_eq_true rfl, Nat.le_of_ble_eq_true rfl⟩ ⟨Nat.le_of_ble_eq_true rfl, Nat.le_of_ble_eq_true rfl⟩ rfl rfl rfl (Nat.le_of_ble_eq_true rfl) dX9_addCommit_19 rfl ?_
    refine rv_aload_n (q := 23) E.x dX9_addCommit_22 rfl rfl ?_
    refine rC_getX9 (q := 26) E 1 2 wfX9_18 rfl (Nat.le_of_ble_eq_true rfl) ⟨rfl, rfl⟩ rfl dX9_addCommit_23 rfl ?_
    refine rv_iload (q := 28) E.x dX9_addCommit_26 rfl rfl ?_
    refine rv_iload_n (q := 29) E.x dX9_addCommit_28 rfl rfl ?_
    refine rC_iast (q := 30) (n := 82) E ⟨rfl, rfl, rfl⟩ dX9_addCommit_29 rfl ?_
    refine rv_ltm (fun M5 => ?_)
    refine rv_aload_n (q := 31) E.x dX9_addCommit_30 rfl rfl ?_
    refine rC_getX9 (q := 34) E 1 3 wfX9_21 rfl (Nat.le_of_ble_eq_true rfl) ⟨rfl, rfl⟩ rfl dX9_addCommit_31 rfl ?_
    refine rv_iload (q := 36) E.x dX9_addCommit_34 rfl rfl ?_
    refine rv_iload_n (q := 37) E.x dX9_addCommit_36 rfl rfl ?_
    refine rC_iast (q := 38) (n := 82) E ⟨rfl, rfl, rfl⟩ dX9_addCommit_37 rfl ?_
    refine rv_ltm (fun M6 => ?_)
    refine rv_aload_n (q := 39) E.x dX9_addCommit_38 rfl rfl ?_
    refine rC_getX9 (q := 42) E 1 4 wfX9_24 rfl (Nat.le_of_ble_eq_true rfl) ⟨rfl, rfl⟩ rfl dX9_addCommit_39 rfl ?_
    refine rv_iload (q := 44) E.x dX9_addCommit_42 rfl rfl ?_
    refine rv_iconst (q := 45) E.x dX9_addCommit_44 rv_kim1 rfl ?_
    refine rC_iast (q := 46) (n := 82) E ⟨rfl, rfl, rfl⟩ dX9_addCommit_45 rfl ?_
    refine rv_ltm (fun M7 => ?_)
    refine rv_aload_n (q := 47) E.x dX9_addCommit_46 rfl rfl ?_
    refine rC_getX9 (q := 50) E 1 5 wfX9_27 rfl (Nat.le_of_ble_eq_true rfl) ⟨rfl, rfl⟩ rfl dX9_addCommit_47 rfl ?_
    refine rv_iload (q := 52) E.x dX9_addCommit_50 rfl rfl ?_
    refine rv_iconst (q := 53) E.x dX9_addCommit_52 rv_kim1 rfl ?_
    refine rC_iast (q := 54) (n := 82) E ⟨rfl, rfl, rfl⟩ dX9_addCommit_53 rfl ?_
    refine rv_ltm (fun M8 => ?_)
    refine rv_aload_n (q := 55) E.x dX9_addCommit_54 rfl rfl ?_
    refine rv_dup (q := 56) E.x dX9_addCommit_55 rfl rfl ?_
    refine rC_getX9 (q := 59) E 1 10 wfX9_48 rfl (Nat.le_of_ble_eq_true rfl) ⟨rfl, rfl⟩ rfl dX9_addCommit_56 rfl ?_
    refine rv_iconst (q := 60) E.x dX9_addCommit_59 rv_ki1 rfl ?_
    refine rv_iadd (q := 61) E.x dX9_addCommit_60 rfl ?_
    refine rC_putX9 (q := 64) E 1 10 wfX9_48 rfl (Nat.le_of_ble_eq_true rfl) ⟨rfl, rfl⟩ rfl ⟨rfl, rfl⟩ dX9_addCommit_61 rfl ?_
    refine rv_ltm (fun M9 => ?_)
    refine rv_iload (q := 66) E.x dX9_addCommit_64 rfl rfl ?_
    exact rC_iret E rfl dX9_addCommit_66
theorem c9_addCommit {l : Launch} {D : va_G} {cI cZ cO : ClassId} {ad : Nat → Nat} {gh : rC_gh} {de : Nat} (hI : rC_I ad gh) {M : rv_Mem} {a1 : Int32} {a2 : Int32} {a3 : Int32} {r : Int32} {M1 : rv_Mem} (h : f9_addCommit gh M a1 a2 a3 = some (r, M1)) : Met l yX9_addCommit (rv_ws yX9_addCommit cX9_addCommit 5 (some .int)) rm9_addCommit (rC_Pc D cI cZ cO ad gh de [.ref (ad 1), .int a1, .int a2, .int a3] M) (rC_QI D cI cZ cO ad gh de r M1) 0 0 (rC_K ad gh) := rC_met hI rfl (by decide) (Nat.le_of_ble_eq_true rfl) (fun p e s m args below meth c E => ⟨(rC_qIW D cI cZ cO ad gh de below args s), rfl, b9_addCommit E M a1 a2 a3⟩) h
abbrev rm5_standFor : Room := { frames := 3, cells := 0, slots := 0, locals := 64 }
set_option maxRecDepth 100000 in
theorem b5_standFor_38 {p : Program} {l : Launch} {e : Env} {s : State} {m : MethodId} {args : Array Value} {below : List Frame} {meth : Method} {c : Code} {D : va_G} {cI cZ cO : ClassId} {ad : Nat → Nat} {gh : rC_gh} {de : Nat} (E : rC_E D cI cZ cO ad gh (rC_K ad gh) RX5 cX5_standFor 5 none p s m args meth c) (k5 : rv_Mem → Int32 → Int32 → Int32 → Option (rv_Mem)) (h5 : ∀ (M : rv_Mem) (x2 : Int32) (x3 : Int32) (x4 : Int32), rv_M (rC_G D cI cZ cO ad gh de) (rC_K ad gh) p l e rm5_standFor s m args below meth c 0 0 (rC_qV D cI cZ cO ad gh de below args s) (k5 M x2 x3 x4) 5 [some (.ref (ad 6)), none, some (.int x2), some (.int x3), some (.int x4)] [] M) : ∀ (M : rv_Mem) (x2 : Int32) (x3 : Int32) (x4 : Int32), rv_M (rC_G D cI cZ cO ad gh de) (rC_K ad gh) p l e rm5_standFor s m args below meth c 0 0 (rC_qV D cI cZ cO ad gh de below args s) (f5_standFor_38 gh k5 M x2 x3 x4) 38 [some (.ref (ad 6)), none, some (.int x2), some (.int x3), some (.int x4)] [] M := by
  intro M x2 x3 x4
  unfold f5_standFor_38
  refine rv_aload_n (q := 39) E.x dX5_standFor_38 rfl rfl ?_
  refine rv_iload_n (q := 40) E.x dX5_standFor_39 rfl rfl ?_
  refine rv_b1 (fun r2 e1 => ?_)
  refine rC_calliX5 (q := 43) E ⟨rfl, rfl⟩ (c5_squashedParentOf E.2.2.1 e1) gX5_139 hX5_squashedParentOf ⟨rfl, rfl⟩ ⟨Nat.le_of_ble_eq_true rfl, Nat.le_of_ble_eq_true rfl⟩ ⟨Nat.le_of_ble_eq_true rfl, Nat.le_of_ble_eq_true rfl⟩ rfl rfl rfl (Nat.le_of_ble_eq_true rfl) dX5_standFor_40 rfl ?_
  refine rv_istore_n (q := 44) (lv' := [_, _, _, _, _]) E.x dX5_standFor_43 (Nat.le_of_ble_eq_true rfl) rfl rfl rfl ?_
  refine rv_iinc (q := 47) (lv' := [_, _, _, _, _]) E.x dX5_standFor_44 rv_ki1 rfl rfl rfl rfl ?_
  refine rv_goto (q := 5) E.x dX5_standFor_47 (by decide) ?_
  refine rv_wk [true, false, true, true, true] ?_
  exact h5 M x2 r2 (x4 + 1)
set_option maxRecDepth 100000 in
theorem b5_standFor_5_s {p : Program} {l : Launch} {e : Env} {s : State} {m : MethodId} {args : Array Value} {below : List Frame} {meth : Method} {c : Code} {D : va_G} {cI cZ cO : ClassId} {ad : Nat → Nat} {gh : rC_gh} {de : Nat} (E : rC_E D cI cZ cO ad gh (rC_K ad gh) RX5 cX5_standFor 5 none p s m args meth c)   (k5 : rv_Mem → Int32 → Int32 → Int32 → Option (rv_Mem)) (h5 : ∀ (M : rv_Mem) (x2 : Int32) (x3 : Int32) (x4 : Int32), rv_M (rC_G D cI cZ cO ad gh de) (rC_K ad gh) p l e rm5_standFor s m args below meth c 0 0 (rC_qV D cI cZ cO ad gh de below args s) (k5 M x2 x3 x4) 5 [some (.ref (ad 6)), none, some (.int x2), some (.int x3), some (.int x4)] [] M) : ∀ (M : rv_Mem) (x2 : Int32) (x3 : Int32) (x4 : Int32), rv_M (rC_G D cI cZ cO ad gh de) (rC_K ad gh) p l e rm5_standFor s m args below meth c 0 0 (rC_qV D cI cZ cO ad gh de below args s) (f5_standFor_5_s gh k5 M x2 x3 x4) 5 [some (.ref (ad 6)), none, some (.int x2), some (.int x3), some (.int x4)] [] M := by
  intro M x2 x3 x4
  unfold f5_standFor_5_s
  refine rv_iload (q := 7) E.x dX5_standFor_5 rfl rfl ?_
  refine rv_bipush (q := 9) E.x dX5_standFor_7 rv_kb20 rfl ?_
  refine rv_icmp_ge (q := 12) (tgt := 50) E.x dX5_standFor_9 (by decide) rfl ?_ ?_
  · refine rv_iload_n (q := 13) E.x dX5_standFor_12 rfl rfl ?_
    refine rv_iconst (q := 14) E.x dX5_standFor_13 rv_kim1 rfl ?_
    refine rv_icmp_eq (q := 17) (tgt := 50) E.x dX5_standFor_14 (by decide) rfl ?_ ?_
    · refine rv_aload_n (q := 18) E.x dX5_standFor_17 rfl rfl ?_
      refine rC_getX5 (q := 21) E 6 4 wfX5_15 rfl (Nat.le_of_ble_eq_true rfl) ⟨rfl, rfl⟩ rfl dX5_standFor_18 rfl ?_
      refine rv_iload_n (q := 22) E.x dX5_standFor_21 rfl rfl ?_
      refine rv_b1 (fun r2 e1 => ?_)
      refine rC_callsi (q := 25) E (c9_read E.2.2.1 e1) gX5_30 hX9_read ⟨rfl, rfl⟩ ⟨Nat.le_of_ble_eq_true rfl, Nat.le_of_ble_eq_true rfl⟩ ⟨Nat.le_of_ble_eq_true rfl, Nat.le_of_ble_eq_true rfl⟩ rfl rfl rfl (Nat.le_of_ble_eq_true rfl) dX5_standFor_22 rfl ?_
      refine rv_iconst (q := 26) E.x dX5_standFor_25 rv_kim1 rfl ?_
      refine rv_icmp_ne (q := 29) (tgt := 38) E.x dX5_standFor_26 (by decide) rfl ?_ ?_
      · refine rv_aload_n (q := 30) E.x dX5_standFor_29 rfl rfl ?_
        refine rC_getX5 (q := 33) E 6 4 wfX5_15 rfl (Nat.le_of_ble_eq_true rfl) ⟨rfl, rfl⟩ rfl dX5_standFor_30 rfl ?_
        refine rv_iload_n (q := 34) E.x dX5_standFor_33 rfl rfl ?_
        refine rv_iload_n (q := 35) E.x dX5_standFor_34 rfl rfl ?_
        refine rv_b1 (fun M4 e3 => ?_)
        refine rC_callsv (q := 38) E (c9_write E.2.2.1 e3) gX5_36 hX9_write ⟨rfl, rfl⟩ ⟨Nat.le_of_ble_eq_true rfl, Nat.le_of_ble_eq_true rfl⟩ ⟨Nat.le_of_ble_eq_true rfl, Nat.le_of_ble_eq_true rfl⟩ rfl rfl rfl (Nat.le_of_ble_eq_true rfl) dX5_standFor_35 rfl ?_
        refine rv_wk [true, false, true, true, true] ?_
        exact b5_standFor_38 E k5 h5 M4 x2 x3 x4
      · refine rv_wk [true, false, true, true, true] ?_
        exact b5_standFor_38 E k5 h5 M x2 x3 x4
    · exact rC_vret E rfl dX5_standFor_50
  · exact rC_vret E rfl dX5_standFor_50
theorem b5_standFor_5 {p : Program} {l : Launch} {e : Env} {s : State} {m : MethodId} {args : Array Value} {below : List Frame} {meth : Method} {c : Code} {D : va_G} {cI cZ cO : ClassId} {ad : Nat → Nat} {gh : rC_gh} {de : Nat} (E : rC_E D cI cZ cO ad gh (rC_K ad gh) RX5 cX5_standFor 5 none p s m args meth c)   : ∀ (n : Nat), ∀ (M : rv_Mem) (x2 : Int32) (x3 : Int32) (x4 : Int32), rv_M (rC_G D cI cZ cO ad gh de) (rC_K ad gh) p l e rm5_standFor s m args below meth c 0 0 (rC_qV D cI cZ cO ad gh de below args s) (f5_standFor_5 gh n M x2 x3 x4) 5 [some (.ref (ad 6)), none, some (.int x2), some (.int x3), some (.int x4)] [] M := by
  intro n
  induction n with
  | zero => exact fun _ _ _ _ => rv_stuck
  | succ n ih => exact b5_standFor_5_s E  (f5_standFor_5 gh n) ih
set_option maxRecDepth 100000 in
theorem b5_standFor {p : Program} {l : Launch} {e : Env} {s : State} {m : MethodId} {args : Array Value} {below : List Frame} {meth : Method} {c : Code} {D : va_G} {cI cZ cO : ClassId} {ad : Nat → Nat} {gh : rC_gh} {de : Nat} (E : rC_E D cI cZ cO ad gh (rC_K ad gh) RX5 cX5_standFor 5 none p s m args meth c) (M : rv_Mem) (a1 : Int32) (a2 : Int32) : rv_M (rC_G D cI cZ cO ad gh de) (rC_K ad gh) p l e rm5_standFor s m args below meth c 0 0 (rC_qV D cI cZ cO ad gh de below args s) (f5_standFor gh M a1 a2) 0 [some (.ref (ad 6)), some (.int a1), some (.int a2), none, none] [] M := by
  unfold f5_standFor
  refine rv_iload_n (q := 1) E.x dX5_standFor_0 rfl rfl ?_
  refine rv_istore_n (q := 2) (lv' := [_, _, _, _, _]) E.x dX5_standFor_1 (Nat.le_of_ble_eq_true rfl) rfl rfl rfl ?_
  refine rv_iconst (q := 3) E.x dX5_standFor_2 rv_ki0 rfl ?_
  refine rv_istore (q := 5) (lv' := [_, _, _, _, _]) E.x dX5_standFor_3 (Nat.le_of_ble_eq_true rfl) rfl rfl rfl ?_
  refine rv_wk [true, false, true, true, true] ?_
  exact b5_standFor_5 E rv_FU M a2 a1 0
theorem c5_standFor {l : Launch} {D : va_G} {cI cZ cO : ClassId} {ad : Nat → Nat} {gh : rC_gh} {de : Nat} (hI : rC_I ad gh) {M : rv_Mem} {a1 : Int32} {a2 : Int32} {M1 : rv_Mem} (h : f5_standFor gh M a1 a2 = some M1) : Met l yX5_standFor (rv_ws yX5_standFor cX5_standFor 5 none) rm5_standFor (rC_Pc D cI cZ cO ad gh de [.ref (ad 6), .int a1, .int a2] M) (rC_QV D cI cZ cO ad gh de M1) 0 0 (rC_K ad gh) := rC_met hI rfl (by decide) (Nat.le_of_ble_eq_true rfl) (fun p e s m args below meth c E => ⟨(rC_qV D cI cZ cO ad gh de below args s), rfl, b5_standFor E M a1 a2⟩) h
abbrev rm5_tryOne : Room := { frames := 4, cells := 0, slots := 0, locals := 106 }
set_option maxRecDepth 100000 in
theorem b5_tryOne {p : Program} {l : Launch} {e : Env} {s : State} {m : MethodId} {args : Array Value} {below : List Frame} {meth : Method} {c : Code} {D : va_G} {cI cZ cO : ClassId} {ad : Nat → Nat} {gh : rC_gh} {de : Nat} (E : rC_E D cI cZ cO ad gh (rC_K ad gh) RX5 cX5_tryOne 6 (some .boolean) p s m args meth c) (M : rv_Mem) (a1 : Int32) : rv_M (rC_G D cI cZ cO ad gh de) (rC_K ad gh) p l e rm5_tryOne s m args below meth c 0 0 (rC_qZW D cI cZ cO ad gh de below args s) (f5_tryOne gh M a1) 0 [some (.ref (ad 6)), some (.int a1), none, none, none, none] [] M := by
  unfold f5_tryOne
  refine rv_aload_n (q := 1) E.x dX5_tryOne_0 rfl rfl ?_
  refine rC_getX5 (q := 4) E 6 0 wfX5_18 rfl (Nat.le_of_ble_eq_true rfl) ⟨rfl, rfl⟩ rfl dX5_tryOne_1 rfl ?_
  refine rv_iload_n (q := 5) E.x dX5_tryOne_4 rfl rfl ?_
  refine rv_b1 (fun r2 e1 => ?_)
  refine rC_calliX9 (q := 8) E ⟨rfl, rfl⟩ (c9_currentOf E.2.2.1 e1) gX5_106 hX9_currentOf ⟨rfl, rfl⟩ ⟨Nat.le_of_ble_eq_true rfl, Nat.le_of_ble_eq_true rfl⟩ ⟨Nat.le_of_ble_eq_true rfl, Nat.le_of_ble_eq_true rfl⟩ rfl rfl rfl (Nat.le_of_ble_eq_true rfl) dX5_tryOne_5 rfl ?_
  refine rv_istore_n (q := 9) (lv' := [_, _, _, _, _, _]) E.x dX5_tryOne_8 (Nat.le_of_ble_eq_true rfl) rfl rfl rfl ?_
  refine rv_aload_n (q := 10) E.x dX5_tryOne_9 rfl rfl ?_
  refine rC_getX5 (q := 13) E 6 0 wfX5_18 rfl (Nat.le_of_ble_eq_true rfl) ⟨rfl, rfl⟩ rfl dX5_tryOne_10 rfl ?_
  refine rv_iload_n (q := 14) E.x dX5_tryOne_13 rfl rfl ?_
  refine rv_b1 (fun r4 e3 => ?_)
  refine rC_calliX9 (q := 17) E ⟨rfl, rfl⟩ (c9_repositoryOf E.2.2.1 e3) gX5_109 hX9_repositoryOf ⟨rfl, rfl⟩ ⟨Nat.le_of_ble_eq_true rfl, Nat.le_of_ble_eq_true rfl⟩ ⟨Nat.le_of_ble_eq_true rfl, Nat.le_of_ble_eq_true rfl⟩ rfl rfl rfl (Nat.le_of_ble_eq_true rfl) dX5_tryOne_14 rfl ?_
  refine rv_istore_n (q := 18) (lv' := [_, _, _, _, _, _]) E.x dX5_tryOne_17 (Nat.le_of_ble_eq_true rfl) rfl rfl rfl ?_
  refine rv_aload_n (q := 19) E.x dX5_tryOne_18 rfl rfl ?_
  refine rC_getX5 (q := 22) E 6 0 wfX5_18 rfl (Nat.le_of_ble_eq_true rfl) ⟨rfl, rfl⟩ rfl dX5_tryOne_19 rfl ?_
  refine rv_iload_n (q := 23) E.x dX5_tryOne_22 rfl rfl ?_
  refine rv_b1 (fun r6 e5 => ?_)
  refine rC_calliX9 (q := 26) E ⟨rfl, rfl⟩ (c9_tipOf E.2.2.1 e5) gX5_112 hX9_tipOf ⟨rfl, rfl⟩ ⟨Nat.le_of_ble_eq_true rfl, Nat.le_of_ble_eq_true rfl⟩ ⟨Nat.le_of_ble_eq_true rfl, Nat.le_of_ble_eq_true rfl⟩ rfl rfl rfl (Nat.le_of_ble_eq_true rfl) dX5_tryOne_23 rfl ?_
  refine rv_istore (q := 28) (lv' := [_, _, _, _, _, _]) E.x dX5_tryOne_26 (Nat.le_of_ble_eq_true rfl) rfl rfl rfl ?_
  refine rv_aload_n (q := 29) E.x dX5_tryOne_28 rfl rfl ?_
  refine rC_getX5 (q := 32) E 6 3 wfX5_9 rfl (Nat.le_of_ble_eq_true rfl) ⟨rfl, rfl⟩ rfl dX5_tryOne_29 rfl ?_
  refine rv_iload_n (q := 33) E.x dX5_tryOne_32 rfl rfl ?_
  refine rv_b1 (fun r8 e7 => ?_)
  refine rC_callsi (q := 36) E (c9_read E.2.2.1 e7) gX5_30 hX9_read ⟨rfl, rfl⟩ ⟨Nat.le_of_ble_eq_true rfl, Nat.le_of_ble_eq_true rfl⟩ ⟨Nat.le_of_ble_eq_true rfl, Nat.le_of_ble_eq_true rfl⟩ rfl rfl rfl (Nat.le_of_ble_eq_true rfl) dX5_tryOne_33 rfl ?_
  refine rv_if_ne (q := 39) (tgt := 79) E.x dX5_tryOne_36 (by decide) rfl ?_ ?_
  · refine rv_aload_n (q := 40) E.x dX5_tryOne_39 rfl rfl ?_
    refine rC_getX5 (q := 43) E 6 4 wfX5_15 rfl (Nat.le_of_ble_eq_true rfl) ⟨rfl, rfl⟩ rfl dX5_tryOne_40 rfl ?_
    refine rv_iload_n (q := 44) E.x dX5_tryOne_43 rfl rfl ?_
    refine rv_iload_n (q := 45) E.x dX5_tryOne_44 rfl rfl ?_
    refine rv_b1 (fun M10 e9 => ?_)
    refine rC_callsv (q := 48) E (c9_write E.2.2.1 e9) gX5_36 hX9_write ⟨rfl, rfl⟩ ⟨Nat.le_of_ble_eq_true rfl, Nat.le_of_ble_eq_true rfl⟩ ⟨Nat.le_of_ble_eq_true rfl, Nat.le_of_ble_eq_true rfl⟩ rfl rfl rfl (Nat.le_of_ble_eq_true rfl) dX5_tryOne_45 rfl ?_
    refine rv_aload_n (q := 49) E.x dX5_tryOne_48 rfl rfl ?_
    refine rC_getX5 (q := 52) E 6 0 wfX5_18 rfl (Nat.le_of_ble_eq_true rfl) ⟨rfl, rfl⟩ rfl dX5_tryOne_49 rfl ?_
    refine rC_getX9 (q := 55) E 1 8 wfX5_77 rfl (Nat.le_of_ble_eq_true rfl) ⟨rfl, rfl⟩ rfl dX5_tryOne_52 rfl ?_
    refine rv_iload_n (q := 56) E.x dX5_tryOne_55 rfl rfl ?_
    refine rv_iload_n (q := 57) E.x dX5_tryOne_56 rfl rfl ?_
    refine rv_b1 (fun M12 e11 => ?_)
    refine rC_callsv (q := 60) E (c9_write E.2.2.1 e11) gX5_36 hX9_write ⟨rfl, rfl⟩ ⟨Nat.le_of_ble_eq_true rfl, Nat.le_of_ble_eq_true rfl⟩ ⟨Nat.le_of_ble_eq_true rfl, Nat.le_of_ble_eq_true rfl⟩ rfl rfl rfl (Nat.le_of_ble_eq_true rfl) dX5_tryOne_57 rfl ?_
    refine rv_aload_n (q := 61) E.x dX5_tryOne_60 rfl rfl ?_
    refine rC_getX5 (q := 64) E 6 0 wfX5_18 rfl (Nat.le_of_ble_eq_true rfl) ⟨rfl, rfl⟩ rfl dX5_tryOne_61 rfl ?_
    refine rv_iload_n (q := 65) E.x dX5_tryOne_64 rfl rfl ?_
    refine rv_b1 (fun r14 e13 => ?_)
    refine rC_calliX9 (q := 68) E ⟨rfl, rfl⟩ (c9_baseOf E.2.2.1 e13) gX5_115 hX9_baseOf ⟨rfl, rfl⟩ ⟨Nat.le_of_ble_eq_true rfl, Nat.le_of_ble_eq_true rfl⟩ ⟨Nat.le_of_ble_eq_true rfl, Nat.le_of_ble_eq_true rfl⟩ rfl rfl rfl (Nat.le_of_ble_eq_true rfl) dX5_tryOne_65 rfl ?_
    refine rv_iload (q := 70) E.x dX5_tryOne_68 rfl rfl ?_
    refine rv_icmp_ne (q := 73) (tgt := 77) E.x dX5_tryOne_70 (by decide) rfl ?_ ?_
    · refine rv_iconst (q := 74) E.x dX5_tryOne_73 rv_ki1 rfl ?_
      refine rv_goto (q := 78) E.x dX5_tryOne_74 (by decide) ?_
      exact rC_zret E true rfl dX5_tryOne_78
    · refine rv_iconst (q := 78) E.x dX5_tryOne_77 rv_ki0 rfl ?_
      exact rC_zret E false rfl dX5_tryOne_78
  · refine rv_aload_n (q := 80) E.x dX5_tryOne_79 rfl rfl ?_
    refine rC_getX5 (q := 83) E 6 5 wfX5_89 rfl (Nat.le_of_ble_eq_true rfl) ⟨rfl, rfl⟩ rfl dX5_tryOne_80 rfl ?_
    refine rv_iload_n (q := 84) E.x dX5_tryOne_83 rfl rfl ?_
    refine rv_b1 (fun r16 e15 => ?_)
    refine rC_calln (q := 87) E (c11_isIn e15) gX5_46 E.2.2.2.2.2.2.2.1 wsgX5_46 wi_ReviewForge hX11_isIn ⟨rfl, rfl⟩ ⟨Nat.le_of_ble_eq_true rfl, Nat.le_of_ble_eq_true rfl⟩ ⟨Nat.le_of_ble_eq_true rfl, Nat.le_of_ble_eq_true rfl⟩ rfl rfl rfl (Nat.le_of_ble_eq_true rfl) dX5_tryOne_84 rfl ?_
    refine rv_ifz_eq (q := 90) (tgt := 92) E.x dX5_tryOne_87 (by decide) rfl ?_ ?_
    · refine rv_iconst (q := 91) E.x dX5_tryOne_90 rv_ki1 rfl ?_
      exact rC_zret E true rfl dX5_tryOne_91
    · refine rv_aload_n (q := 93) E.x dX5_tryOne_92 rfl rfl ?_
      refine rC_getX5 (q := 96) E 6 0 wfX5_18 rfl (Nat.le_of_ble_eq_true rfl) ⟨rfl, rfl⟩ rfl dX5_tryOne_93 rfl ?_
      refine rv_b1 (fun r18 e17 => ?_)
      refine rC_calliX9 (q := 99) E ⟨rfl, rfl⟩ (c9_isFull E.2.2.1 e17) gX5_118 hX9_isFull ⟨rfl, rfl⟩ ⟨Nat.le_of_ble_eq_true rfl, Nat.le_of_ble_eq_true rfl⟩ ⟨Nat.le_of_ble_eq_true rfl, Nat.le_of_ble_eq_true rfl⟩ rfl rfl rfl (Nat.le_of_ble_eq_true rfl) dX5_tryOne_96 rfl ?_
      refine rv_ifz_ne (q := 102) (tgt := 120) E.x dX5_tryOne_99 (by decide) rfl ?_ ?_
      · refine rv_aload_n (q := 103) E.x dX5_tryOne_102 rfl rfl ?_
        refine rC_getX5 (q := 106) E 6 1 wfX5_22 rfl (Nat.le_of_ble_eq_true rfl) ⟨rfl, rfl⟩ rfl dX5_tryOne_103 rfl ?_
        refine rv_aload_n (q := 107) E.x dX5_tryOne_106 rfl rfl ?_
        refine rv_iload_n (q := 108) E.x dX5_tryOne_107 rfl rfl ?_
        refine rv_b1 (fun r20 e19 => ?_)
        refine rC_calliX5 (q := 111) E ⟨rfl, rfl⟩ (c5_mergeBaseOf E.2.2.1 e19) gX5_122 hX5_mergeBaseOf ⟨rfl, rfl⟩ ⟨Nat.le_of_ble_eq_true rfl, Nat.le_of_ble_eq_true rfl⟩ ⟨Nat.le_of_ble_eq_true rfl, Nat.le_of_ble_eq_true rfl⟩ rfl rfl rfl (Nat.le_of_ble_eq_true rfl) dX5_tryOne_108 rfl ?_
        refine rv_iload_n (q := 112) E.x dX5_tryOne_111 rfl rfl ?_
        refine rv_iload (q := 114) E.x dX5_tryOne_112 rfl rfl ?_
        refine rv_b2 (fun r22 M23 e21 => ?_)
        refine rC_calliX2 (q := 117) E ⟨rfl, rfl⟩ (c2_mergeRows E.2.2.1 e21) gX5_125 hX2_mergeRows ⟨rfl, rfl⟩ ⟨Nat.le_of_ble_eq_true rfl, Nat.le_of_ble_eq_true rfl⟩ ⟨Nat.le_of_ble_eq_true rfl, Nat.le_of_ble_eq_true rfl⟩ rfl rfl rfl (Nat.le_of_ble_eq_true rfl) dX5_tryOne_114 rfl ?_
        refine rv_ifz_ne (q := 120) (tgt := 122) E.x dX5_tryOne_117 (by decide) rfl ?_ ?_
        · refine rv_iconst (q := 121) E.x dX5_tryOne_120 rv_ki0 rfl ?_
          exact rC_zret E false rfl dX5_tryOne_121
        · refine rv_aload_n (q := 123) E.x dX5_tryOne_122 rfl rfl ?_
          refine rC_getX5 (q := 126) E 6 0 wfX5_18 rfl (Nat.le_of_ble_eq_true rfl) ⟨rfl, rfl⟩ rfl dX5_tryOne_123 rfl ?_
          refine rv_bipush (q := 128) E.x dX5_tryOne_126 rv_kb81 rfl ?_
          refine rv_iload_n (q := 129) E.x dX5_tryOne_128 rfl rfl ?_
          refine rv_iload (q := 131) E.x dX5_tryOne_129 rfl rfl ?_
          refine rv_b2 (fun r25 M26 e24 => ?_)
          refine rC_calliX9 (q := 134) E ⟨rfl, rfl⟩ (c9_addCommit E.2.2.1 e24) gX5_131 hX9_addCommit ⟨rfl, rfl⟩ ⟨Nat.le_of_ble_eq_true rfl, Nat.le_of_ble_eq_true rfl⟩ ⟨Nat.le_of_ble_eq_true rfl, Nat.le_of_ble_eq_true rfl⟩ rfl rfl rfl (Nat.le_of_ble_eq_true rfl) dX5_tryOne_131 rfl ?_
          refine rv_istore (q := 136) (lv' := [_, _, _, _, _, _]) E.x dX5_tryOne_134 (Nat.le_of_ble_eq_true rfl) rfl rfl rfl ?_
          refine rv_aload_n (q := 137) E.x dX5_tryOne_136 rfl rfl ?_
          refine rC_getX5 (q := 140) E 6 0 wfX5_18 rfl (Nat.le_of_ble_eq_true rfl) ⟨rfl, rfl⟩ rfl dX5_tryOne_137 rfl ?_
          refine rC_getX9 (q := 143) E 1 8 wfX5_77 rfl (Nat.le_of_ble_eq_true rfl) ⟨rfl, rfl⟩ rfl dX5_tryOne_140 rfl ?_
          refine rv_iload_n (q := 144) E.x dX5_tryOne_143 rfl rfl ?_
          refine rv_iload (q := 146) E.x dX5_tryOne_144 rfl rfl ?_
          refine rv_b1 (fun M28 e27 => ?_)
          refine rC_callsv (q := 149) E (c9_write E.2.2.1 e27) gX5_36 hX9_write ⟨rfl, rfl⟩ ⟨Nat.le_of_ble_eq_true rfl, Nat.le_of_ble_eq_true rfl⟩ ⟨Nat.le_of_ble_eq_true rfl, Nat.le_of_ble_eq_true rfl⟩ rfl rfl rfl (Nat.le_of_ble_eq_true rfl) dX5_tryOne_146 rfl ?_
          refine rv_aload_n (q := 150) E.x dX5_tryOne_149 rfl rfl ?_
          refine rv_iload_n (q := 151) E.x dX5_tryOne_150 rfl rfl ?_
          refine rv_iload (q := 153) E.x dX5_tryOne_151 rfl rfl ?_
          refine rv_b1 (fun M30 e29 => ?_)
          refine rC_callvX5 (q := 156) E ⟨rfl, rfl⟩ (c5_standFor E.2.2.1 e29) gX5_135 hX5_standFor ⟨rfl, rfl⟩ ⟨Nat.le_of_ble_eq_true rfl, Nat.le_of_ble_eq_true rfl⟩ ⟨Nat.le_of_ble_eq_true rfl, Nat.le_of_ble_eq_true rfl⟩ rfl rfl rfl (Nat.le_of_ble_eq_true rfl) dX5_tryOne_153 rfl ?_
          refine rv_iconst (q := 157) E.x dX5_tryOne_156 rv_ki1 rfl ?_
          exact rC_zret E true rfl dX5_tryOne_157
      · refine rv_iconst (q := 121) E.x dX5_tryOne_120 rv_ki0 rfl ?_
        exact rC_zret E false rfl dX5_tryOne_121
theorem c5_tryOne {l : Launch} {D : va_G} {cI cZ cO : ClassId} {ad : Nat → Nat} {gh : rC_gh} {de : Nat} (hI : rC_I ad gh) {M : rv_Mem} {a1 : Int32} {r : Bool} {M1 : rv_Mem} (h : f5_tryOne gh M a1 = some (r, M1)) : Met l yX5_tryOne (rv_ws yX5_tryOne cX5_tryOne 6 (some .boolean)) rm5_tryOne (rC_Pc D cI cZ cO ad gh de [.ref (ad 6), .int a1] M) (rC_QI D cI cZ cO ad gh de (rv_i r) M1) 0 0 (rC_K ad gh) := rC_met hI rfl (by decide) (Nat.le_of_ble_eq_true rfl) (fun p e s m args below meth c E => ⟨(rC_qZW D cI cZ cO ad gh de below args s), rfl, b5_tryOne E M a1⟩) h
abbrev rm5_nameCommits : Room := { frames := 4, cells := 0, slots := 0, locals := 101 }
set_option maxRecDepth 100000 in
theorem b5_nameCommits_68 {p : Program} {l : Launch} {e : Env} {s : State} {m : MethodId} {args : Array Value} {below : List Frame} {meth : Method} {c : Code} {D : va_G} {cI cZ cO : ClassId} {ad : Nat → Nat} {gh : rC_gh} {de : Nat} (E : rC_E D cI cZ cO ad gh (rC_K ad gh) RX5 cX5_nameCommits 4 none p s m args meth c) (k2 : rv_Mem → Int32 → Int32 → Option (rv_Mem)) (h2 : ∀ (M : rv_Mem) (x1 : Int32) (x2 : Int32), rv_M (rC_G D cI cZ cO ad gh de) (rC_K ad gh) p l e rm5_nameCommits s m args below meth c 0 0 (rC_qV D cI cZ cO ad gh de below args s) (k2 M x1 x2) 2 [some (.ref (ad 6)), some (.int x1), some (.int x2), none] [] M) : ∀ (M : rv_Mem) (x1 : Int32) (x2 : Int32), rv_M (rC_G D cI cZ cO ad gh de) (rC_K ad gh) p l e rm5_nameCommits s m args below meth c 0 0 (rC_qV D cI cZ cO ad gh de below args s) (f5_nameCommits_68 gh k2 M x1 x2) 68 [some (.ref (ad 6)), some (.int x1), some (.int x2), none] [] M := by
  intro M x1 x2
  unfold f5_nameCommits_68
  refine rv_iinc (q := 71) (lv' := [_, _, _, _]) E.x dX5_nameCommits_68 rv_ki1 rfl rfl rfl rfl ?_
  refine rv_goto (q := 2) E.x dX5_nameCommits_71 (by decide) ?_
  refine rv_wk [true, true, true, false] ?_
  exact h2 M x1 (x2 + 1)
set_option maxRecDepth 100000 in
theorem b5_nameCommits_2_s {p : Program} {l : Launch} {e : Env} {s : State} {m : MethodId} {args : Array Value} {below : List Frame} {meth : Method} {c : Code} {D : va_G} {cI cZ cO : ClassId} {ad : Nat → Nat} {gh : rC_gh} {de : Nat} (E : rC_E D cI cZ cO ad gh (rC_K ad gh) RX5 cX5_nameCommits 4 none p s m args meth c)   (k2 : rv_Mem → Int32 → Int32 → Option (rv_Mem)) (h2 : ∀ (M : rv_Mem) (x1 : Int32) (x2 : Int32), rv_M (rC_G D cI cZ cO ad gh de) (rC_K ad gh) p l e rm5_nameCommits s m args below meth c 0 0 (rC_qV D cI cZ cO ad gh de below args s) (k2 M x1 x2) 2 [some (.ref (ad 6)), some (.int x1), some (.int x2), none] [] M) : ∀ (M : rv_Mem) (x1 : Int32) (x2 : Int32), rv_M (rC_G D cI cZ cO ad gh de) (rC_K ad gh) p l e rm5_nameCommits s m args below meth c 0 0 (rC_qV D cI cZ cO ad gh de below args s) (f5_nameCommits_2_s gh k2 M x1 x2) 2 [some (.ref (ad 6)), some (.int x1), some (.int x2), none] [] M := by
  intro M x1 x2
  unfold f5_nameCommits_2_s
  refine rv_iload_n (q := 3) E.x dX5_nameCommits_2 rfl rfl ?_
  refine rv_aload_n (q := 4) E.x dX5_nameCommits_3 rfl rfl ?_
  refine rC_getX5 (q := 7) E 6 2 wfX5_26 rfl (Nat.le_of_ble_eq_true rfl) ⟨rfl, rfl⟩ rfl dX5_nameCommits_4 rfl ?_
  refine rC_lsz (q := 10) E 0 (by decide) (cJ_size E.2.2.1 0) gX5_40 ⟨Nat.le_of_ble_eq_true rfl, Nat.le_of_ble_eq_true rfl⟩ ⟨Nat.le_of_ble_eq_true rfl, Nat.le_of_ble_eq_true rfl⟩ rfl (Nat.le_of_ble_eq_true rfl) dX5_nameCommits_7 rfl ?_
  refine rv_icmp_ge (q := 13) (tgt := 74) E.x dX5_nameCommits_10 (by decide) rfl ?_ ?_
  · refine rv_iload_n (q := 14) E.x dX5_nameCommits_13 rfl rfl ?_
    refine rv_iload_n (q := 15) E.x dX5_nameCommits_14 rfl rfl ?_
    refine rv_b1 (fun r2 e1 => ?_)
    refine rC_calln (q := 18) E (c11_isIn e1) gX5_46 E.2.2.2.2.2.2.2.1 wsgX5_46 wi_ReviewForge hX11_isIn ⟨rfl, rfl⟩ ⟨Nat.le_of_ble_eq_true rfl, Nat.le_of_ble_eq_true rfl⟩ ⟨Nat.le_of_ble_eq_true rfl, Nat.le_of_ble_eq_true rfl⟩ rfl rfl rfl (Nat.le_of_ble_eq_true rfl) dX5_nameCommits_15 rfl ?_
    refine rv_ifz_eq (q := 21) (tgt := 68) E.x dX5_nameCommits_18 (by decide) rfl ?_ ?_
    · refine rv_aload_n (q := 22) E.x dX5_nameCommits_21 rfl rfl ?_
      refine rC_getX5 (q := 25) E 6 4 wfX5_15 rfl (Nat.le_of_ble_eq_true rfl) ⟨rfl, rfl⟩ rfl dX5_nameCommits_22 rfl ?_
      refine rv_iload_n (q := 26) E.x dX5_nameCommits_25 rfl rfl ?_
      refine rv_b1 (fun r4 e3 => ?_)
      refine rC_callsi (q := 29) E (c9_read E.2.2.1 e3) gX5_30 hX9_read ⟨rfl, rfl⟩ ⟨Nat.le_of_ble_eq_true rfl, Nat.le_of_ble_eq_true rfl⟩ ⟨Nat.le_of_ble_eq_true rfl, Nat.le_of_ble_eq_true rfl⟩ rfl rfl rfl (Nat.le_of_ble_eq_true rfl) dX5_nameCommits_26 rfl ?_
      refine rv_istore_n (q := 30) (lv' := [_, _, _, _]) E.x dX5_nameCommits_29 (Nat.le_of_ble_eq_true rfl) rfl rfl rfl ?_
      refine rv_aload_n (q := 31) E.x dX5_nameCommits_30 rfl rfl ?_
      refine rC_getX5 (q := 34) E 6 2 wfX5_26 rfl (Nat.le_of_ble_eq_true rfl) ⟨rfl, rfl⟩ rfl dX5_nameCommits_31 rfl ?_
      refine rv_iload_n (q := 35) E.x dX5_nameCommits_34 rfl rfl ?_
      refine rC_lgt (q := 38) E 0 (by decide) (cJ_get E.2.2.1 0) ⟨rfl, rfl⟩ gX5_50 ⟨Nat.le_of_ble_eq_true rfl, Nat.le_of_ble_eq_true rfl⟩ ⟨Nat.le_of_ble_eq_true rfl, Nat.le_of_ble_eq_true rfl⟩ rfl (Nat.le_of_ble_eq_true rfl) dX5_nameCommits_35 rfl ?_
      refine rv_g (fun g5 => ?_)
      refine rC_cstX0 (q := 41) E (rC_at_of g5) wxX5_54 dX5_nameCommits_38 rfl ?_
      refine rv_iload_n (q := 42) E.x dX5_nameCommits_41 rfl rfl ?_
      refine rC_putX0 (q := 45) E (100 + (x2).toNatClampNeg) 12 wfX5_142 rfl (Nat.le_of_ble_eq_true rfl) (rC_at_of g5) rfl ⟨rfl, rfl⟩ dX5_nameCommits_42 rfl ?_
      refine rv_ltm (fun M6 => ?_)
      refine rv_aload_n (q := 46) E.x dX5_nameCommits_45 rfl rfl ?_
      refine rC_getX5 (q := 49) E 6 5 wfX5_89 rfl (Nat.le_of_ble_eq_true rfl) ⟨rfl, rfl⟩ rfl dX5_nameCommits_46 rfl ?_
      refine rv_iload_n (q := 50) E.x dX5_nameCommits_49 rfl rfl ?_
      refine rv_b1 (fun r8 e7 => ?_)
      refine rC_calln (q := 53) E (c11_isIn e7) gX5_46 E.2.2.2.2.2.2.2.1 wsgX5_46 wi_ReviewForge hX11_isIn ⟨rfl, rfl⟩ ⟨Nat.le_of_ble_eq_true rfl, Nat.le_of_ble_eq_true rfl⟩ ⟨Nat.le_of_ble_eq_true rfl, Nat.le_of_ble_eq_true rfl⟩ rfl rfl rfl (Nat.le_of_ble_eq_true rfl) dX5_nameCommits_50 rfl ?_
      refine rv_ifz_ne (q := 56) (tgt := 68) E.x dX5_nameCommits_53 (by decide) rfl ?_ ?_
      · refine rv_aload_n (q := 57) E.x dX5_nameCommits_56 rfl rfl ?_
        refine rC_getX5 (q := 60) E 6 0 wfX5_18 rfl (Nat.le_of_ble_eq_true rfl) ⟨rfl, rfl⟩ rfl dX5_nameCommits_57 rfl ?_
        refine rC_getX9 (q := 63) E 1 4 wfX5_145 rfl (Nat.le_of_ble_eq_true rfl) ⟨rfl, rfl⟩ rfl dX5_nameCommits_60 rfl ?_
        refine rv_iload_n (q := 64) E.x dX5_nameCommits_63 rfl rfl ?_
        refine rv_iload_n (q := 65) E.x dX5_nameCommits_64 rfl rfl ?_
        refine rv_b1 (fun M10 e9 => ?_)
        refine rC_callsv (q := 68) E (c9_write E.2.2.1 e9) gX5_36 hX9_write ⟨rfl, rfl⟩ ⟨Nat.le_of_ble_eq_true rfl, Nat.le_of_ble_eq_true rfl⟩ ⟨Nat.le_of_ble_eq_true rfl, Nat.le_of_ble_eq_true rfl⟩ rfl rfl rfl (Nat.le_of_ble_eq_true rfl) dX5_nameCommits_65 rfl ?_
        refine rv_wk [true, true, true, false] ?_
        exact b5_nameCommits_68 E k2 h2 M10 x1 x2
      · refine rv_wk [true, true, true, false] ?_
        exact b5_nameCommits_68 E k2 h2 M6 x1 x2
    · refine rv_wk [true, true, true, false] ?_
      exact b5_nameCommits_68 E k2 h2 M x1 x2
  · exact rC_vret E rfl dX5_nameCommits_74
theorem b5_nameCommits_2 {p : Program} {l : Launch} {e : Env} {s : State} {m : MethodId} {args : Array Value} {below : List Frame} {meth : Method} {c : Code} {D : va_G} {cI cZ cO : ClassId} {ad : Nat → Nat} {gh : rC_gh} {de : Nat} (E : rC_E D cI cZ cO ad gh (rC_K ad gh) RX5 cX5_nameCommits 4 none p s m args meth c)   : ∀ (n : Nat), ∀ (M : rv_Mem) (x1 : Int32) (x2 : Int32), rv_M (rC_G D cI cZ cO ad gh de) (rC_K ad gh) p l e rm5_nameCommits s m args below meth c 0 0 (rC_qV D cI cZ cO ad gh de below args s) (f5_nameCommits_2 gh n M x1 x2) 2 [some (.ref (ad 6)), some (.int x1), some (.int x2), none] [] M := by
  intro n
  induction n with
  | zero => exact fun _ _ _ => rv_stuck
  | succ n ih => exact b5_nameCommits_2_s E  (f5_nameCommits_2 gh n) ih
set_option maxRecDepth 100000 in
theorem b5_nameCommits {p : Program} {l : Launch} {e : Env} {s : State} {m : MethodId} {args : Array Value} {below : List Frame} {meth : Method} {c : Code} {D : va_G} {cI cZ cO : ClassId} {ad : Nat → Nat} {gh : rC_gh} {de : Nat} (E : rC_E D cI cZ cO ad gh (rC_K ad gh) RX5 cX5_nameCommits 4 none p s m args meth c) (M : rv_Mem) (a1 : Int32) : rv_M (rC_G D cI cZ cO ad gh de) (rC_K ad gh) p l e rm5_nameCommits s m args below meth c 0 0 (rC_qV D cI cZ cO ad gh de below args s) (f5_nameCommits gh M a1) 0 [some (.ref (ad 6)), some (.int a1), none, none] [] M := by
  unfold f5_nameCommits
  refine rv_iconst (q := 1) E.x dX5_nameCommits_0 rv_ki0 rfl ?_
  refine rv_istore_n (q := 2) (lv' := [_, _, _, _]) E.x dX5_nameCommits_1 (Nat.le_of_ble_eq_true rfl) rfl rfl rfl ?_
  refine rv_wk [true, true, true, false] ?_
  exact b5_nameCommits_2 E rv_FU M a1 0
theorem c5_nameCommits {l : Launch} {D : va_G} {cI cZ cO : ClassId} {ad : Nat → Nat} {gh : rC_gh} {de : Nat} (hI : rC_I ad gh) {M : rv_Mem} {a1 : Int32} {M1 : rv_Mem} (h : f5_nameCommits gh M a1 = some M1) : Met l yX5_nameCommits (rv_ws yX5_nameCommits cX5_nameCommits 4 none) rm5_nameCommits (rC_Pc D cI cZ cO ad gh de [.ref (ad 6), .int a1] M) (rC_QV D cI cZ cO ad gh de M1) 0 0 (rC_K ad gh) := rC_met hI rfl (by decide) (Nat.le_of_ble_eq_true rfl) (fun p e s m args below meth c E => ⟨(rC_qV D cI cZ cO ad gh de below args s), rfl, b5_nameCommits E M a1⟩) h
abbrev rm5_tryAll : Room := { frames := 5, cells := 0, slots := 0, locals := 131 }
set_option maxRecDepth 100000 in
theorem b5_tryAll_87 {p : Program} {l : Launch} {e : Env} {s : State} {m : MethodId} {args : Array Value} {below : List Frame} {meth : Method} {c : Code} {D : va_G} {cI cZ cO : ClassId} {ad : Nat → Nat} {gh : rC_gh} {de : Nat} (E : rC_E D cI cZ cO ad gh (rC_K ad gh) RX5 cX5_tryAll 8 (some .boolean) p s m args meth c)   : ∀ (M : rv_Mem) (x2 : Int32) (x3 : Int32) (x4 : Int32), rv_M (rC_G D cI cZ cO ad gh de) (rC_K ad gh) p l e rm5_tryAll s m args below meth c 0 0 (rC_qZW D cI cZ cO ad gh de below args s) (f5_tryAll_87 gh M x2 x3 x4) 87 [some (.ref (ad 6)), none, some (.int x2), some (.int x3), some (.int x4), none, none, none] [] M := by
  intro M x2 x3 x4
  unfold f5_tryAll_87
  refine rv_aload_n (q := 88) E.x dX5_tryAll_87 rfl rfl ?_
  refine rC_getX5 (q := 91) E 6 0 wfX5_18 rfl (Nat.le_of_ble_eq_true rfl) ⟨rfl, rfl⟩ rfl dX5_tryAll_88 rfl ?_
  refine rv_iload_n (q := 92) E.x dX5_tryAll_91 rfl rfl ?_
  refine rC_putX9 (q := 95) E 1 10 wfX5_74 rfl (Nat.le_of_ble_eq_true rfl) ⟨rfl, rfl⟩ rfl ⟨rfl, rfl⟩ dX5_tryAll_92 rfl ?_
  refine rv_ltm (fun M1 => ?_)
  refine rv_aload_n (q := 96) E.x dX5_tryAll_95 rfl rfl ?_
  refine rC_getX5 (q := 99) E 6 0 wfX5_18 rfl (Nat.le_of_ble_eq_true rfl) ⟨rfl, rfl⟩ rfl dX5_tryAll_96 rfl ?_
  refine rC_getX9 (q := 102) E 1 8 wfX5_77 rfl (Nat.le_of_ble_eq_true rfl) ⟨rfl, rfl⟩ rfl dX5_tryAll_99 rfl ?_
  refine rv_iconst (q := 103) E.x dX5_tryAll_102 rv_ki0 rfl ?_
  refine rv_iload_n (q := 104) E.x dX5_tryAll_103 rfl rfl ?_
  refine rC_iast (q := 105) (n := 2) E ⟨rfl, rfl, rfl⟩ dX5_tryAll_104 rfl ?_
  refine rv_ltm (fun M2 => ?_)
  refine rv_aload_n (q := 106) E.x dX5_tryAll_105 rfl rfl ?_
  refine rC_getX5 (q := 109) E 6 0 wfX5_18 rfl (Nat.le_of_ble_eq_true rfl) ⟨rfl, rfl⟩ rfl dX5_tryAll_106 rfl ?_
  refine rC_getX9 (q := 112) E 1 8 wfX5_77 rfl (Nat.le_of_ble_eq_true rfl) ⟨rfl, rfl⟩ rfl dX5_tryAll_109 rfl ?_
  refine rv_iconst (q := 113) E.x dX5_tryAll_112 rv_ki1 rfl ?_
  refine rv_iload (q := 115) E.x dX5_tryAll_113 rfl rfl ?_
  refine rC_iast (q := 116) (n := 2) E ⟨rfl, rfl, rfl⟩ dX5_tryAll_115 rfl ?_
  refine rv_ltm (fun M3 => ?_)
  refine rv_iconst (q := 117) E.x dX5_tryAll_116 rv_ki0 rfl ?_
  exact rC_zret E false rfl dX5_tryAll_117
set_option maxRecDepth 100000 in
theorem b5_tryAll_135 {p : Program} {l : Launch} {e : Env} {s : State} {m : MethodId} {args : Array Value} {below : List Frame} {meth : Method} {c : Code} {D : va_G} {cI cZ cO : ClassId} {ad : Nat → Nat} {gh : rC_gh} {de : Nat} (E : rC_E D cI cZ cO ad gh (rC_K ad gh) RX5 cX5_tryAll 8 (some .boolean) p s m args meth c)   : ∀ (M : rv_Mem) (x1 : Int32), rv_M (rC_G D cI cZ cO ad gh de) (rC_K ad gh) p l e rm5_tryAll s m args below meth c 0 0 (rC_qZW D cI cZ cO ad gh de below args s) (f5_tryAll_135 gh M x1) 135 [some (.ref (ad 6)), some (.int x1), none, none, none, none, none, none] [] M := by
  intro M x1
  unfold f5_tryAll_135
  refine rv_aload_n (q := 136) E.x dX5_tryAll_135 rfl rfl ?_
  refine rv_iload_n (q := 137) E.x dX5_tryAll_136 rfl rfl ?_
  refine rv_b1 (fun M2 e1 => ?_)
  refine rC_callvX5 (q := 140) E ⟨rfl, rfl⟩ (c5_nameCommits E.2.2.1 e1) gX5_99 hX5_nameCommits ⟨rfl, rfl⟩ ⟨Nat.le_of_ble_eq_true rfl, Nat.le_of_ble_eq_true rfl⟩ ⟨Nat.le_of_ble_eq_true rfl, Nat.le_of_ble_eq_true rfl⟩ rfl rfl rfl (Nat.le_of_ble_eq_true rfl) dX5_tryAll_137 rfl ?_
  refine rv_iconst (q := 141) E.x dX5_tryAll_140 rv_ki1 rfl ?_
  exact rC_zret E true rfl dX5_tryAll_141
set_option maxRecDepth 100000 in
theorem b5_tryAll_52_s {p : Program} {l : Launch} {e : Env} {s : State} {m : MethodId} {args : Array Value} {below : List Frame} {meth : Method} {c : Code} {D : va_G} {cI cZ cO : ClassId} {ad : Nat → Nat} {gh : rC_gh} {de : Nat} (E : rC_E D cI cZ cO ad gh (rC_K ad gh) RX5 cX5_tryAll 8 (some .boolean) p s m args meth c)   (k52 : rv_Mem → Int32 → Int32 → Int32 → Int32 → Int32 → Int32 → Option (Bool × rv_Mem)) (h52 : ∀ (M : rv_Mem) (x1 : Int32) (x2 : Int32) (x3 : Int32) (x4 : Int32) (x5 : Int32) (x6 : Int32), rv_M (rC_G D cI cZ cO ad gh de) (rC_K ad gh) p l e rm5_tryAll s m args below meth c 0 0 (rC_qZW D cI cZ cO ad gh de below args s) (k52 M x1 x2 x3 x4 x5 x6) 52 [some (.ref (ad 6)), some (.int x1), some (.int x2), some (.int x3), some (.int x4), some (.int x5), some (.int x6), none] [] M) : ∀ (M : rv_Mem) (x1 : Int32) (x2 : Int32) (x3 : Int32) (x4 : Int32) (x5 : Int32) (x6 : Int32), rv_M (rC_G D cI cZ cO ad gh de) (rC_K ad gh) p l e rm5_tryAll s m args below meth c 0 0 (rC_qZW D cI cZ cO ad gh de below args s) (f5_tryAll_52_s gh k52 M x1 x2 x3 x4 x5 x6) 52 [some (.ref (ad 6)), some (.int x1), some (.int x2), some (.int x3), some (.int x4), some (.int x5), some (.int x6), none] [] M := by
  intro M x1 x2 x3 x4 x5 x6
  unfold f5_tryAll_52_s
  refine rv_iload (q := 54) E.x dX5_tryAll_52 rfl rfl ?_
  refine rv_bipush (q := 56) E.x dX5_tryAll_54 rv_kb20 rfl ?_
  refine rv_icmp_ge (q := 59) (tgt := 135) E.x dX5_tryAll_56 (by decide) rfl ?_ ?_
  · refine rv_iload (q := 61) E.x dX5_tryAll_59 rfl rfl ?_
    refine rv_if_eq (q := 64) (tgt := 135) E.x dX5_tryAll_61 (by decide) rfl ?_ ?_
    · refine rv_aload_n (q := 65) E.x dX5_tryAll_64 rfl rfl ?_
      refine rv_iload (q := 67) E.x dX5_tryAll_65 rfl rfl ?_
      refine rv_b1 (fun r2 e1 => ?_)
      refine rC_calliX5 (q := 70) E ⟨rfl, rfl⟩ (c5_nextOf E.2.2.1 e1) gX5_92 hX5_nextOf ⟨rfl, rfl⟩ ⟨Nat.le_of_ble_eq_true rfl, Nat.le_of_ble_eq_true rfl⟩ ⟨Nat.le_of_ble_eq_true rfl, Nat.le_of_ble_eq_true rfl⟩ rfl rfl rfl (Nat.le_of_ble_eq_true rfl) dX5_tryAll_67 rfl ?_
      refine rv_istore (q := 72) (lv' := [_, _, _, _, _, _, _, _]) E.x dX5_tryAll_70 (Nat.le_of_ble_eq_true rfl) rfl rfl rfl ?_
      refine rv_iload (q := 74) E.x dX5_tryAll_72 rfl rfl ?_
      refine rv_iconst (q := 75) E.x dX5_tryAll_74 rv_kim1 rfl ?_
      refine rv_icmp_eq (q := 78) (tgt := 87) E.x dX5_tryAll_75 (by decide) rfl ?_ ?_
      · refine rv_aload_n (q := 79) E.x dX5_tryAll_78 rfl rfl ?_
        refine rv_iload (q := 81) E.x dX5_tryAll_79 rfl rfl ?_
        refine rv_b2 (fun r4 M5 e3 => ?_)
        refine rC_calliX5 (q := 84) E ⟨rfl, rfl⟩ (c5_tryOne E.2.2.1 e3) gX5_95 hX5_tryOne ⟨rfl, rfl⟩ ⟨Nat.le_of_ble_eq_true rfl, Nat.le_of_ble_eq_true rfl⟩ ⟨Nat.le_of_ble_eq_true rfl, Nat.le_of_ble_eq_true rfl⟩ rfl rfl rfl (Nat.le_of_ble_eq_true rfl) dX5_tryAll_81 rfl ?_
        refine rv_ifz_ne (q := 87) (tgt := 118) E.x dX5_tryAll_84 (by decide) rfl ?_ ?_
        · refine rv_wk [true, false, true, true, true, false, false, false] ?_
          exact b5_tryAll_87 E M5 x2 x3 x4
        · refine rv_iload (q := 120) E.x dX5_tryAll_118 rfl rfl ?_
          refine rv_iconst (q := 121) E.x dX5_tryAll_120 rv_ki1 rfl ?_
          refine rv_iload (q := 123) E.x dX5_tryAll_121 rfl rfl ?_
          refine rv_ishl (q := 124) E.x dX5_tryAll_123 rfl ?_
          refine rv_iconst (q := 125) E.x dX5_tryAll_124 rv_kim1 rfl ?_
          refine rv_ixor (q := 126) E.x dX5_tryAll_125 rfl ?_
          refine rv_iand (q := 127) E.x dX5_tryAll_126 rfl ?_
          refine rv_istore (q := 129) (lv' := [_, _, _, _, _, _, _, _]) E.x dX5_tryAll_127 (Nat.le_of_ble_eq_true rfl) rfl rfl rfl ?_
          refine rv_iinc (q := 132) (lv' := [_, _, _, _, _, _, _, _]) E.x dX5_tryAll_129 rv_ki1 rfl rfl rfl rfl ?_
          refine rv_goto (q := 52) E.x dX5_tryAll_132 (by decide) ?_
          refine rv_wk [true, true, true, true, true, true, true, false] ?_
          exact h52 M5 x1 x2 x3 x4 (x5 &&& (((1 : Int32) <<< (r2 &&& 31)) ^^^ (-1))) (x6 + 1)
      · refine rv_wk [true, false, true, true, true, false, false, false] ?_
        exact b5_tryAll_87 E M x2 x3 x4
    · refine rv_wk [true, true, false, false, false, false, false, false] ?_
      exact b5_tryAll_135 E M x1
  · refine rv_wk [true, true, false, false, false, false, false, false] ?_
    exact b5_tryAll_135 E M x1
theorem b5_tryAll_52 {p : Program} {l : Launch} {e : Env} {s : State} {m : MethodId} {args : Array Value} {below : List Frame} {meth : Method} {c : Code} {D : va_G} {cI cZ cO : ClassId} {ad : Nat → Nat} {gh : rC_gh} {de : Nat} (E : rC_E D cI cZ cO ad gh (rC_K ad gh) RX5 cX5_tryAll 8 (some .boolean) p s m args meth c)   : ∀ (n : Nat), ∀ (M : rv_Mem) (x1 : Int32) (x2 : Int32) (x3 : Int32) (x4 : Int32) (x5 : Int32) (x6 : Int32), rv_M (rC_G D cI cZ cO ad gh de) (rC_K ad gh) p l e rm5_tryAll s m args below meth c 0 0 (rC_qZW D cI cZ cO ad gh de below args s) (f5_tryAll_52 gh n M x1 x2 x3 x4 x5 x6) 52 [some (.ref (ad 6)), some (.int x1), some (.int x2), some (.int x3), some (.int x4), some (.int x5), some (.int x6), none] [] M := by
  intro n
  induction n with
  | zero => exact fun _ _ _ _ _ _ _ => rv_stuck
  | succ n ih => exact b5_tryAll_52_s E  (f5_tryAll_52 gh n) ih
set_option maxRecDepth 100000 in
theorem b5_tryAll {p : Program} {l : Launch} {e : Env} {s : State} {m : MethodId} {args : Array Value} {below : List Frame} {meth : Method} {c : Code} {D : va_G} {cI cZ cO : ClassId} {ad : Nat → Nat} {gh : rC_gh} {de : Nat} (E : rC_E D cI cZ cO ad gh (rC_K ad gh) RX5 cX5_tryAll 8 (some .boolean) p s m args meth c) (M : rv_Mem) (a1 : Int32) : rv_M (rC_G D cI cZ cO ad gh de) (rC_K ad gh) p l e rm5_tryAll s m args below meth c 0 0 (rC_qZW D cI cZ cO ad gh de below args s) (f5_tryAll gh M a1) 0 [some (.ref (ad 6)), some (.int a1), none, none, none, none, none, none] [] M := by
  unfold f5_tryAll
  refine rv_aload_n (q := 1) E.x dX5_tryAll_0 rfl rfl ?_
  refine rC_getX5 (q := 4) E 6 0 wfX5_18 rfl (Nat.le_of_ble_eq_true rfl) ⟨rfl, rfl⟩ rfl dX5_tryAll_1 rfl ?_
  refine rC_getX9 (q := 7) E 1 10 wfX5_74 rfl (Nat.le_of_ble_eq_true rfl) ⟨rfl, rfl⟩ rfl dX5_tryAll_4 rfl ?_
  refine rv_istore_n (q := 8) (lv' := [_, _, _, _, _, _, _, _]) E.x dX5_tryAll_7 (Nat.le_of_ble_eq_true rfl) rfl rfl rfl ?_
  refine rv_aload_n (q := 9) E.x dX5_tryAll_8 rfl rfl ?_
  refine rC_getX5 (q := 12) E 6 0 wfX5_18 rfl (Nat.le_of_ble_eq_true rfl) ⟨rfl, rfl⟩ rfl dX5_tryAll_9 rfl ?_
  refine rC_getX9 (q := 15) E 1 8 wfX5_77 rfl (Nat.le_of_ble_eq_true rfl) ⟨rfl, rfl⟩ rfl dX5_tryAll_12 rfl ?_
  refine rv_iconst (q := 16) E.x dX5_tryAll_15 rv_ki0 rfl ?_
  refine rC_iald (q := 17) (n := 2) E ⟨rfl, rfl, rfl⟩ dX5_tryAll_16 rfl ?_
  refine rv_istore_n (q := 18) (lv' := [_, _, _, _, _, _, _, _]) E.x dX5_tryAll_17 (Nat.le_of_ble_eq_true rfl) rfl rfl rfl ?_
  refine rv_aload_n (q := 19) E.x dX5_tryAll_18 rfl rfl ?_
  refine rC_getX5 (q := 22) E 6 0 wfX5_18 rfl (Nat.le_of_ble_eq_true rfl) ⟨rfl, rfl⟩ rfl dX5_tryAll_19 rfl ?_
  refine rC_getX9 (q := 25) E 1 8 wfX5_77 rfl (Nat.le_of_ble_eq_true rfl) ⟨rfl, rfl⟩ rfl dX5_tryAll_22 rfl ?_
  refine rv_iconst (q := 26) E.x dX5_tryAll_25 rv_ki1 rfl ?_
  refine rC_iald (q := 27) (n := 2) E ⟨rfl, rfl, rfl⟩ dX5_tryAll_26 rfl ?_
  refine rv_istore (q := 29) (lv' := [_, _, _, _, _, _, _, _]) E.x dX5_tryAll_27 (Nat.le_of_ble_eq_true rfl) rfl rfl rfl ?_
  refine rv_aload_n (q := 30) E.x dX5_tryAll_29 rfl rfl ?_
  refine rC_getX5 (q := 33) E 6 4 wfX5_15 rfl (Nat.le_of_ble_eq_true rfl) ⟨rfl, rfl⟩ rfl dX5_tryAll_30 rfl ?_
  refine rv_iconst (q := 34) E.x dX5_tryAll_33 rv_kim1 rfl ?_
  refine rv_b1 (fun M2 e1 => ?_)
  refine rC_callsv (q := 37) E (cJ_fill E.2.2.1 e1) gX5_80 hJ7_fill_53178 ⟨rfl, rfl⟩ ⟨Nat.le_of_ble_eq_true rfl, Nat.le_of_ble_eq_true rfl⟩ ⟨Nat.le_of_ble_eq_true rfl, Nat.le_of_ble_eq_true rfl⟩ rfl rfl rfl (Nat.le_of_ble_eq_true rfl) dX5_tryAll_34 rfl ?_
  refine rv_aload_n (q := 38) E.x dX5_tryAll_37 rfl rfl ?_
  refine rv_aload_n (q := 39) E.x dX5_tryAll_38 rfl rfl ?_
  refine rv_iload_n (q := 40) E.x dX5_tryAll_39 rfl rfl ?_
  refine rv_b1 (fun r4 e3 => ?_)
  refine rC_calliX5 (q := 43) E ⟨rfl, rfl⟩ (c5_findSquashed E.2.2.1 e3) gX5_86 hX5_findSquashed ⟨rfl, rfl⟩ ⟨Nat.le_of_ble_eq_true rfl, Nat.le_of_ble_eq_true rfl⟩ ⟨Nat.le_of_ble_eq_true rfl, Nat.le_of_ble_eq_true rfl⟩ rfl rfl rfl (Nat.le_of_ble_eq_true rfl) dX5_tryAll_40 rfl ?_
  refine rC_putX5 (q := 46) E 6 5 wfX5_89 rfl (Nat.le_of_ble_eq_true rfl) ⟨rfl, rfl⟩ rfl ⟨rfl, rfl⟩ dX5_tryAll_43 rfl ?_
  refine rv_ltm (fun M5 => ?_)
  refine rv_iload_n (q := 47) E.x dX5_tryAll_46 rfl rfl ?_
  refine rv_istore (q := 49) (lv' := [_, _, _, _, _, _, _, _]) E.x dX5_tryAll_47 (Nat.le_of_ble_eq_true rfl) rfl rfl rfl ?_
  refine rv_iconst (q := 50) E.x dX5_tryAll_49 rv_ki0 rfl ?_
  refine rv_istore (q := 52) (lv' := [_, _, _, _, _, _, _, _]) E.x dX5_tryAll_50 (Nat.le_of_ble_eq_true rfl) rfl rfl rfl ?_
  refine rv_wk [true, true, true, true, true, true, true, false] ?_
  exact b5_tryAll_52 E rv_FU M5 a1 (M 1 10) (M 22 ((0 : Int32)).toNatClampNeg) (M 22 ((1 : Int32)).toNatClampNeg) a1 0
theorem c5_tryAll {l : Launch} {D : va_G} {cI cZ cO : ClassId} {ad : Nat → Nat} {gh : rC_gh} {de : Nat} (hI : rC_I ad gh) {M : rv_Mem} {a1 : Int32} {r : Bool} {M1 : rv_Mem} (h : f5_tryAll gh M a1 = some (r, M1)) : Met l yX5_tryAll (rv_ws yX5_tryAll cX5_tryAll 8 (some .boolean)) rm5_tryAll (rC_Pc D cI cZ cO ad gh de [.ref (ad 6), .int a1] M) (rC_QI D cI cZ cO ad gh de (rv_i r) M1) 0 0 (rC_K ad gh) := rC_met hI rfl (by decide) (Nat.le_of_ble_eq_true rfl) (fun p e s m args below meth c E => ⟨(rC_qZW D cI cZ cO ad gh de below args s), rfl, b5_tryAll E M a1⟩) h
abbrev rm6_setList : Room := { frames := 1, cells := 0, slots := 0, locals := 21 }
set_option maxRecDepth 100000 in
theorem b6_setList {p : Program} {l : Launch} {e : Env} {s : State} {m : MethodId} {args : Array Value} {below : List Frame} {meth : Method} {c : Code} {D : va_G} {cI cZ cO : ClassId} {ad : Nat → Nat} {gh : rC_gh} {de : Nat} (E : rC_E D cI cZ cO ad gh (rC_K ad gh) RX6 cX6_setList 5 (some .int) p s m args meth c) (M : rv_Mem) (a1 : Int32) (a2 : Int32) (a3 : Bool) : rv_M (rC_G D cI cZ cO ad gh de) (rC_K ad gh) p l e rm6_setList s m args below meth c 0 0 (rC_qIW D cI cZ cO ad gh de below args s) (f6_setList gh M a1 a2 a3) 0 [some (.ref (ad 5)), some (.int a1), some (.int a2), some (.int (rv_i a3)), none] [] M := by
  unfold f6_setList
  refine rv_aload_n (q := 1) E.x dX6_setList_0 rfl rfl ?_
  refine rC_getX6 (q := 4) E 5 0 wfX6_11 rfl (Nat.le_of_ble_eq_true rfl) ⟨rfl, rfl⟩ rfl dX6_setList_1 rfl ?_
  refine rv_iload_n (q := 5) E.x dX6_setList_4 rfl rfl ?_
  refine rv_b1 (fun r2 e1 => ?_)
  refine rC_callsi (q := 8) E (c9_read E.2.2.1 e1) gX6_22 hX9_read ⟨rfl, rfl⟩ ⟨Nat.le_of_ble_eq_true rfl, Nat.le_of_ble_eq_true rfl⟩ ⟨Nat.le_of_ble_eq_true rfl, Nat.le_of_ble_eq_true rfl⟩ rfl rfl rfl (Nat.le_of_ble_eq_true rfl) dX6_setList_5 rfl ?_
  refine rv_istore (q := 10) (lv' := [_, _, _, _, _]) E.x dX6_setList_8 (Nat.le_of_ble_eq_true rfl) rfl rfl rfl ?_
  refine rv_iload_n (q := 11) E.x dX6_setList_10 rfl rfl ?_
  refine rv_if_lt (q := 14) (tgt := 37) E.x dX6_setList_11 (by decide) rfl ?_ ?_
  · refine rv_iload_n (q := 15) E.x dX6_setList_14 rfl rfl ?_
    refine rv_aload_n (q := 16) E.x dX6_setList_15 rfl rfl ?_
    refine rC_getX6 (q := 19) E 5 0 wfX6_11 rfl (Nat.le_of_ble_eq_true rfl) ⟨rfl, rfl⟩ rfl dX6_setList_16 rfl ?_
    refine rC_alen (q := 20) (n := 14) (v := 14) E (Or.inl ⟨rfl, rfl, rfl⟩) (by decide) dX6_setList_19 rfl ?_
    refine rv_icmp_ge (q := 23) (tgt := 37) E.x dX6_setList_20 (by decide) rfl ?_ ?_
    · refine rv_aload_n (q := 24) E.x dX6_setList_23 rfl rfl ?_
      refine rC_getX6 (q := 27) E 5 0 wfX6_11 rfl (Nat.le_of_ble_eq_true rfl) ⟨rfl, rfl⟩ rfl dX6_setList_24 rfl ?_
      refine rv_iload_n (q := 28) E.x dX6_setList_27 rfl rfl ?_
      refine rv_iload_n (q := 29) E.x dX6_setList_28 rfl rfl ?_
      refine rC_iast (q := 30) (n := 14) E ⟨rfl, rfl, rfl⟩ dX6_setList_29 rfl ?_
      refine rv_ltm (fun M3 => ?_)
      refine rv_aload_n (q := 31) E.x dX6_setList_30 rfl rfl ?_
      refine rC_getX6 (q := 34) E 5 1 wfX6_15 rfl (Nat.le_of_ble_eq_true rfl) ⟨rfl, rfl⟩ rfl dX6_setList_31 rfl ?_
      refine rv_iload_n (q := 35) E.x dX6_setList_34 rfl rfl ?_
      refine rv_iload_n (q := 36) E.x dX6_setList_35 rfl rfl ?_
      refine rC_zast (q := 37) (n := 14) E a3 ⟨rfl, rfl, rfl⟩ dX6_setList_36 rfl ?_
      refine rv_ltm (fun M4 => ?_)
      refine rv_iload (q := 39) E.x dX6_setList_37 rfl rfl ?_
      exact rC_iret E rfl dX6_setList_39
    · refine rv_iload (q := 39) E.x dX6_setList_37 rfl rfl ?_
      exact rC_iret E rfl dX6_setList_39
  · refine rv_iload (q := 39) E.x dX6_setList_37 rfl rfl ?_
    exact rC_iret E rfl dX6_setList_39
theorem c6_setList {l : Launch} {D : va_G} {cI cZ cO : ClassId} {ad : Nat → Nat} {gh : rC_gh} {de : Nat} (hI : rC_I ad gh) {M : rv_Mem} {a1 : Int32} {a2 : Int32} {a3 : Bool} {r : Int32} {M1 : rv_Mem} (h : f6_setList gh M a1 a2 a3 = some (r, M1)) : Met l yX6_setList (rv_ws yX6_setList cX6_setList 5 (some .int)) rm6_setList (rC_Pc D cI cZ cO ad gh de [.ref (ad 5), .int a1, .int a2, .int (rv_i a3)] M) (rC_QI D cI cZ cO ad gh de r M1) 0 0 (rC_K ad gh) := rC_met hI rfl (by decide) (Nat.le_of_ble_eq_true rfl) (fun p e s m args below meth c E => ⟨(rC_qIW D cI cZ cO ad gh de below args s), rfl, b6_setList E M a1 a2 a3⟩) h
abbrev rm6_setIncluding : Room := { frames := 0, cells := 0, slots := 0, locals := 0 }
set_option maxRecDepth 100000 in
theorem b6_setIncluding {p : Program} {l : Launch} {e : Env} {s : State} {m : MethodId} {args : Array Value} {below : List Frame} {meth : Method} {c : Code} {D : va_G} {cI cZ cO : ClassId} {ad : Nat → Nat} {gh : rC_gh} {de : Nat} (E : rC_E D cI cZ cO ad gh (rC_K ad gh) RX6 cX6_setIncluding 4 (some .boolean) p s m args meth c) (M : rv_Mem) (a1 : Int32) (a2 : Bool) : rv_M (rC_G D cI cZ cO ad gh de) (rC_K ad gh) p l e rm6_setIncluding s m args below meth c 0 0 (rC_qZW D cI cZ cO ad gh de below args s) (f6_setIncluding gh M a1 a2) 0 [some (.ref (ad 5)), some (.int a1), some (.int (rv_i a2)), none] [] M := by
  unfold f6_setIncluding
  refine rv_iconst (q := 1) E.x dX6_setIncluding_0 rv_ki0 rfl ?_
  refine rv_istore_n (q := 2) (lv' := [_, _, _, _]) E.x dX6_setIncluding_1 (Nat.le_of_ble_eq_true rfl) rfl rfl rfl ?_
  refine rv_iload_n (q := 3) E.x dX6_setIncluding_2 rfl rfl ?_
  refine rv_if_lt (q := 6) (tgt := 29) E.x dX6_setIncluding_3 (by decide) rfl ?_ ?_
  · refine rv_iload_n (q := 7) E.x dX6_setIncluding_6 rfl rfl ?_
    refine rv_aload_n (q := 8) E.x dX6_setIncluding_7 rfl rfl ?_
    refine rC_getX6 (q := 11) E 5 2 wfX6_19 rfl (Nat.le_of_ble_eq_true rfl) ⟨rfl, rfl⟩ rfl dX6_setIncluding_8 rfl ?_
    refine rC_alen (q := 12) (n := 4) (v := 4) E (Or.inr ⟨rfl, rfl, rfl⟩) (by decide) dX6_setIncluding_11 rfl ?_
    refine rv_icmp_ge (q := 15) (tgt := 29) E.x dX6_setIncluding_12 (by decide) rfl ?_ ?_
    · refine rv_aload_n (q := 16) E.x dX6_setIncluding_15 rfl rfl ?_
      refine rC_getX6 (q := 19) E 5 2 wfX6_19 rfl (Nat.le_of_ble_eq_true rfl) ⟨rfl, rfl⟩ rfl dX6_setIncluding_16 rfl ?_
      refine rv_iload_n (q := 20) E.x dX6_setIncluding_19 rfl rfl ?_
      refine rC_zald (q := 21) (n := 4) E ⟨rfl, rfl, rfl⟩ dX6_setIncluding_20 rfl ?_
      refine rv_istore_n (q := 22) (lv' := [_, _, _, _]) E.x dX6_setIncluding_21 (Nat.le_of_ble_eq_true rfl) rfl rfl rfl ?_
      refine rv_aload_n (q := 23) E.x dX6_setIncluding_22 rfl rfl ?_
      refine rC_getX6 (q := 26) E 5 2 wfX6_19 rfl (Nat.le_of_ble_eq_true rfl) ⟨rfl, rfl⟩ rfl dX6_setIncluding_23 rfl ?_
      refine rv_iload_n (q := 27) E.x dX6_setIncluding_26 rfl rfl ?_
      refine rv_iload_n (q := 28) E.x dX6_setIncluding_27 rfl rfl ?_
      refine rC_zast (q := 29) (n := 4) E a2 ⟨rfl, rfl, rfl⟩ dX6_setIncluding_28 rfl ?_
      refine rv_ltm (fun M1 => ?_)
      refine rv_iload_n (q := 30) E.x dX6_setIncluding_29 rfl rfl ?_
      exact rC_zret E (rv_z (M 50 (a1).toNatClampNeg)) rfl dX6_setIncluding_30
    · refine rv_iload_n (q := 30) E.x dX6_setIncluding_29 rfl rfl ?_
      exact rC_zret E false rfl dX6_setIncluding_30
  · refine rv_iload_n (q := 30) E.x dX6_setIncluding_29 rfl rfl ?_
    exact rC_zret E false rfl dX6_setIncluding_30
theorem c6_setIncluding {l : Launch} {D : va_G} {cI cZ cO : ClassId} {ad : Nat → Nat} {gh : rC_gh} {de : Nat} (hI : rC_I ad gh) {M : rv_Mem} {a1 : Int32} {a2 : Bool} {r : Bool} {M1 : rv_Mem} (h : f6_setIncluding gh M a1 a2 = some (r, M1)) : Met l yX6_setIncluding (rv_ws yX6_setIncluding cX6_setIncluding 4 (some .boolean)) rm6_setIncluding (rC_Pc D cI cZ cO ad gh de [.ref (ad 5), .int a1, .int (rv_i a2)] M) (rC_QI D cI cZ cO ad gh de (rv_i r) M1) 0 0 (rC_K ad gh) := rC_met hI rfl (by decide) (Nat.le_of_ble_eq_true rfl) (fun p e s m args below meth c E => ⟨(rC_qZW D cI cZ cO ad gh de below args s), rfl, b6_setIncluding E M a1 a2⟩) h
abbrev rm6_ownersOf : Room := { frames := 0, cells := 0, slots := 0, locals := 0 }
set_option maxRecDepth 100000 in
theorem b6_ownersOf_107 {p : Program} {l : Launch} {e : Env} {s : State} {m : MethodId} {args : Array Value} {below : List Frame} {meth : Method} {c : Code} {D : va_G} {cI cZ cO : ClassId} {ad : Nat → Nat} {gh : rC_gh} {de : Nat} (E : rC_E D cI cZ cO ad gh (rC_K ad gh) RX6 cX6_ownersOf 7 (some .int) p s m args meth c) (M : rv_Mem)   : ∀ (x6 : Int32), rv_M (rC_G D cI cZ cO ad gh de) (rC_K ad gh) p l e rm6_ownersOf s m args below meth c 0 0 (rC_qI D cI cZ cO ad gh de below args s M) (f6_ownersOf_107 gh M x6) 107 [some (.ref (ad 5)), none, none, none, none, none, some (.int x6)] [] M := by
  intro x6
  unfold f6_ownersOf_107
  refine rv_iload (q := 109) E.x dX6_ownersOf_107 rfl rfl ?_
  refine rv_if_ne (q := 112) (tgt := 121) E.x dX6_ownersOf_109 (by decide) rfl ?_ ?_
  · refine rv_iconst (q := 113) E.x dX6_ownersOf_112 rv_ki1 rfl ?_
    refine rv_aload_n (q := 114) E.x dX6_ownersOf_113 rfl rfl ?_
    refine rC_getX6 (q := 117) E 5 3 wfX6_28 rfl (Nat.le_of_ble_eq_true rfl) ⟨rfl, rfl⟩ rfl dX6_ownersOf_114 rfl ?_
    refine rv_ishl (q := 118) E.x dX6_ownersOf_117 rfl ?_
    refine rv_goto (q := 123) E.x dX6_ownersOf_118 (by decide) ?_
    exact rC_iret E rfl dX6_ownersOf_123
  · refine rv_iload (q := 123) E.x dX6_ownersOf_121 rfl rfl ?_
    exact rC_iret E rfl dX6_ownersOf_123
set_option maxRecDepth 100000 in
theorem b6_ownersOf_83 {p : Program} {l : Launch} {e : Env} {s : State} {m : MethodId} {args : Array Value} {below : List Frame} {meth : Method} {c : Code} {D : va_G} {cI cZ cO : ClassId} {ad : Nat → Nat} {gh : rC_gh} {de : Nat} (E : rC_E D cI cZ cO ad gh (rC_K ad gh) RX6 cX6_ownersOf 7 (some .int) p s m args meth c) (M : rv_Mem)   : ∀ (x3 : Int32) (x5 : Int32) (x6 : Int32), rv_M (rC_G D cI cZ cO ad gh de) (rC_K ad gh) p l e rm6_ownersOf s m args below meth c 0 0 (rC_qI D cI cZ cO ad gh de below args s M) (f6_ownersOf_83 gh M x3 x5 x6) 83 [some (.ref (ad 5)), none, none, some (.int x3), none, some (.int x5), some (.int x6)] [] M := by
  intro x3 x5 x6
  unfold f6_ownersOf_83
  refine rv_aload_n (q := 84) E.x dX6_ownersOf_83 rfl rfl ?_
  refine rC_getX6 (q := 87) E 5 1 wfX6_15 rfl (Nat.le_of_ble_eq_true rfl) ⟨rfl, rfl⟩ rfl dX6_ownersOf_84 rfl ?_
  refine rv_iload (q := 89) E.x dX6_ownersOf_87 rfl rfl ?_
  refine rC_zald (q := 90) (n := 14) E ⟨rfl, rfl, rfl⟩ dX6_ownersOf_89 rfl ?_
  refine rv_ifz_ne (q := 93) (tgt := 107) E.x dX6_ownersOf_90 (by decide) rfl ?_ ?_
  · refine rv_iload (q := 95) E.x dX6_ownersOf_93 rfl rfl ?_
    refine rv_aload_n (q := 96) E.x dX6_ownersOf_95 rfl rfl ?_
    refine rC_getX6 (q := 99) E 5 0 wfX6_11 rfl (Nat.le_of_ble_eq_true rfl) ⟨rfl, rfl⟩ rfl dX6_ownersOf_96 rfl ?_
    refine rv_iload_n (q := 100) E.x dX6_ownersOf_99 rfl rfl ?_
    refine rv_bipush (q := 102) E.x dX6_ownersOf_100 rv_kb6 rfl ?_
    refine rv_iadd (q := 103) E.x dX6_ownersOf_102 rfl ?_
    refine rC_iald (q := 104) (n := 14) E ⟨rfl, rfl, rfl⟩ dX6_ownersOf_103 rfl ?_
    refine rv_ior (q := 105) E.x dX6_ownersOf_104 rfl ?_
    refine rv_istore (q := 107) (lv' := [_, _, _, _, _, _, _]) E.x dX6_ownersOf_105 (Nat.le_of_ble_eq_true rfl) rfl rfl rfl ?_
    refine rv_wk [true, false, false, false, false, false, true] ?_
    exact b6_ownersOf_107 E M (x6 ||| (M 48 ((x3 + 6)).toNatClampNeg))
  · refine rv_wk [true, false, false, false, false, false, true] ?_
    exact b6_ownersOf_107 E M x6
set_option maxRecDepth 100000 in
theorem b6_ownersOf {p : Program} {l : Launch} {e : Env} {s : State} {m : MethodId} {args : Array Value} {below : List Frame} {meth : Method} {c : Code} {D : va_G} {cI cZ cO : ClassId} {ad : Nat → Nat} {gh : rC_gh} {de : Nat} (E : rC_E D cI cZ cO ad gh (rC_K ad gh) RX6 cX6_ownersOf 7 (some .int) p s m args meth c) (M : rv_Mem) (a1 : Int32) (a2 : Int32) : rv_M (rC_G D cI cZ cO ad gh de) (rC_K ad gh) p l e rm6_ownersOf s m args below meth c 0 0 (rC_qI D cI cZ cO ad gh de below args s M) (f6_ownersOf gh M a1 a2) 0 [some (.ref (ad 5)), some (.int a1), some (.int a2), none, none, none, none] [] M := by
  unfold f6_ownersOf
  refine rv_iload_n (q := 1) E.x dX6_ownersOf_0 rfl rfl ?_
  refine rv_bipush (q := 3) E.x dX6_ownersOf_1 rv_kb7 rfl ?_
  refine rv_imul (q := 4) E.x dX6_ownersOf_3 rfl ?_
  refine rv_istore_n (q := 5) (lv' := [_, _, _, _, _, _, _]) E.x dX6_ownersOf_4 (Nat.le_of_ble_eq_true rfl) rfl rfl rfl ?_
  refine rv_iload_n (q := 6) E.x dX6_ownersOf_5 rfl rfl ?_
  refine rv_iconst (q := 7) E.x dX6_ownersOf_6 rv_ki2 rfl ?_
  refine rv_idiv (q := 8) E.x dX6_ownersOf_7 (by decide) rfl ?_
  refine rv_istore (q := 10) (lv' := [_, _, _, _, _, _, _]) E.x dX6_ownersOf_8 (Nat.le_of_ble_eq_true rfl) rfl rfl rfl ?_
  refine rv_iload_n (q := 11) E.x dX6_ownersOf_10 rfl rfl ?_
  refine rv_iconst (q := 12) E.x dX6_ownersOf_11 rv_ki4 rfl ?_
  refine rv_iadd (q := 13) E.x dX6_ownersOf_12 rfl ?_
  refine rv_iload (q := 15) E.x dX6_ownersOf_13 rfl rfl ?_
  refine rv_iadd (q := 16) E.x dX6_ownersOf_15 rfl ?_
  refine rv_istore (q := 18) (lv' := [_, _, _, _, _, _, _]) E.x dX6_ownersOf_16 (Nat.le_of_ble_eq_true rfl) rfl rfl rfl ?_
  refine rv_aload_n (q := 19) E.x dX6_ownersOf_18 rfl rfl ?_
  refine rC_getX6 (q := 22) E 5 0 wfX6_11 rfl (Nat.le_of_ble_eq_true rfl) ⟨rfl, rfl⟩ rfl dX6_ownersOf_19 rfl ?_
  refine rv_iload_n (q := 23) E.x dX6_ownersOf_22 rfl rfl ?_
  refine rv_iload_n (q := 24) E.x dX6_ownersOf_23 rfl rfl ?_
  refine rv_iadd (q := 25) E.x dX6_ownersOf_24 rfl ?_
  refine rC_iald (q := 26) (n := 14) E ⟨rfl, rfl, rfl⟩ dX6_ownersOf_25 rfl ?_
  refine rv_istore (q := 28) (lv' := [_, _, _, _, _, _, _]) E.x dX6_ownersOf_26 (Nat.le_of_ble_eq_true rfl) rfl rfl rfl ?_
  refine rv_aload_n (q := 29) E.x dX6_ownersOf_28 rfl rfl ?_
  refine rC_getX6 (q := 32) E 5 1 wfX6_15 rfl (Nat.le_of_ble_eq_true rfl) ⟨rfl, rfl⟩ rfl dX6_ownersOf_29 rfl ?_
  refine rv_iload_n (q := 33) E.x dX6_ownersOf_32 rfl rfl ?_
  refine rv_iload_n (q := 34) E.x dX6_ownersOf_33 rfl rfl ?_
  refine rv_iadd (q := 35) E.x dX6_ownersOf_34 rfl ?_
  refine rC_zald (q := 36) (n := 14) E ⟨rfl, rfl, rfl⟩ dX6_ownersOf_35 rfl ?_
  refine rv_ifz_ne (q := 39) (tgt := 107) E.x dX6_ownersOf_36 (by decide) rfl ?_ ?_
  · refine rv_iload (q := 41) E.x dX6_ownersOf_39 rfl rfl ?_
    refine rv_aload_n (q := 42) E.x dX6_ownersOf_41 rfl rfl ?_
    refine rC_getX6 (q := 45) E 5 0 wfX6_11 rfl (Nat.le_of_ble_eq_true rfl) ⟨rfl, rfl⟩ rfl dX6_ownersOf_42 rfl ?_
    refine rv_iload (q := 47) E.x dX6_ownersOf_45 rfl rfl ?_
    refine rC_iald (q := 48) (n := 14) E ⟨rfl, rfl, rfl⟩ dX6_ownersOf_47 rfl ?_
    refine rv_ior (q := 49) E.x dX6_ownersOf_48 rfl ?_
    refine rv_istore (q := 51) (lv' := [_, _, _, _, _, _, _]) E.x dX6_ownersOf_49 (Nat.le_of_ble_eq_true rfl) rfl rfl rfl ?_
    refine rv_aload_n (q := 52) E.x dX6_ownersOf_51 rfl rfl ?_
    refine rC_getX6 (q := 55) E 5 2 wfX6_19 rfl (Nat.le_of_ble_eq_true rfl) ⟨rfl, rfl⟩ rfl dX6_ownersOf_52 rfl ?_
    refine rv_iload_n (q := 56) E.x dX6_ownersOf_55 rfl rfl ?_
    refine rv_iconst (q := 57) E.x dX6_ownersOf_56 rv_ki2 rfl ?_
    refine rv_imul (q := 58) E.x dX6_ownersOf_57 rfl ?_
    refine rv_iload (q := 60) E.x dX6_ownersOf_58 rfl rfl ?_
    refine rv_iadd (q := 61) E.x dX6_ownersOf_60 rfl ?_
    refine rC_zald (q := 62) (n := 4) E ⟨rfl, rfl, rfl⟩ dX6_ownersOf_61 rfl ?_
    refine rv_ifz_eq (q := 65) (tgt := 83) E.x dX6_ownersOf_62 (by decide) rfl ?_ ?_
    · refine rv_iload (q := 67) E.x dX6_ownersOf_65 rfl rfl ?_
      refine rv_aload_n (q := 68) E.x dX6_ownersOf_67 rfl rfl ?_
      refine rC_getX6 (q := 71) E 5 0 wfX6_11 rfl (Nat.le_of_ble_eq_true rfl) ⟨rfl, rfl⟩ rfl dX6_ownersOf_68 rfl ?_
      refine rv_iload_n (q := 72) E.x dX6_ownersOf_71 rfl rfl ?_
      refine rv_iconst (q := 73) E.x dX6_ownersOf_72 rv_ki4 rfl ?_
      refine rv_iadd (q := 74) E.x dX6_ownersOf_73 rfl ?_
      refine rv_iconst (q := 75) E.x dX6_ownersOf_74 rv_ki1 rfl ?_
      refine rv_iadd (q := 76) E.x dX6_ownersOf_75 rfl ?_
      refine rv_iload (q := 78) E.x dX6_ownersOf_76 rfl rfl ?_
      refine rv_isub (q := 79) E.x dX6_ownersOf_78 rfl ?_
      refine rC_iald (q := 80) (n := 14) E ⟨rfl, rfl, rfl⟩ dX6_ownersOf_79 rfl ?_
      refine rv_ior (q := 81) E.x dX6_ownersOf_80 rfl ?_
      refine rv_istore (q := 83) (lv' := [_, _, _, _, _, _, _]) E.x dX6_ownersOf_81 (Nat.le_of_ble_eq_true rfl) rfl rfl rfl ?_
      refine rv_wk [true, false, false, true, false, true, true] ?_
      exact b6_ownersOf_83 E M (a1 * 7) (((a1 * 7) + 4) + (a2 / 2)) (((M 48 (((a1 * 7) + a2)).toNatClampNeg) ||| (M 48 ((((a1 * 7) + 4) + (a2 / 2))).toNatClampNeg)) ||| (M 48 (((((a1 * 7) + 4) + 1) - (a2 / 2))).toNatClampNeg))
    · refine rv_wk [true, false, false, true, false, true, true] ?_
      exact b6_ownersOf_83 E M (a1 * 7) (((a1 * 7) + 4) + (a2 / 2)) ((M 48 (((a1 * 7) + a2)).toNatClampNeg) ||| (M 48 ((((a1 * 7) + 4) + (a2 / 2))).toNatClampNeg))
  · refine rv_wk [true, false, false, false, false, false, true] ?_
    exact b6_ownersOf_107 E M (M 48 (((a1 * 7) + a2)).toNatClampNeg)
theorem c6_ownersOf {l : Launch} {D : va_G} {cI cZ cO : ClassId} {ad : Nat → Nat} {gh : rC_gh} {de : Nat} (hI : rC_I ad gh) {M : rv_Mem} {a1 : Int32} {a2 : Int32} {r : Int32} (h : f6_ownersOf gh M a1 a2 = some r) : Met l yX6_ownersOf (rv_ws yX6_ownersOf cX6_ownersOf 7 (some .int)) rm6_ownersOf (rC_Pc D cI cZ cO ad gh de [.ref (ad 5), .int a1, .int a2] M) (rC_QI D cI cZ cO ad gh de r M) 0 0 (rC_K ad gh) := rC_met hI rfl (by decide) (Nat.le_of_ble_eq_true rfl) (fun p e s m args below meth c E => ⟨(rC_qI D cI cZ cO ad gh de below args s M), rfl, b6_ownersOf E M a1 a2⟩) h
abbrev rm7_touches : Room := { frames := 0, cells := 0, slots := 0, locals := 0 }
set_option maxRecDepth 100000 in
theorem b7_touches {p : Program} {l : Launch} {e : Env} {s : State} {m : MethodId} {args : Array Value} {below : List Frame} {meth : Method} {c : Code} {D : va_G} {cI cZ cO : ClassId} {ad : Nat → Nat} {gh : rC_gh} {de : Nat} (E : rC_E D cI cZ cO ad gh (rC_K ad gh) RX7 cX7_touches 2 (some .boolean) p s m args meth c) (M : rv_Mem) (a0 : Nat) (a1 : Nat) : rv_M (rC_G D cI cZ cO ad gh de) (rC_K ad gh) p l e rm7_touches s m args below meth c 0 0 (rC_qZ D cI cZ cO ad gh de below args s M) (f7_touches gh M a0 a1) 0 [some (.ref (ad a0)), some (.ref (ad a1))] [] M := by
  unfold f7_touches
  refine rv_aload_n (q := 1) E.x dX7_touches_0 rfl rfl ?_
  refine rv_g (fun g1 => ?_)
  refine rC_getX7 (q := 4) E a0 2 wfX7_16 rfl (Nat.le_of_ble_eq_true rfl) (rC_at_of g1) rfl dX7_touches_1 rfl ?_
  refine rv_aload_n (q := 5) E.x dX7_touches_4 rfl rfl ?_
  refine rv_g (fun g2 => ?_)
  refine rC_getX7 (q := 8) E a1 2 wfX7_16 rfl (Nat.le_of_ble_eq_true rfl) (rC_at_of g2) rfl dX7_touches_5 rfl ?_
  refine rv_icmp_ne (q := 11) (tgt := 47) E.x dX7_touches_8 (by decide) rfl ?_ ?_
  · refine rv_aload_n (q := 12) E.x dX7_touches_11 rfl rfl ?_
    refine rC_getX7 (q := 15) E a0 3 wfX7_19 rfl (Nat.le_of_ble_eq_true rfl) (rC_at_of g1) rfl dX7_touches_12 rfl ?_
    refine rv_aload_n (q := 16) E.x dX7_touches_15 rfl rfl ?_
    refine rC_getX7 (q := 19) E a1 3 wfX7_19 rfl (Nat.le_of_ble_eq_true rfl) (rC_at_of g2) rfl dX7_touches_16 rfl ?_
    refine rv_aload_n (q := 20) E.x dX7_touches_19 rfl rfl ?_
    refine rC_getX7 (q := 23) E a1 4 wfX7_22 rfl (Nat.le_of_ble_eq_true rfl) (rC_at_of g2) rfl dX7_touches_20 rfl ?_
    refine rv_iadd (q := 24) E.x dX7_touches_23 rfl ?_
    refine rv_icmp_gt (q := 27) (tgt := 47) E.x dX7_touches_24 (by decide) rfl ?_ ?_
    · refine rv_aload_n (q := 28) E.x dX7_touches_27 rfl rfl ?_
      refine rC_getX7 (q := 31) E a1 3 wfX7_19 rfl (Nat.le_of_ble_eq_true rfl) (rC_at_of g2) rfl dX7_touches_28 rfl ?_
      refine rv_aload_n (q := 32) E.x dX7_touches_31 rfl rfl ?_
      refine rC_getX7 (q := 35) E a0 3 wfX7_19 rfl (Nat.le_of_ble_eq_true rfl) (rC_at_of g1) rfl dX7_touches_32 rfl ?_
      refine rv_aload_n (q := 36) E.x dX7_touches_35 rfl rfl ?_
      refine rC_getX7 (q := 39) E a0 4 wfX7_22 rfl (Nat.le_of_ble_eq_true rfl) (rC_at_of g1) rfl dX7_touches_36 rfl ?_
      refine rv_iadd (q := 40) E.x dX7_touches_39 rfl ?_
      refine rv_icmp_gt (q := 43) (tgt := 47) E.x dX7_touches_40 (by decide) rfl ?_ ?_
      · refine rv_iconst (q := 44) E.x dX7_touches_43 rv_ki1 rfl ?_
        refine rv_goto (q := 48) E.x dX7_touches_44 (by decide) ?_
        exact rC_zret E true rfl dX7_touches_48
      · refine rv_iconst (q := 48) E.x dX7_touches_47 rv_ki0 rfl ?_
        exact rC_zret E false rfl dX7_touches_48
    · refine rv_iconst (q := 48) E.x dX7_touches_47 rv_ki0 rfl ?_
      exact rC_zret E false rfl dX7_touches_48
  · refine rv_iconst (q := 48) E.x dX7_touches_47 rv_ki0 rfl ?_
    exact rC_zret E false rfl dX7_touches_48
theorem c7_touches {l : Launch} {D : va_G} {cI cZ cO : ClassId} {ad : Nat → Nat} {gh : rC_gh} {de : Nat} (hI : rC_I ad gh) {M : rv_Mem} {a0 : Nat} {a1 : Nat} {r : Bool} (h : f7_touches gh M a0 a1 = some r) : Met l yX7_touches (rv_ws yX7_touches cX7_touches 2 (some .boolean)) rm7_touches (rC_Pc D cI cZ cO ad gh de [.ref (ad a0), .ref (ad a1)] M) (rC_QI D cI cZ cO ad gh de (rv_i r) M) 0 0 (rC_K ad gh) := rC_met hI rfl (by decide) (Nat.le_of_ble_eq_true rfl) (fun p e s m args below meth c E => ⟨(rC_qZ D cI cZ cO ad gh de below args s M), rfl, b7_touches E M a0 a1⟩) h
abbrev rm8_levelNeeded : Room := { frames := 1, cells := 0, slots := 0, locals := 30 }
set_option maxRecDepth 100000 in
theorem b8_levelNeeded_61 {p : Program} {l : Launch} {e : Env} {s : State} {m : MethodId} {args : Array Value} {below : List Frame} {meth : Method} {c : Code} {D : va_G} {cI cZ cO : ClassId} {ad : Nat → Nat} {gh : rC_gh} {de : Nat} (E : rC_E D cI cZ cO ad gh (rC_K ad gh) RX8 cX8_levelNeeded 4 (some .int) p s m args meth c) (M : rv_Mem) (k5 : Int32 → Int32 → Int32 → Option (Int32)) (h5 : ∀ (x1 : Int32) (x2 : Int32) (x3 : Int32), rv_M (rC_G D cI cZ cO ad gh de) (rC_K ad gh) p l e rm8_levelNeeded s m args below meth c 0 0 (rC_qI D cI cZ cO ad gh de below args s M) (k5 x1 x2 x3) 5 [some (.ref (ad 4)), some (.int x1), some (.int x2), some (.int x3)] [] M) : ∀ (x1 : Int32) (x2 : Int32) (x3 : Int32), rv_M (rC_G D cI cZ cO ad gh de) (rC_K ad gh) p l e rm8_levelNeeded s m args below meth c 0 0 (rC_qI D cI cZ cO ad gh de below args s M) (f8_levelNeeded_61 gh M k5 x1 x2 x3) 61 [some (.ref (ad 4)), some (.int x1), some (.int x2), some (.int x3)] [] M := by
  intro x1 x2 x3
  unfold f8_levelNeeded_61
  refine rv_iinc (q := 64) (lv' := [_, _, _, _]) E.x dX8_levelNeeded_61 rv_ki1 rfl rfl rfl rfl ?_
  refine rv_goto (q := 5) E.x dX8_levelNeeded_64 (by decide) ?_
  refine rv_wk [true, true, true, true] ?_
  exact h5 x1 x2 (x3 + 1)
set_option maxRecDepth 100000 in
theorem b8_levelNeeded_35 {p : Program} {l : Launch} {e : Env} {s : State} {m : MethodId} {args : Array Value} {below : List Frame} {meth : Method} {c : Code} {D : va_G} {cI cZ cO : ClassId} {ad : Nat → Nat} {gh : rC_gh} {de : Nat} (E : rC_E D cI cZ cO ad gh (rC_K ad gh) RX8 cX8_levelNeeded 4 (some .int) p s m args meth c) (M : rv_Mem) (k5 : Int32 → Int32 → Int32 → Option (Int32)) (h5 : ∀ (x1 : Int32) (x2 : Int32) (x3 : Int32), rv_M (rC_G D cI cZ cO ad gh de) (rC_K ad gh) p l e rm8_levelNeeded s m args below meth c 0 0 (rC_qI D cI cZ cO ad gh de below args s M) (k5 x1 x2 x3) 5 [some (.ref (ad 4)), some (.int x1), some (.int x2), some (.int x3)] [] M) : ∀ (x1 : Int32) (x2 : Int32) (x3 : Int32), rv_M (rC_G D cI cZ cO ad gh de) (rC_K ad gh) p l e rm8_levelNeeded s m args below meth c 0 0 (rC_qI D cI cZ cO ad gh de below args s M) (f8_levelNeeded_35 gh M k5 x1 x2 x3) 35 [some (.ref (ad 4)), some (.int x1), some (.int x2), some (.int x3)] [] M := by
  intro x1 x2 x3
  unfold f8_levelNeeded_35
  refine rv_aload_n (q := 36) E.x dX8_levelNeeded_35 rfl rfl ?_
  refine rC_getX8 (q := 39) E 4 2 wfX8_18 rfl (Nat.le_of_ble_eq_true rfl) ⟨rfl, rfl⟩ rfl dX8_levelNeeded_36 rfl ?_
  refine rv_iload_n (q := 40) E.x dX8_levelNeeded_39 rfl rfl ?_
  refine rC_iald (q := 41) (n := 20) E ⟨rfl, rfl, rfl⟩ dX8_levelNeeded_40 rfl ?_
  refine rv_iload_n (q := 42) E.x dX8_levelNeeded_41 rfl rfl ?_
  refine rv_b1 (fun r2 e1 => ?_)
  refine rC_calln (q := 45) E (c11_isIn e1) gX8_55 E.2.2.2.2.2.2.2.2.1 wsgX8_55 wi_ReviewForge hX11_isIn ⟨rfl, rfl⟩ ⟨Nat.le_of_ble_eq_true rfl, Nat.le_of_ble_eq_true rfl⟩ ⟨Nat.le_of_ble_eq_true rfl, Nat.le_of_ble_eq_true rfl⟩ rfl rfl rfl (Nat.le_of_ble_eq_true rfl) dX8_levelNeeded_42 rfl ?_
  refine rv_ifz_eq (q := 48) (tgt := 61) E.x dX8_levelNeeded_45 (by decide) rfl ?_ ?_
  · refine rv_iload_n (q := 49) E.x dX8_levelNeeded_48 rfl rfl ?_
    refine rv_aload_n (q := 50) E.x dX8_levelNeeded_49 rfl rfl ?_
    refine rC_getX8 (q := 53) E 4 4 wfX8_25 rfl (Nat.le_of_ble_eq_true rfl) ⟨rfl, rfl⟩ rfl dX8_levelNeeded_50 rfl ?_
    refine rv_iload_n (q := 54) E.x dX8_levelNeeded_53 rfl rfl ?_
    refine rC_iald (q := 55) (n := 16) E ⟨rfl, rfl, rfl⟩ dX8_levelNeeded_54 rfl ?_
    refine rv_iconst (q := 56) E.x dX8_levelNeeded_55 rv_ki1 rfl ?_
    refine rv_iadd (q := 57) E.x dX8_levelNeeded_56 rfl ?_
    refine rC_mmax (q := 60) E wmX8_49 rfl rfl (Nat.le_of_ble_eq_true rfl) (Nat.le_of_ble_eq_true rfl) ⟨Nat.le_of_ble_eq_true rfl, Nat.le_of_ble_eq_true rfl⟩ dX8_levelNeeded_57 rfl ?_
    refine rv_istore_n (q := 61) (lv' := [_, _, _, _]) E.x dX8_levelNeeded_60 (Nat.le_of_ble_eq_true rfl) rfl rfl rfl ?_
    refine rv_wk [true, true, true, true] ?_
    exact b8_levelNeeded_61 E M k5 h5 x1 (if x2 < ((M 47 (x3).toNatClampNeg) + 1) then ((M 47 (x3).toNatClampNeg) + 1) else x2) x3
  · refine rv_wk [true, true, true, true] ?_
    exact b8_levelNeeded_61 E M k5 h5 x1 x2 x3
set_option maxRecDepth 100000 in
theorem b8_levelNeeded_5_s {p : Program} {l : Launch} {e : Env} {s : State} {m : MethodId} {args : Array Value} {below : List Frame} {meth : Method} {c : Code} {D : va_G} {cI cZ cO : ClassId} {ad : Nat → Nat} {gh : rC_gh} {de : Nat} (E : rC_E D cI cZ cO ad gh (rC_K ad gh) RX8 cX8_levelNeeded 4 (some .int) p s m args meth c) (M : rv_Mem)   (k5 : Int32 → Int32 → Int32 → Option (Int32)) (h5 : ∀ (x1 : Int32) (x2 : Int32) (x3 : Int32), rv_M (rC_G D cI cZ cO ad gh de) (rC_K ad gh) p l e rm8_levelNeeded s m args below meth c 0 0 (rC_qI D cI cZ cO ad gh de below args s M) (k5 x1 x2 x3) 5 [some (.ref (ad 4)), some (.int x1), some (.int x2), some (.int x3)] [] M) : ∀ (x1 : Int32) (x2 : Int32) (x3 : Int32), rv_M (rC_G D cI cZ cO ad gh de) (rC_K ad gh) p l e rm8_levelNeeded s m args below meth c 0 0 (rC_qI D cI cZ cO ad gh de below args s M) (f8_levelNeeded_5_s gh M k5 x1 x2 x3) 5 [some (.ref (ad 4)), some (.int x1), some (.int x2), some (.int x3)] [] M := by
  intro x1 x2 x3
  unfold f8_levelNeeded_5_s
  refine rv_iload_n (q := 6) E.x dX8_levelNeeded_5 rfl rfl ?_
  refine rv_bipush (q := 8) E.x dX8_levelNeeded_6 rv_kb16 rfl ?_
  refine rv_icmp_ge (q := 11) (tgt := 67) E.x dX8_levelNeeded_8 (by decide) rfl ?_ ?_
  · refine rv_aload_n (q := 12) E.x dX8_levelNeeded_11 rfl rfl ?_
    refine rC_getX8 (q := 15) E 4 1 wfX8_15 rfl (Nat.le_of_ble_eq_true rfl) ⟨rfl, rfl⟩ rfl dX8_levelNeeded_12 rfl ?_
    refine rv_iload_n (q := 16) E.x dX8_levelNeeded_15 rfl rfl ?_
    refine rC_iald (q := 17) (n := 20) E ⟨rfl, rfl, rfl⟩ dX8_levelNeeded_16 rfl ?_
    refine rv_iload_n (q := 18) E.x dX8_levelNeeded_17 rfl rfl ?_
    refine rv_b1 (fun r2 e1 => ?_)
    refine rC_calln (q := 21) E (c11_isIn e1) gX8_55 E.2.2.2.2.2.2.2.2.1 wsgX8_55 wi_ReviewForge hX11_isIn ⟨rfl, rfl⟩ ⟨Nat.le_of_ble_eq_true rfl, Nat.le_of_ble_eq_true rfl⟩ ⟨Nat.le_of_ble_eq_true rfl, Nat.le_of_ble_eq_true rfl⟩ rfl rfl rfl (Nat.le_of_ble_eq_true rfl) dX8_levelNeeded_18 rfl ?_
    refine rv_ifz_eq (q := 24) (tgt := 35) E.x dX8_levelNeeded_21 (by decide) rfl ?_ ?_
    · refine rv_iload_n (q := 25) E.x dX8_levelNeeded_24 rfl rfl ?_
      refine rv_aload_n (q := 26) E.x dX8_levelNeeded_25 rfl rfl ?_
      refine rC_getX8 (q := 29) E 4 4 wfX8_25 rfl (Nat.le_of_ble_eq_true rfl) ⟨rfl, rfl⟩ rfl dX8_levelNeeded_26 rfl ?_
      refine rv_iload_n (q := 30) E.x dX8_levelNeeded_29 rfl rfl ?_
      refine rC_iald (q := 31) (n := 16) E ⟨rfl, rfl, rfl⟩ dX8_levelNeeded_30 rfl ?_
      refine rC_mmax (q := 34) E wmX8_49 rfl rfl (Nat.le_of_ble_eq_true rfl) (Nat.le_of_ble_eq_true rfl) ⟨Nat.le_of_ble_eq_true rfl, Nat.le_of_ble_eq_true rfl⟩ dX8_levelNeeded_31 rfl ?_
      refine rv_istore_n (q := 35) (lv' := [_, _, _, _]) E.x dX8_levelNeeded_34 (Nat.le_of_ble_eq_true rfl) rfl rfl rfl ?_
      refine rv_wk [true, true, true, true] ?_
      exact b8_levelNeeded_35 E M k5 h5 x1 (if x2 < (M 47 (x3).toNatClampNeg) then (M 47 (x3).toNatClampNeg) else x2) x3
    · refine rv_wk [true, true, true, true] ?_
      exact b8_levelNeeded_35 E M k5 h5 x1 x2 x3
  · refine rv_iload_n (q := 68) E.x dX8_levelNeeded_67 rfl rfl ?_
    exact rC_iret E rfl dX8_levelNeeded_68
theorem b8_levelNeeded_5 {p : Program} {l : Launch} {e : Env} {s : State} {m : MethodId} {args : Array Value} {below : List Frame} {meth : Method} {c : Code} {D : va_G} {cI cZ cO : ClassId} {ad : Nat → Nat} {gh : rC_gh} {de : Nat} (E : rC_E D cI cZ cO ad gh (rC_K ad gh) RX8 cX8_levelNeeded 4 (some .int) p s m args meth c) (M : rv_Mem)   : ∀ (n : Nat), ∀ (x1 : Int32) (x2 : Int32) (x3 : Int32), rv_M (rC_G D cI cZ cO ad gh de) (rC_K ad gh) p l e rm8_levelNeeded s m args below meth c 0 0 (rC_qI D cI cZ cO ad gh de below args s M) (f8_levelNeeded_5 gh M n x1 x2 x3) 5 [some (.ref (ad 4)), some (.int x1), some (.int x2), some (.int x3)] [] M := by
  intro n
  induction n with
  | zero => exact fun _ _ _ => rv_stuck
  | succ n ih => exact b8_levelNeeded_5_s E M (f8_levelNeeded_5 gh M n) ih
set_option maxRecDepth 100000 in
theorem b8_levelNeeded {p : Program} {l : Launch} {e : Env} {s : State} {m : MethodId} {args : Array Value} {below : List Frame} {meth : Method} {c : Code} {D : va_G} {cI cZ cO : ClassId} {ad : Nat → Nat} {gh : rC_gh} {de : Nat} (E : rC_E D cI cZ cO ad gh (rC_K ad gh) RX8 cX8_levelNeeded 4 (some .int) p s m args meth c) (M : rv_Mem) (a1 : Int32) : rv_M (rC_G D cI cZ cO ad gh de) (rC_K ad gh) p l e rm8_levelNeeded s m args below meth c 0 0 (rC_qI D cI cZ cO ad gh de below args s M) (f8_levelNeeded gh M a1) 0 [some (.ref (ad 4)), some (.int a1), none, none] [] M := by
  unfold f8_levelNeeded
  refine rv_iconst (q := 1) E.x dX8_levelNeeded_0 rv_ki0 rfl ?_
  refine rv_istore_n (q := 2) (lv' := [_, _, _, _]) E.x dX8_levelNeeded_1 (Nat.le_of_ble_eq_true rfl) rfl rfl rfl ?_
  refine rv_bipush (q := 4) E.x dX8_levelNeeded_2 rv_kb8 rfl ?_
  refine rv_istore_n (q := 5) (lv' := [_, _, _, _]) E.x dX8_levelNeeded_4 (Nat.le_of_ble_eq_true rfl) rfl rfl rfl ?_
  refine rv_wk [true, true, true, true] ?_
  exact b8_levelNeeded_5 E M rv_FU a1 0 8
theorem c8_levelNeeded {l : Launch} {D : va_G} {cI cZ cO : ClassId} {ad : Nat → Nat} {gh : rC_gh} {de : Nat} (hI : rC_I ad gh) {M : rv_Mem} {a1 : Int32} {r : Int32} (h : f8_levelNeeded gh M a1 = some r) : Met l yX8_levelNeeded (rv_ws yX8_levelNeeded cX8_levelNeeded 4 (some .int)) rm8_levelNeeded (rC_Pc D cI cZ cO ad gh de [.ref (ad 4), .int a1] M) (rC_QI D cI cZ cO ad gh de r M) 0 0 (rC_K ad gh) := rC_met hI rfl (by decide) (Nat.le_of_ble_eq_true rfl) (fun p e s m args below meth c E => ⟨(rC_qI D cI cZ cO ad gh de below args s M), rfl, b8_levelNeeded E M a1⟩) h
abbrev rm8_findLevels : Room := { frames := 2, cells := 0, slots := 0, locals := 53 }
set_option maxRecDepth 100000 in
theorem b8_findLevels_85 {p : Program} {l : Launch} {e : Env} {s : State} {m : MethodId} {args : Array Value} {below : List Frame} {meth : Method} {c : Code} {D : va_G} {cI cZ cO : ClassId} {ad : Nat → Nat} {gh : rC_gh} {de : Nat} (E : rC_E D cI cZ cO ad gh (rC_K ad gh) RX8 cX8_findLevels 5 (some .boolean) p s m args meth c) (k12 : rv_Mem → Bool → Int32 → Option (Bool × rv_Mem)) (k26 : rv_Mem → Bool → Int32 → Int32 → Option (Bool × rv_Mem)) (h12 : ∀ (M : rv_Mem) (x1 : Bool) (x2 : Int32), rv_M (rC_G D cI cZ cO ad gh de) (rC_K ad gh) p l e rm8_findLevels s m args below meth c 0 0 (rC_qZW D cI cZ cO ad gh de below args s) (k12 M x1 x2) 12 [some (.ref (ad 4)), some (.int (rv_i x1)), some (.int x2), none, none] [] M) (h26 : ∀ (M : rv_Mem) (x1 : Bool) (x2 : Int32) (x3 : Int32), rv_M (rC_G D cI cZ cO ad gh de) (rC_K ad gh) p l e rm8_findLevels s m args below meth c 0 0 (rC_qZW D cI cZ cO ad gh de below args s) (k26 M x1 x2 x3) 26 [some (.ref (ad 4)), some (.int (rv_i x1)), some (.int x2), some (.int x3), none] [] M) : ∀ (M : rv_Mem) (x1 : Bool) (x2 : Int32) (x3 : Int32), rv_M (rC_G D cI cZ cO ad gh de) (rC_K ad gh) p l e rm8_findLevels s m args below meth c 0 0 (rC_qZW D cI cZ cO ad gh de below args s) (f8_findLevels_85 gh k12 k26 M x1 x2 x3) 85 [some (.ref (ad 4)), some (.int (rv_i x1)), some (.int x2), some (.int x3), none] [] M := by
  intro M x1 x2 x3
  unfold f8_findLevels_85
  refine rv_iinc (q := 88) (lv' := [_, _, _, _, _]) E.x dX8_findLevels_85 rv_ki1 rfl rfl rfl rfl ?_
  refine rv_goto (q := 26) E.x dX8_findLevels_88 (by decide) ?_
  refine rv_wk [true, true, true, true, false] ?_
  exact h26 M x1 x2 (x3 + 1)
set_option maxRecDepth 100000 in
theorem b8_findLevels_52 {p : Program} {l : Launch} {e : Env} {s : State} {m : MethodId} {args : Array Value} {below : List Frame} {meth : Method} {c : Code} {D : va_G} {cI cZ cO : ClassId} {ad : Nat → Nat} {gh : rC_gh} {de : Nat} (E : rC_E D cI cZ cO ad gh (rC_K ad gh) RX8 cX8_findLevels 5 (some .boolean) p s m args meth c) (k12 : rv_Mem → Bool → Int32 → Option (Bool × rv_Mem)) (k26 : rv_Mem → Bool → Int32 → Int32 → Option (Bool × rv_Mem)) (h12 : ∀ (M : rv_Mem) (x1 : Bool) (x2 : Int32), rv_M (rC_G D cI cZ cO ad gh de) (rC_K ad gh) p l e rm8_findLevels s m args below meth c 0 0 (rC_qZW D cI cZ cO ad gh de below args s) (k12 M x1 x2) 12 [some (.ref (ad 4)), some (.int (rv_i x1)), some (.int x2), none, none] [] M) (h26 : ∀ (M : rv_Mem) (x1 : Bool) (x2 : Int32) (x3 : Int32), rv_M (rC_G D cI cZ cO ad gh de) (rC_K ad gh) p l e rm8_findLevels s m args below meth c 0 0 (rC_qZW D cI cZ cO ad gh de below args s) (k26 M x1 x2 x3) 26 [some (.ref (ad 4)), some (.int (rv_i x1)), some (.int x2), some (.int x3), none] [] M) : ∀ (M : rv_Mem) (x1 : Bool) (x2 : Int32) (x3 : Int32) (s0 : Int32), rv_M (rC_G D cI cZ cO ad gh de) (rC_K ad gh) p l e rm8_findLevels s m args below meth c 0 0 (rC_qZW D cI cZ cO ad gh de below args s) (f8_findLevels_52 gh k12 k26 M x1 x2 x3 s0) 52 [some (.ref (ad 4)), some (.int (rv_i x1)), some (.int x2), some (.int x3), none] [.int s0] M := by
  intro M x1 x2 x3 s0
  unfold f8_findLevels_52
  refine rv_istore (q := 54) (lv' := [_, _, _, _, _]) E.x dX8_findLevels_52 (Nat.le_of_ble_eq_true rfl) rfl rfl rfl ?_
  refine rv_aload_n (q := 55) E.x dX8_findLevels_54 rfl rfl ?_
  refine rC_getX8 (q := 58) E 4 4 wfX8_25 rfl (Nat.le_of_ble_eq_true rfl) ⟨rfl, rfl⟩ rfl dX8_findLevels_55 rfl ?_
  refine rv_aload_n (q := 59) E.x dX8_findLevels_58 rfl rfl ?_
  refine rC_getX8 (q := 62) E 4 0 wfX8_9 rfl (Nat.le_of_ble_eq_true rfl) ⟨rfl, rfl⟩ rfl dX8_findLevels_59 rfl ?_
  refine rv_iload_n (q := 63) E.x dX8_findLevels_62 rfl rfl ?_
  refine rC_iald (q := 64) (n := 20) E ⟨rfl, rfl, rfl⟩ dX8_findLevels_63 rfl ?_
  refine rC_iald (q := 65) (n := 16) E ⟨rfl, rfl, rfl⟩ dX8_findLevels_64 rfl ?_
  refine rv_iload (q := 67) E.x dX8_findLevels_65 rfl rfl ?_
  refine rv_icmp_ge (q := 70) (tgt := 85) E.x dX8_findLevels_67 (by decide) rfl ?_ ?_
  · refine rv_aload_n (q := 71) E.x dX8_findLevels_70 rfl rfl ?_
    refine rC_getX8 (q := 74) E 4 4 wfX8_25 rfl (Nat.le_of_ble_eq_true rfl) ⟨rfl, rfl⟩ rfl dX8_findLevels_71 rfl ?_
    refine rv_aload_n (q := 75) E.x dX8_findLevels_74 rfl rfl ?_
    refine rC_getX8 (q := 78) E 4 0 wfX8_9 rfl (Nat.le_of_ble_eq_true rfl) ⟨rfl, rfl⟩ rfl dX8_findLevels_75 rfl ?_
    refine rv_iload_n (q := 79) E.x dX8_findLevels_78 rfl rfl ?_
    refine rC_iald (q := 80) (n := 20) E ⟨rfl, rfl, rfl⟩ dX8_findLevels_79 rfl ?_
    refine rv_iload (q := 82) E.x dX8_findLevels_80 rfl rfl ?_
    refine rC_iast (q := 83) (n := 16) E ⟨rfl, rfl, rfl⟩ dX8_findLevels_82 rfl ?_
    refine rv_ltm (fun M1 => ?_)
    refine rv_iconst (q := 84) E.x dX8_findLevels_83 rv_ki1 rfl ?_
    refine rv_istore_n (q := 85) (lv' := [_, _, _, _, _]) E.x dX8_findLevels_84 (Nat.le_of_ble_eq_true rfl) rfl rfl rfl ?_
    refine rv_wk [true, true, true, true, false] ?_
    exact b8_findLevels_85 E k12 k26 h12 h26 M1 true x2 x3
  · refine rv_wk [true, true, true, true, false] ?_
    exact b8_findLevels_85 E k12 k26 h12 h26 M x1 x2 x3
set_option maxRecDepth 100000 in
theorem b8_findLevels_26_s {p : Program} {l : Launch} {e : Env} {s : State} {m : MethodId} {args : Array Value} {below : List Frame} {meth : Method} {c : Code} {D : va_G} {cI cZ cO : ClassId} {ad : Nat → Nat} {gh : rC_gh} {de : Nat} (E : rC_E D cI cZ cO ad gh (rC_K ad gh) RX8 cX8_findLevels 5 (some .boolean) p s m args meth c) (k12 : rv_Mem → Bool → Int32 → Option (Bool × rv_Mem)) (h12 : ∀ (M : rv_Mem) (x1 : Bool) (x2 : Int32), rv_M (rC_G D cI cZ cO ad gh de) (rC_K ad gh) p l e rm8_findLevels s m args below meth c 0 0 (rC_qZW D cI cZ cO ad gh de below args s) (k12 M x1 x2) 12 [some (.ref (ad 4)), some (.int (rv_i x1)), some (.int x2), none, none] [] M) (k26 : rv_Mem → Bool → Int32 → Int32 → Option (Bool × rv_Mem)) (h26 : ∀ (M : rv_Mem) (x1 : Bool) (x2 : Int32) (x3 : Int32), rv_M (rC_G D cI cZ cO ad gh de) (rC_K ad gh) p l e rm8_findLevels s m args below meth c 0 0 (rC_qZW D cI cZ cO ad gh de below args s) (k26 M x1 x2 x3) 26 [some (.ref (ad 4)), some (.int (rv_i x1)), some (.int x2), some (.int x3), none] [] M) : ∀ (M : rv_Mem) (x1 : Bool) (x2 : Int32) (x3 : Int32), rv_M (rC_G D cI cZ cO ad gh de) (rC_K ad gh) p l e rm8_findLevels s m args below meth c 0 0 (rC_qZW D cI cZ cO ad gh de below args s) (f8_findLevels_26_s gh k12 k26 M x1 x2 x3) 26 [some (.ref (ad 4)), some (.int (rv_i x1)), some (.int x2), some (.int x3), none] [] M := by
  intro M x1 x2 x3
  unfold f8_findLevels_26_s
  refine rv_iload_n (q := 27) E.x dX8_findLevels_26 rfl rfl ?_
  refine rv_aload_n (q := 28) E.x dX8_findLevels_27 rfl rfl ?_
  refine rC_getX8 (q := 31) E 4 6 wfX8_28 rfl (Nat.le_of_ble_eq_true rfl) ⟨rfl, rfl⟩ rfl dX8_findLevels_28 rfl ?_
  refine rv_icmp_ge (q := 34) (tgt := 91) E.x dX8_findLevels_31 (by decide) rfl ?_ ?_
  · refine rv_aload_n (q := 35) E.x dX8_findLevels_34 rfl rfl ?_
    refine rC_getX8 (q := 38) E 4 3 wfX8_21 rfl (Nat.le_of_ble_eq_true rfl) ⟨rfl, rfl⟩ rfl dX8_findLevels_35 rfl ?_
    refine rv_iload_n (q := 39) E.x dX8_findLevels_38 rfl rfl ?_
    refine rC_zald (q := 40) (n := 20) E ⟨rfl, rfl, rfl⟩ dX8_findLevels_39 rfl ?_
    refine rv_ifz_eq (q := 43) (tgt := 47) E.x dX8_findLevels_40 (by decide) rfl ?_ ?_
    · refine rv_iconst (q := 44) E.x dX8_findLevels_43 rv_ki0 rfl ?_
      refine rv_goto (q := 52) E.x dX8_findLevels_44 (by decide) ?_
      refine rv_wk [true, true, true, true, false] ?_
      exact b8_findLevels_52 E k12 k26 h12 h26 M x1 x2 x3 0
    · refine rv_aload_n (q := 48) E.x dX8_findLevels_47 rfl rfl ?_
      refine rv_iload_n (q := 49) E.x dX8_findLevels_48 rfl rfl ?_
      refine rv_b1 (fun r2 e1 => ?_)
      refine rC_calliX8 (q := 52) E ⟨rfl, rfl⟩ (c8_levelNeeded E.2.2.1 e1) gX8_42 hX8_levelNeeded ⟨rfl, rfl⟩ ⟨Nat.le_of_ble_eq_true rfl, Nat.le_of_ble_eq_true rfl⟩ ⟨Nat.le_of_ble_eq_true rfl, Nat.le_of_ble_eq_true rfl⟩ rfl rfl rfl (Nat.le_of_ble_eq_true rfl) dX8_findLevels_49 rfl ?_
      refine rv_wk [true, true, true, true, false] ?_
      exact b8_findLevels_52 E k12 k26 h12 h26 M x1 x2 x3 r2
  · refine rv_iinc (q := 94) (lv' := [_, _, _, _, _]) E.x dX8_findLevels_91 rv_ki1 rfl rfl rfl rfl ?_
    refine rv_goto (q := 12) E.x dX8_findLevels_94 (by decide) ?_
    refine rv_wk [true, true, true, false, false] ?_
    exact h12 M x1 (x2 + 1)
theorem b8_findLevels_26 {p : Program} {l : Launch} {e : Env} {s : State} {m : MethodId} {args : Array Value} {below : List Frame} {meth : Method} {c : Code} {D : va_G} {cI cZ cO : ClassId} {ad : Nat → Nat} {gh : rC_gh} {de : Nat} (E : rC_E D cI cZ cO ad gh (rC_K ad gh) RX8 cX8_findLevels 5 (some .boolean) p s m args meth c) (k12 : rv_Mem → Bool → Int32 → Option (Bool × rv_Mem)) (h12 : ∀ (M : rv_Mem) (x1 : Bool) (x2 : Int32), rv_M (rC_G D cI cZ cO ad gh de) (rC_K ad gh) p l e rm8_findLevels s m args below meth c 0 0 (rC_qZW D cI cZ cO ad gh de below args s) (k12 M x1 x2) 12 [some (.ref (ad 4)), some (.int (rv_i x1)), some (.int x2), none, none] [] M) : ∀ (n : Nat), ∀ (M : rv_Mem) (x1 : Bool) (x2 : Int32) (x3 : Int32), rv_M (rC_G D cI cZ cO ad gh de) (rC_K ad gh) p l e rm8_findLevels s m args below meth c 0 0 (rC_qZW D cI cZ cO ad gh de below args s) (f8_findLevels_26 gh k12 n M x1 x2 x3) 26 [some (.ref (ad 4)), some (.int (rv_i x1)), some (.int x2), some (.int x3), none] [] M := by
  intro n
  induction n with
  | zero => exact fun _ _ _ _ => rv_stuck
  | succ n ih => exact b8_findLevels_26_s E k12 h12 (f8_findLevels_26 gh k12 n) ih
set_option maxRecDepth 100000 in
theorem b8_findLevels_105_s {p : Program} {l : Launch} {e : Env} {s : State} {m : MethodId} {args : Array Value} {below : List Frame} {meth : Method} {c : Code} {D : va_G} {cI cZ cO : ClassId} {ad : Nat → Nat} {gh : rC_gh} {de : Nat} (E : rC_E D cI cZ cO ad gh (rC_K ad gh) RX8 cX8_findLevels 5 (some .boolean) p s m args meth c)   (k105 : rv_Mem → Bool → Int32 → Option (Bool × rv_Mem)) (h105 : ∀ (M : rv_Mem) (x1 : Bool) (x2 : Int32), rv_M (rC_G D cI cZ cO ad gh de) (rC_K ad gh) p l e rm8_findLevels s m args below meth c 0 0 (rC_qZW D cI cZ cO ad gh de below args s) (k105 M x1 x2) 105 [some (.ref (ad 4)), some (.int (rv_i x1)), some (.int x2), none, none] [] M) : ∀ (M : rv_Mem) (x1 : Bool) (x2 : Int32), rv_M (rC_G D cI cZ cO ad gh de) (rC_K ad gh) p l e rm8_findLevels s m args below meth c 0 0 (rC_qZW D cI cZ cO ad gh de below args s) (f8_findLevels_105_s gh k105 M x1 x2) 105 [some (.ref (ad 4)), some (.int (rv_i x1)), some (.int x2), none, none] [] M := by
  intro M x1 x2
  unfold f8_findLevels_105_s
  refine rv_iload_n (q := 106) E.x dX8_findLevels_105 rfl rfl ?_
  refine rv_bipush (q := 108) E.x dX8_findLevels_106 rv_kb16 rfl ?_
  refine rv_icmp_ge (q := 111) (tgt := 134) E.x dX8_findLevels_108 (by decide) rfl ?_ ?_
  · refine rv_aload_n (q := 112) E.x dX8_findLevels_111 rfl rfl ?_
    refine rv_aload_n (q := 113) E.x dX8_findLevels_112 rfl rfl ?_
    refine rC_getX8 (q := 116) E 4 5 wfX8_46 rfl (Nat.le_of_ble_eq_true rfl) ⟨rfl, rfl⟩ rfl dX8_findLevels_113 rfl ?_
    refine rv_aload_n (q := 117) E.x dX8_findLevels_116 rfl rfl ?_
    refine rC_getX8 (q := 120) E 4 4 wfX8_25 rfl (Nat.le_of_ble_eq_true rfl) ⟨rfl, rfl⟩ rfl dX8_findLevels_117 rfl ?_
    refine rv_iload_n (q := 121) E.x dX8_findLevels_120 rfl rfl ?_
    refine rC_iald (q := 122) (n := 16) E ⟨rfl, rfl, rfl⟩ dX8_findLevels_121 rfl ?_
    refine rC_mmax (q := 125) E wmX8_49 rfl rfl (Nat.le_of_ble_eq_true rfl) (Nat.le_of_ble_eq_true rfl) ⟨Nat.le_of_ble_eq_true rfl, Nat.le_of_ble_eq_true rfl⟩ dX8_findLevels_122 rfl ?_
    refine rC_putX8 (q := 128) E 4 5 wfX8_46 rfl (Nat.le_of_ble_eq_true rfl) ⟨rfl, rfl⟩ rfl ⟨rfl, rfl⟩ dX8_findLevels_125 rfl ?_
    refine rv_ltm (fun M1 => ?_)
    refine rv_iinc (q := 131) (lv' := [_, _, _, _, _]) E.x dX8_findLevels_128 rv_ki1 rfl rfl rfl rfl ?_
    refine rv_goto (q := 105) E.x dX8_findLevels_131 (by decide) ?_
    refine rv_wk [true, true, true, false, false] ?_
    exact h105 M1 x1 (x2 + 1)
  · refine rv_iload_n (q := 135) E.x dX8_findLevels_134 rfl rfl ?_
    refine rv_ifz_ne (q := 138) (tgt := 142) E.x dX8_findLevels_135 (by decide) rfl ?_ ?_
    · refine rv_iconst (q := 139) E.x dX8_findLevels_138 rv_ki1 rfl ?_
      refine rv_goto (q := 143) E.x dX8_findLevels_139 (by decide) ?_
      exact rC_zret E true rfl dX8_findLevels_143
    · refine rv_iconst (q := 143) E.x dX8_findLevels_142 rv_ki0 rfl ?_
      exact rC_zret E false rfl dX8_findLevels_143
theorem b8_findLevels_105 {p : Program} {l : Launch} {e : Env} {s : State} {m : MethodId} {args : Array Value} {below : List Frame} {meth : Method} {c : Code} {D : va_G} {cI cZ cO : ClassId} {ad : Nat → Nat} {gh : rC_gh} {de : Nat} (E : rC_E D cI cZ cO ad gh (rC_K ad gh) RX8 cX8_findLevels 5 (some .boolean) p s m args meth c)   : ∀ (n : Nat), ∀ (M : rv_Mem) (x1 : Bool) (x2 : Int32), rv_M (rC_G D cI cZ cO ad gh de) (rC_K ad gh) p l e rm8_findLevels s m args below meth c 0 0 (rC_qZW D cI cZ cO ad gh de below args s) (f8_findLevels_105 gh n M x1 x2) 105 [some (.ref (ad 4)), some (.int (rv_i x1)), some (.int x2), none, none] [] M := by
  intro n
  induction n with
  | zero => exact fun _ _ _ => rv_stuck
  | succ n ih => exact b8_findLevels_105_s E  (f8_findLevels_105 gh n) ih
set_option maxRecDepth 100000 in
theorem b8_findLevels_97 {p : Program} {l : Launch} {e : Env} {s : State} {m : MethodId} {args : Array Value} {below : List Frame} {meth : Method} {c : Code} {D : va_G} {cI cZ cO : ClassId} {ad : Nat → Nat} {gh : rC_gh} {de : Nat} (E : rC_E D cI cZ cO ad gh (rC_K ad gh) RX8 cX8_findLevels 5 (some .boolean) p s m args meth c)   : ∀ (M : rv_Mem) (x1 : Bool), rv_M (rC_G D cI cZ cO ad gh de) (rC_K ad gh) p l e rm8_findLevels s m args below meth c 0 0 (rC_qZW D cI cZ cO ad gh de below args s) (f8_findLevels_97 gh M x1) 97 [some (.ref (ad 4)), some (.int (rv_i x1)), none, none, none] [] M := by
  intro M x1
  unfold f8_findLevels_97
  refine rv_aload_n (q := 98) E.x dX8_findLevels_97 rfl rfl ?_
  refine rv_iconst (q := 99) E.x dX8_findLevels_98 rv_ki0 rfl ?_
  refine rC_putX8 (q := 102) E 4 5 wfX8_46 rfl (Nat.le_of_ble_eq_true rfl) ⟨rfl, rfl⟩ rfl ⟨rfl, rfl⟩ dX8_findLevels_99 rfl ?_
  refine rv_ltm (fun M1 => ?_)
  refine rv_bipush (q := 104) E.x dX8_findLevels_102 rv_kb8 rfl ?_
  refine rv_istore_n (q := 105) (lv' := [_, _, _, _, _]) E.x dX8_findLevels_104 (Nat.le_of_ble_eq_true rfl) rfl rfl rfl ?_
  refine rv_wk [true, true, true, false, false] ?_
  exact b8_findLevels_105 E rv_FU M1 x1 8
set_option maxRecDepth 100000 in
theorem b8_findLevels_12_s {p : Program} {l : Launch} {e : Env} {s : State} {m : MethodId} {args : Array Value} {below : List Frame} {meth : Method} {c : Code} {D : va_G} {cI cZ cO : ClassId} {ad : Nat → Nat} {gh : rC_gh} {de : Nat} (E : rC_E D cI cZ cO ad gh (rC_K ad gh) RX8 cX8_findLevels 5 (some .boolean) p s m args meth c)   (k12 : rv_Mem → Bool → Int32 → Option (Bool × rv_Mem)) (h12 : ∀ (M : rv_Mem) (x1 : Bool) (x2 : Int32), rv_M (rC_G D cI cZ cO ad gh de) (rC_K ad gh) p l e rm8_findLevels s m args below meth c 0 0 (rC_qZW D cI cZ cO ad gh de below args s) (k12 M x1 x2) 12 [some (.ref (ad 4)), some (.int (rv_i x1)), some (.int x2), none, none] [] M) : ∀ (M : rv_Mem) (x1 : Bool) (x2 : Int32), rv_M (rC_G D cI cZ cO ad gh de) (rC_K ad gh) p l e rm8_findLevels s m args below meth c 0 0 (rC_qZW D cI cZ cO ad gh de below args s) (f8_findLevels_12_s gh k12 M x1 x2) 12 [some (.ref (ad 4)), some (.int (rv_i x1)), some (.int x2), none, none] [] M := by
  intro M x1 x2
  unfold f8_findLevels_12_s
  refine rv_iload_n (q := 13) E.x dX8_findLevels_12 rfl rfl ?_
  refine rv_bipush (q := 15) E.x dX8_findLevels_13 rv_kb16 rfl ?_
  refine rv_icmp_gt (q := 18) (tgt := 97) E.x dX8_findLevels_15 (by decide) rfl ?_ ?_
  · refine rv_iload_n (q := 19) E.x dX8_findLevels_18 rfl rfl ?_
    refine rv_ifz_eq (q := 22) (tgt := 97) E.x dX8_findLevels_19 (by decide) rfl ?_ ?_
    · refine rv_iconst (q := 23) E.x dX8_findLevels_22 rv_ki0 rfl ?_
      refine rv_istore_n (q := 24) (lv' := [_, _, _, _, _]) E.x dX8_findLevels_23 (Nat.le_of_ble_eq_true rfl) rfl rfl rfl ?_
      refine rv_iconst (q := 25) E.x dX8_findLevels_24 rv_ki0 rfl ?_
      refine rv_istore_n (q := 26) (lv' := [_, _, _, _, _]) E.x dX8_findLevels_25 (Nat.le_of_ble_eq_true rfl) rfl rfl rfl ?_
      refine rv_wk [true, true, true, true, false] ?_
      exact b8_findLevels_26 E k12 h12 rv_FU M false x2 0
    · refine rv_wk [true, true, false, false, false] ?_
      exact b8_findLevels_97 E M x1
  · refine rv_wk [true, true, false, false, false] ?_
    exact b8_findLevels_97 E M x1
theorem b8_findLevels_12 {p : Program} {l : Launch} {e : Env} {s : State} {m : MethodId} {args : Array Value} {below : List Frame} {meth : Method} {c : Code} {D : va_G} {cI cZ cO : ClassId} {ad : Nat → Nat} {gh : rC_gh} {de : Nat} (E : rC_E D cI cZ cO ad gh (rC_K ad gh) RX8 cX8_findLevels 5 (some .boolean) p s m args meth c)   : ∀ (n : Nat), ∀ (M : rv_Mem) (x1 : Bool) (x2 : Int32), rv_M (rC_G D cI cZ cO ad gh de) (rC_K ad gh) p l e rm8_findLevels s m args below meth c 0 0 (rC_qZW D cI cZ cO ad gh de below args s) (f8_findLevels_12 gh n M x1 x2) 12 [some (.ref (ad 4)), some (.int (rv_i x1)), some (.int x2), none, none] [] M := by
  intro n
  induction n with
  | zero => exact fun _ _ _ => rv_stuck
  | succ n ih => exact b8_findLevels_12_s E  (f8_findLevels_12 gh n) ih
set_option maxRecDepth 100000 in
theorem b8_findLevels {p : Program} {l : Launch} {e : Env} {s : State} {m : MethodId} {args : Array Value} {below : List Frame} {meth : Method} {c : Code} {D : va_G} {cI cZ cO : ClassId} {ad : Nat → Nat} {gh : rC_gh} {de : Nat} (E : rC_E D cI cZ cO ad gh (rC_K ad gh) RX8 cX8_findLevels 5 (some .boolean) p s m args meth c) (M : rv_Mem)  : rv_M (rC_G D cI cZ cO ad gh de) (rC_K ad gh) p l e rm8_findLevels s m args below meth c 0 0 (rC_qZW D cI cZ cO ad gh de below args s) (f8_findLevels gh M) 0 [some (.ref (ad 4)), none, none, none, none] [] M := by
  unfold f8_findLevels
  refine rv_aload_n (q := 1) E.x dX8_findLevels_0 rfl rfl ?_
  refine rC_getX8 (q := 4) E 4 4 wfX8_25 rfl (Nat.le_of_ble_eq_true rfl) ⟨rfl, rfl⟩ rfl dX8_findLevels_1 rfl ?_
  refine rv_iconst (q := 5) E.x dX8_findLevels_4 rv_ki0 rfl ?_
  refine rv_b1 (fun M2 e1 => ?_)
  refine rC_callsv (q := 8) E (cJ_fill E.2.2.1 e1) gX8_36 hJ7_fill_53178 ⟨rfl, rfl⟩ ⟨Nat.le_of_ble_eq_true rfl, Nat.le_of_ble_eq_true rfl⟩ ⟨Nat.le_of_ble_eq_true rfl, Nat.le_of_ble_eq_true rfl⟩ rfl rfl rfl (Nat.le_of_ble_eq_true rfl) dX8_findLevels_5 rfl ?_
  refine rv_iconst (q := 9) E.x dX8_findLevels_8 rv_ki1 rfl ?_
  refine rv_istore_n (q := 10) (lv' := [_, _, _, _, _]) E.x dX8_findLevels_9 (Nat.le_of_ble_eq_true rfl) rfl rfl rfl ?_
  refine rv_iconst (q := 11) E.x dX8_findLevels_10 rv_ki0 rfl ?_
  refine rv_istore_n (q := 12) (lv' := [_, _, _, _, _]) E.x dX8_findLevels_11 (Nat.le_of_ble_eq_true rfl) rfl rfl rfl ?_
  refine rv_wk [true, true, true, false, false] ?_
  exact b8_findLevels_12 E rv_FU M2 true 0
theorem c8_findLevels {l : Launch} {D : va_G} {cI cZ cO : ClassId} {ad : Nat → Nat} {gh : rC_gh} {de : Nat} (hI : rC_I ad gh) {M : rv_Mem} {r : Bool} {M1 : rv_Mem} (h : f8_findLevels gh M = some (r, M1)) : Met l yX8_findLevels (rv_ws yX8_findLevels cX8_findLevels 5 (some .boolean)) rm8_findLevels (rC_Pc D cI cZ cO ad gh de [.ref (ad 4)] M) (rC_QI D cI cZ cO ad gh de (rv_i r) M1) 0 0 (rC_K ad gh) := rC_met hI rfl (by decide) (Nat.le_of_ble_eq_true rfl) (fun p e s m args below meth c E => ⟨(rC_qZW D cI cZ cO ad gh de below args s), rfl, b8_findLevels E M ⟩) h
abbrev rm8_tryAdd : Room := { frames := 3, cells := 0, slots := 0, locals := 77 }
set_option maxRecDepth 100000 in
theorem b8_tryAdd {p : Program} {l : Launch} {e : Env} {s : State} {m : MethodId} {args : Array Value} {below : List Frame} {meth : Method} {c : Code} {D : va_G} {cI cZ cO : ClassId} {ad : Nat → Nat} {gh : rC_gh} {de : Nat} (E : rC_E D cI cZ cO ad gh (rC_K ad gh) RX8 cX8_tryAdd 5 (some .int) p s m args meth c) (M : rv_Mem) (a1 : Int32) (a2 : Int32) (a3 : Int32) : rv_M (rC_G D cI cZ cO ad gh de) (rC_K ad gh) p l e rm8_tryAdd s m args below meth c 0 0 (rC_qIW D cI cZ cO ad gh de below args s) (f8_tryAdd gh M a1 a2 a3) 0 [some (.ref (ad 4)), some (.int a1), some (.int a2), some (.int a3), none] [] M := by
  unfold f8_tryAdd
  refine rv_aload_n (q := 1) E.x dX8_tryAdd_0 rfl rfl ?_
  refine rC_getX8 (q := 4) E 4 6 wfX8_28 rfl (Nat.le_of_ble_eq_true rfl) ⟨rfl, rfl⟩ rfl dX8_tryAdd_1 rfl ?_
  refine rv_bipush (q := 6) E.x dX8_tryAdd_4 rv_kb20 rfl ?_
  refine rv_icmp_lt (q := 9) (tgt := 11) E.x dX8_tryAdd_6 (by decide) rfl ?_ ?_
  · refine rv_iconst (q := 10) E.x dX8_tryAdd_9 rv_kim1 rfl ?_
    exact rC_iret E rfl dX8_tryAdd_10
  · refine rv_aload_n (q := 12) E.x dX8_tryAdd_11 rfl rfl ?_
    refine rC_getX8 (q := 15) E 4 6 wfX8_28 rfl (Nat.le_of_ble_eq_true rfl) ⟨rfl, rfl⟩ rfl dX8_tryAdd_12 rfl ?_
    refine rv_istore (q := 17) (lv' := [_, _, _, _, _]) E.x dX8_tryAdd_15 (Nat.le_of_ble_eq_true rfl) rfl rfl rfl ?_
    refine rv_aload_n (q := 18) E.x dX8_tryAdd_17 rfl rfl ?_
    refine rC_getX8 (q := 21) E 4 0 wfX8_9 rfl (Nat.le_of_ble_eq_true rfl) ⟨rfl, rfl⟩ rfl dX8_tryAdd_18 rfl ?_
    refine rv_iload (q := 23) E.x dX8_tryAdd_21 rfl rfl ?_
    refine rv_iload_n (q := 24) E.x dX8_tryAdd_23 rfl rfl ?_
    refine rC_iast (q := 25) (n := 20) E ⟨rfl, rfl, rfl⟩ dX8_tryAdd_24 rfl ?_
    refine rv_ltm (fun M1 => ?_)
    refine rv_aload_n (q := 26) E.x dX8_tryAdd_25 rfl rfl ?_
    refine rC_getX8 (q := 29) E 4 1 wfX8_15 rfl (Nat.le_of_ble_eq_true rfl) ⟨rfl, rfl⟩ rfl dX8_tryAdd_26 rfl ?_
    refine rv_iload (q := 31) E.x dX8_tryAdd_29 rfl rfl ?_
    refine rv_iload_n (q := 32) E.x dX8_tryAdd_31 rfl rfl ?_
    refine rC_iast (q := 33) (n := 20) E ⟨rfl, rfl, rfl⟩ dX8_tryAdd_32 rfl ?_
    refine rv_ltm (fun M2 => ?_)
    refine rv_aload_n (q := 34) E.x dX8_tryAdd_33 rfl rfl ?_
    refine rC_getX8 (q := 37) E 4 2 wfX8_18 rfl (Nat.le_of_ble_eq_true rfl) ⟨rfl, rfl⟩ rfl dX8_tryAdd_34 rfl ?_
    refine rv_iload (q := 39) E.x dX8_tryAdd_37 rfl rfl ?_
    refine rv_iload_n (q := 40) E.x dX8_tryAdd_39 rfl rfl ?_
    refine rC_iast (q := 41) (n := 20) E ⟨rfl, rfl, rfl⟩ dX8_tryAdd_40 rfl ?_
    refine rv_ltm (fun M3 => ?_)
    refine rv_aload_n (q := 42) E.x dX8_tryAdd_41 rfl rfl ?_
    refine rC_getX8 (q := 45) E 4 3 wfX8_21 rfl (Nat.le_of_ble_eq_true rfl) ⟨rfl, rfl⟩ rfl dX8_tryAdd_42 rfl ?_
    refine rv_iload (q := 47) E.x dX8_tryAdd_45 rfl rfl ?_
    refine rv_iconst (q := 48) E.x dX8_tryAdd_47 rv_ki0 rfl ?_
    refine rC_zast (q := 49) (n := 20) E false ⟨rfl, rfl, rfl⟩ dX8_tryAdd_48 rfl ?_
    refine rv_ltm (fun M4 => ?_)
    refine rv_aload_n (q := 50) E.x dX8_tryAdd_49 rfl rfl ?_
    refine rv_dup (q := 51) E.x dX8_tryAdd_50 rfl rfl ?_
    refine rC_getX8 (q := 54) E 4 6 wfX8_28 rfl (Nat.le_of_ble_eq_true rfl) ⟨rfl, rfl⟩ rfl dX8_tryAdd_51 rfl ?_
    refine rv_iconst (q := 55) E.x dX8_tryAdd_54 rv_ki1 rfl ?_
    refine rv_iadd (q := 56) E.x dX8_tryAdd_55 rfl ?_
    refine rC_putX8 (q := 59) E 4 6 wfX8_28 rfl (Nat.le_of_ble_eq_true rfl) ⟨rfl, rfl⟩ rfl ⟨rfl, rfl⟩ dX8_tryAdd_56 rfl ?_
    refine rv_ltm (fun M5 => ?_)
    refine rv_aload_n (q := 60) E.x dX8_tryAdd_59 rfl rfl ?_
    refine rv_b2 (fun r7 M8 e6 => ?_)
    refine rC_calliX8 (q := 63) E ⟨rfl, rfl⟩ (c8_findLevels E.2.2.1 e6) gX8_32 hX8_findLevels ⟨rfl, rfl⟩ ⟨Nat.le_of_ble_eq_true rfl, Nat.le_of_ble_eq_true rfl⟩ ⟨Nat.le_of_ble_eq_true rfl, Nat.le_of_ble_eq_true rfl⟩ rfl rfl rfl (Nat.le_of_ble_eq_true rfl) dX8_tryAdd_60 rfl ?_
    refine rv_ifz_ne (q := 66) (tgt := 83) E.x dX8_tryAdd_63 (by decide) rfl ?_ ?_
    · refine rv_aload_n (q := 67) E.x dX8_tryAdd_66 rfl rfl ?_
      refine rv_dup (q := 68) E.x dX8_tryAdd_67 rfl rfl ?_
      refine rC_getX8 (q := 71) E 4 6 wfX8_28 rfl (Nat.le_of_ble_eq_true rfl) ⟨rfl, rfl⟩ rfl dX8_tryAdd_68 rfl ?_
      refine rv_iconst (q := 72) E.x dX8_tryAdd_71 rv_ki1 rfl ?_
      refine rv_isub (q := 73) E.x dX8_tryAdd_72 rfl ?_
      refine rC_putX8 (q := 76) E 4 6 wfX8_28 rfl (Nat.le_of_ble_eq_true rfl) ⟨rfl, rfl⟩ rfl ⟨rfl, rfl⟩ dX8_tryAdd_73 rfl ?_
      refine rv_ltm (fun M9 => ?_)
      refine rv_aload_n (q := 77) E.x dX8_tryAdd_76 rfl rfl ?_
      refine rv_b2 (fun r11 M12 e10 => ?_)
      refine rC_calliX8 (q := 80) E ⟨rfl, rfl⟩ (c8_findLevels E.2.2.1 e10) gX8_32 hX8_findLevels ⟨rfl, rfl⟩ ⟨Nat.le_of_ble_eq_true rfl, Nat.le_of_ble_eq_true rfl⟩ ⟨Nat.le_of_ble_eq_true rfl, Nat.le_of_ble_eq_true rfl⟩ rfl rfl rfl (Nat.le_of_ble_eq_true rfl) dX8_tryAdd_77 rfl ?_
      refine rv_pop (q := 81) E.x dX8_tryAdd_80 rfl rfl ?_
      refine rv_iconst (q := 82) E.x dX8_tryAdd_81 rv_kim1 rfl ?_
      exact rC_iret E rfl dX8_tryAdd_82
    · refine rv_iload (q := 85) E.x dX8_tryAdd_83 rfl rfl ?_
      exact rC_iret E rfl dX8_tryAdd_85
theorem c8_tryAdd {l : Launch} {D : va_G} {cI cZ cO : ClassId} {ad : Nat → Nat} {gh : rC_gh} {de : Nat} (hI : rC_I ad gh) {M : rv_Mem} {a1 : Int32} {a2 : Int32} {a3 : Int32} {r : Int32} {M1 : rv_Mem} (h : f8_tryAdd gh M a1 a2 a3 = some (r, M1)) : Met l yX8_tryAdd (rv_ws yX8_tryAdd cX8_tryAdd 5 (some .int)) rm8_tryAdd (rC_Pc D cI cZ cO ad gh de [.ref (ad 4), .int a1, .int a2, .int a3] M) (rC_QI D cI cZ cO ad gh de r M1) 0 0 (rC_K ad gh) := rC_met hI rfl (by decide) (Nat.le_of_ble_eq_true rfl) (fun p e s m args below meth c E => ⟨(rC_qIW D cI cZ cO ad gh de below args s), rfl, b8_tryAdd E M a1 a2 a3⟩) h
abbrev rm8_tryDrop : Room := { frames := 3, cells := 0, slots := 0, locals := 77 }
set_option maxRecDepth 100000 in
theorem b8_tryDrop {p : Program} {l : Launch} {e : Env} {s : State} {m : MethodId} {args : Array Value} {below : List Frame} {meth : Method} {c : Code} {D : va_G} {cI cZ cO : ClassId} {ad : Nat → Nat} {gh : rC_gh} {de : Nat} (E : rC_E D cI cZ cO ad gh (rC_K ad gh) RX8 cX8_tryDrop 2 (some .int) p s m args meth c) (M : rv_Mem) (a1 : Int32) : rv_M (rC_G D cI cZ cO ad gh de) (rC_K ad gh) p l e rm8_tryDrop s m args below meth c 0 0 (rC_qIW D cI cZ cO ad gh de below args s) (f8_tryDrop gh M a1) 0 [some (.ref (ad 4)), some (.int a1)] [] M := by
  unfold f8_tryDrop
  refine rv_iload_n (q := 1) E.x dX8_tryDrop_0 rfl rfl ?_
  refine rv_if_lt (q := 4) (tgt := 21) E.x dX8_tryDrop_1 (by decide) rfl ?_ ?_
  · refine rv_iload_n (q := 5) E.x dX8_tryDrop_4 rfl rfl ?_
    refine rv_aload_n (q := 6) E.x dX8_tryDrop_5 rfl rfl ?_
    refine rC_getX8 (q := 9) E 4 6 wfX8_28 rfl (Nat.le_of_ble_eq_true rfl) ⟨rfl, rfl⟩ rfl dX8_tryDrop_6 rfl ?_
    refine rv_icmp_ge (q := 12) (tgt := 21) E.x dX8_tryDrop_9 (by decide) rfl ?_ ?_
    · refine rv_aload_n (q := 13) E.x dX8_tryDrop_12 rfl rfl ?_
      refine rC_getX8 (q := 16) E 4 3 wfX8_21 rfl (Nat.le_of_ble_eq_true rfl) ⟨rfl, rfl⟩ rfl dX8_tryDrop_13 rfl ?_
      refine rv_iload_n (q := 17) E.x dX8_tryDrop_16 rfl rfl ?_
      refine rC_zald (q := 18) (n := 20) E ⟨rfl, rfl, rfl⟩ dX8_tryDrop_17 rfl ?_
      refine rv_ifz_eq (q := 21) (tgt := 23) E.x dX8_tryDrop_18 (by decide) rfl ?_ ?_
      · refine rv_iconst (q := 22) E.x dX8_tryDrop_21 rv_kim1 rfl ?_
        exact rC_iret E rfl dX8_tryDrop_22
      · refine rv_aload_n (q := 24) E.x dX8_tryDrop_23 rfl rfl ?_
        refine rC_getX8 (q := 27) E 4 3 wfX8_21 rfl (Nat.le_of_ble_eq_true rfl) ⟨rfl, rfl⟩ rfl dX8_tryDrop_24 rfl ?_
        refine rv_iload_n (q := 28) E.x dX8_tryDrop_27 rfl rfl ?_
        refine rv_iconst (q := 29) E.x dX8_tryDrop_28 rv_ki1 rfl ?_
        refine rC_zast (q := 30) (n := 20) E true ⟨rfl, rfl, rfl⟩ dX8_tryDrop_29 rfl ?_
        refine rv_ltm (fun M1 => ?_)
        refine rv_aload_n (q := 31) E.x dX8_tryDrop_30 rfl rfl ?_
        refine rv_b2 (fun r3 M4 e2 => ?_)
        refine rC_calliX8 (q := 34) E ⟨rfl, rfl⟩ (c8_findLevels E.2.2.1 e2) gX8_32 hX8_findLevels ⟨rfl, rfl⟩ ⟨Nat.le_of_ble_eq_true rfl, Nat.le_of_ble_eq_true rfl⟩ ⟨Nat.le_of_ble_eq_true rfl, Nat.le_of_ble_eq_true rfl⟩ rfl rfl rfl (Nat.le_of_ble_eq_true rfl) dX8_tryDrop_31 rfl ?_
        refine rv_pop (q := 35) E.x dX8_tryDrop_34 rfl rfl ?_
        refine rv_aload_n (q := 36) E.x dX8_tryDrop_35 rfl rfl ?_
        refine rC_getX8 (q := 39) E 4 0 wfX8_9 rfl (Nat.le_of_ble_eq_true rfl) ⟨rfl, rfl⟩ rfl dX8_tryDrop_36 rfl ?_
        refine rv_iload_n (q := 40) E.x dX8_tryDrop_39 rfl rfl ?_
        refine rC_iald (q := 41) (n := 20) E ⟨rfl, rfl, rfl⟩ dX8_tryDrop_40 rfl ?_
        exact rC_iret E rfl dX8_tryDrop_41
    · refine rv_iconst (q := 22) E.x dX8_tryDrop_21 rv_kim1 rfl ?_
      exact rC_iret E rfl dX8_tryDrop_22
  · refine rv_iconst (q := 22) E.x dX8_tryDrop_21 rv_kim1 rfl ?_
    exact rC_iret E rfl dX8_tryDrop_22
theorem c8_tryDrop {l : Launch} {D : va_G} {cI cZ cO : ClassId} {ad : Nat → Nat} {gh : rC_gh} {de : Nat} (hI : rC_I ad gh) {M : rv_Mem} {a1 : Int32} {r : Int32} {M1 : rv_Mem} (h : f8_tryDrop gh M a1 = some (r, M1)) : Met l yX8_tryDrop (rv_ws yX8_tryDrop cX8_tryDrop 2 (some .int)) rm8_tryDrop (rC_Pc D cI cZ cO ad gh de [.ref (ad 4), .int a1] M) (rC_QI D cI cZ cO ad gh de r M1) 0 0 (rC_K ad gh) := rC_met hI rfl (by decide) (Nat.le_of_ble_eq_true rfl) (fun p e s m args below meth c E => ⟨(rC_qIW D cI cZ cO ad gh de below args s), rfl, b8_tryDrop E M a1⟩) h
abbrev rm8_followOnce : Room := { frames := 0, cells := 0, slots := 0, locals := 0 }
set_option maxRecDepth 100000 in
theorem b8_followOnce_90 {p : Program} {l : Launch} {e : Env} {s : State} {m : MethodId} {args : Array Value} {below : List Frame} {meth : Method} {c : Code} {D : va_G} {cI cZ cO : ClassId} {ad : Nat → Nat} {gh : rC_gh} {de : Nat} (E : rC_E D cI cZ cO ad gh (rC_K ad gh) RX8 cX8_followOnce 6 (some .int) p s m args meth c) (M : rv_Mem) (k5 : Int32 → Int32 → Int32 → Option (Int32)) (h5 : ∀ (x2 : Int32) (x3 : Int32) (x4 : Int32), rv_M (rC_G D cI cZ cO ad gh de) (rC_K ad gh) p l e rm8_followOnce s m args below meth c 0 0 (rC_qI D cI cZ cO ad gh de below args s M) (k5 x2 x3 x4) 5 [some (.ref (ad 4)), none, some (.int x2), some (.int x3), some (.int x4), none] [] M) : ∀ (x2 : Int32) (x3 : Int32) (x4 : Int32), rv_M (rC_G D cI cZ cO ad gh de) (rC_K ad gh) p l e rm8_followOnce s m args below meth c 0 0 (rC_qI D cI cZ cO ad gh de below args s M) (f8_followOnce_90 gh M k5 x2 x3 x4) 90 [some (.ref (ad 4)), none, some (.int x2), some (.int x3), some (.int x4), none] [] M := by
  intro x2 x3 x4
  unfold f8_followOnce_90
  refine rv_iinc (q := 93) (lv' := [_, _, _, _, _, _]) E.x dX8_followOnce_90 rv_ki1 rfl rfl rfl rfl ?_
  refine rv_goto (q := 5) E.x dX8_followOnce_93 (by decide) ?_
  refine rv_wk [true, false, true, true, true, false] ?_
  exact h5 x2 x3 (x4 + 1)
set_option maxRecDepth 100000 in
theorem b8_followOnce_45 {p : Program} {l : Launch} {e : Env} {s : State} {m : MethodId} {args : Array Value} {below : List Frame} {meth : Method} {c : Code} {D : va_G} {cI cZ cO : ClassId} {ad : Nat → Nat} {gh : rC_gh} {de : Nat} (E : rC_E D cI cZ cO ad gh (rC_K ad gh) RX8 cX8_followOnce 6 (some .int) p s m args meth c) (M : rv_Mem) (k5 : Int32 → Int32 → Int32 → Option (Int32)) (h5 : ∀ (x2 : Int32) (x3 : Int32) (x4 : Int32), rv_M (rC_G D cI cZ cO ad gh de) (rC_K ad gh) p l e rm8_followOnce s m args below meth c 0 0 (rC_qI D cI cZ cO ad gh de below args s M) (k5 x2 x3 x4) 5 [some (.ref (ad 4)), none, some (.int x2), some (.int x3), some (.int x4), none] [] M) : ∀ (x2 : Int32) (x3 : Int32) (x4 : Int32) (s0 : Bool), rv_M (rC_G D cI cZ cO ad gh de) (rC_K ad gh) p l e rm8_followOnce s m args below meth c 0 0 (rC_qI D cI cZ cO ad gh de below args s M) (f8_followOnce_45 gh M k5 x2 x3 x4 s0) 45 [some (.ref (ad 4)), none, some (.int x2), some (.int x3), some (.int x4), none] [.int (rv_i s0)] M := by
  intro x2 x3 x4 s0
  unfold f8_followOnce_45
  refine rv_istore (q := 47) (lv' := [_, _, _, _, _, _]) E.x dX8_followOnce_45 (Nat.le_of_ble_eq_true rfl) rfl rfl rfl ?_
  refine rv_iload (q := 49) E.x dX8_followOnce_47 rfl rfl ?_
  refine rv_ifz_eq (q := 52) (tgt := 90) E.x dX8_followOnce_49 (by decide) rfl ?_ ?_
  · refine rv_aload_n (q := 53) E.x dX8_followOnce_52 rfl rfl ?_
    refine rC_getX8 (q := 56) E 4 1 wfX8_15 rfl (Nat.le_of_ble_eq_true rfl) ⟨rfl, rfl⟩ rfl dX8_followOnce_53 rfl ?_
    refine rv_iload (q := 58) E.x dX8_followOnce_56 rfl rfl ?_
    refine rC_iald (q := 59) (n := 20) E ⟨rfl, rfl, rfl⟩ dX8_followOnce_58 rfl ?_
    refine rv_iload_n (q := 60) E.x dX8_followOnce_59 rfl rfl ?_
    refine rv_iconst (q := 61) E.x dX8_followOnce_60 rv_kim1 rfl ?_
    refine rv_ixor (q := 62) E.x dX8_followOnce_61 rfl ?_
    refine rv_iand (q := 63) E.x dX8_followOnce_62 rfl ?_
    refine rv_if_ne (q := 66) (tgt := 90) E.x dX8_followOnce_63 (by decide) rfl ?_ ?_
    · refine rv_aload_n (q := 67) E.x dX8_followOnce_66 rfl rfl ?_
      refine rC_getX8 (q := 70) E 4 2 wfX8_18 rfl (Nat.le_of_ble_eq_true rfl) ⟨rfl, rfl⟩ rfl dX8_followOnce_67 rfl ?_
      refine rv_iload (q := 72) E.x dX8_followOnce_70 rfl rfl ?_
      refine rC_iald (q := 73) (n := 20) E ⟨rfl, rfl, rfl⟩ dX8_followOnce_72 rfl ?_
      refine rv_iload_n (q := 74) E.x dX8_followOnce_73 rfl rfl ?_
      refine rv_iand (q := 75) E.x dX8_followOnce_74 rfl ?_
      refine rv_if_ne (q := 78) (tgt := 90) E.x dX8_followOnce_75 (by decide) rfl ?_ ?_
      · refine rv_iload_n (q := 79) E.x dX8_followOnce_78 rfl rfl ?_
        refine rv_iconst (q := 80) E.x dX8_followOnce_79 rv_ki1 rfl ?_
        refine rv_aload_n (q := 81) E.x dX8_followOnce_80 rfl rfl ?_
        refine rC_getX8 (q := 84) E 4 0 wfX8_9 rfl (Nat.le_of_ble_eq_true rfl) ⟨rfl, rfl⟩ rfl dX8_followOnce_81 rfl ?_
        refine rv_iload (q := 86) E.x dX8_followOnce_84 rfl rfl ?_
        refine rC_iald (q := 87) (n := 20) E ⟨rfl, rfl, rfl⟩ dX8_followOnce_86 rfl ?_
        refine rv_ishl (q := 88) E.x dX8_followOnce_87 rfl ?_
        refine rv_ior (q := 89) E.x dX8_followOnce_88 rfl ?_
        refine rv_istore_n (q := 90) (lv' := [_, _, _, _, _, _]) E.x dX8_followOnce_89 (Nat.le_of_ble_eq_true rfl) rfl rfl rfl ?_
        refine rv_wk [true, false, true, true, true, false] ?_
        exact b8_followOnce_90 E M k5 h5 x2 (x3 ||| ((1 : Int32) <<< ((M 43 (x4).toNatClampNeg) &&& 31))) x4
      · refine rv_wk [true, false, true, true, true, false] ?_
        exact b8_followOnce_90 E M k5 h5 x2 x3 x4
    · refine rv_wk [true, false, true, true, true, false] ?_
      exact b8_followOnce_90 E M k5 h5 x2 x3 x4
  · refine rv_wk [true, false, true, true, true, false] ?_
    exact b8_followOnce_90 E M k5 h5 x2 x3 x4
set_option maxRecDepth 100000 in
theorem b8_followOnce_44 {p : Program} {l : Launch} {e : Env} {s : State} {m : MethodId} {args : Array Value} {below : List Frame} {meth : Method} {c : Code} {D : va_G} {cI cZ cO : ClassId} {ad : Nat → Nat} {gh : rC_gh} {de : Nat} (E : rC_E D cI cZ cO ad gh (rC_K ad gh) RX8 cX8_followOnce 6 (some .int) p s m args meth c) (M : rv_Mem) (k5 : Int32 → Int32 → Int32 → Option (Int32)) (h5 : ∀ (x2 : Int32) (x3 : Int32) (x4 : Int32), rv_M (rC_G D cI cZ cO ad gh de) (rC_K ad gh) p l e rm8_followOnce s m args below meth c 0 0 (rC_qI D cI cZ cO ad gh de below args s M) (k5 x2 x3 x4) 5 [some (.ref (ad 4)), none, some (.int x2), some (.int x3), some (.int x4), none] [] M) : ∀ (x2 : Int32) (x3 : Int32) (x4 : Int32), rv_M (rC_G D cI cZ cO ad gh de) (rC_K ad gh) p l e rm8_followOnce s m args below meth c 0 0 (rC_qI D cI cZ cO ad gh de below args s M) (f8_followOnce_44 gh M k5 x2 x3 x4) 44 [some (.ref (ad 4)), none, some (.int x2), some (.int x3), some (.int x4), none] [] M := by
  intro x2 x3 x4
  unfold f8_followOnce_44
  refine rv_iconst (q := 45) E.x dX8_followOnce_44 rv_ki0 rfl ?_
  refine rv_wk [true, false, true, true, true, false] ?_
  exact b8_followOnce_45 E M k5 h5 x2 x3 x4 false
set_option maxRecDepth 100000 in
theorem b8_followOnce_5_s {p : Program} {l : Launch} {e : Env} {s : State} {m : MethodId} {args : Array Value} {below : List Frame} {meth : Method} {c : Code} {D : va_G} {cI cZ cO : ClassId} {ad : Nat → Nat} {gh : rC_gh} {de : Nat} (E : rC_E D cI cZ cO ad gh (rC_K ad gh) RX8 cX8_followOnce 6 (some .int) p s m args meth c) (M : rv_Mem)   (k5 : Int32 → Int32 → Int32 → Option (Int32)) (h5 : ∀ (x2 : Int32) (x3 : Int32) (x4 : Int32), rv_M (rC_G D cI cZ cO ad gh de) (rC_K ad gh) p l e rm8_followOnce s m args below meth c 0 0 (rC_qI D cI cZ cO ad gh de below args s M) (k5 x2 x3 x4) 5 [some (.ref (ad 4)), none, some (.int x2), some (.int x3), some (.int x4), none] [] M) : ∀ (x2 : Int32) (x3 : Int32) (x4 : Int32), rv_M (rC_G D cI cZ cO ad gh de) (rC_K ad gh) p l e rm8_followOnce s m args below meth c 0 0 (rC_qI D cI cZ cO ad gh de below args s M) (f8_followOnce_5_s gh M k5 x2 x3 x4) 5 [some (.ref (ad 4)), none, some (.int x2), some (.int x3), some (.int x4), none] [] M := by
  intro x2 x3 x4
  unfold f8_followOnce_5_s
  refine rv_iload (q := 7) E.x dX8_followOnce_5 rfl rfl ?_
  refine rv_aload_n (q := 8) E.x dX8_followOnce_7 rfl rfl ?_
  refine rC_getX8 (q := 11) E 4 6 wfX8_28 rfl (Nat.le_of_ble_eq_true rfl) ⟨rfl, rfl⟩ rfl dX8_followOnce_8 rfl ?_
  refine rv_icmp_ge (q := 14) (tgt := 96) E.x dX8_followOnce_11 (by decide) rfl ?_ ?_
  · refine rv_aload_n (q := 15) E.x dX8_followOnce_14 rfl rfl ?_
    refine rC_getX8 (q := 18) E 4 3 wfX8_21 rfl (Nat.le_of_ble_eq_true rfl) ⟨rfl, rfl⟩ rfl dX8_followOnce_15 rfl ?_
    refine rv_iload (q := 20) E.x dX8_followOnce_18 rfl rfl ?_
    refine rC_zald (q := 21) (n := 20) E ⟨rfl, rfl, rfl⟩ dX8_followOnce_20 rfl ?_
    refine rv_ifz_ne (q := 24) (tgt := 44) E.x dX8_followOnce_21 (by decide) rfl ?_ ?_
    · refine rv_aload_n (q := 25) E.x dX8_followOnce_24 rfl rfl ?_
      refine rC_getX8 (q := 28) E 4 4 wfX8_25 rfl (Nat.le_of_ble_eq_true rfl) ⟨rfl, rfl⟩ rfl dX8_followOnce_25 rfl ?_
      refine rv_aload_n (q := 29) E.x dX8_followOnce_28 rfl rfl ?_
      refine rC_getX8 (q := 32) E 4 0 wfX8_9 rfl (Nat.le_of_ble_eq_true rfl) ⟨rfl, rfl⟩ rfl dX8_followOnce_29 rfl ?_
      refine rv_iload (q := 34) E.x dX8_followOnce_32 rfl rfl ?_
      refine rC_iald (q := 35) (n := 20) E ⟨rfl, rfl, rfl⟩ dX8_followOnce_34 rfl ?_
      refine rC_iald (q := 36) (n := 16) E ⟨rfl, rfl, rfl⟩ dX8_followOnce_35 rfl ?_
      refine rv_iload_n (q := 37) E.x dX8_followOnce_36 rfl rfl ?_
      refine rv_icmp_ne (q := 40) (tgt := 44) E.x dX8_followOnce_37 (by decide) rfl ?_ ?_
      · refine rv_iconst (q := 41) E.x dX8_followOnce_40 rv_ki1 rfl ?_
        refine rv_goto (q := 45) E.x dX8_followOnce_41 (by decide) ?_
        refine rv_wk [true, false, true, true, true, false] ?_
        exact b8_followOnce_45 E M k5 h5 x2 x3 x4 true
      · refine rv_wk [true, false, true, true, true, false] ?_
        exact b8_followOnce_44 E M k5 h5 x2 x3 x4
    · refine rv_wk [true, false, true, true, true, false] ?_
      exact b8_followOnce_44 E M k5 h5 x2 x3 x4
  · refine rv_iload_n (q := 97) E.x dX8_followOnce_96 rfl rfl ?_
    exact rC_iret E rfl dX8_followOnce_97
theorem b8_followOnce_5 {p : Program} {l : Launch} {e : Env} {s : State} {m : MethodId} {args : Array Value} {below : List Frame} {meth : Method} {c : Code} {D : va_G} {cI cZ cO : ClassId} {ad : Nat → Nat} {gh : rC_gh} {de : Nat} (E : rC_E D cI cZ cO ad gh (rC_K ad gh) RX8 cX8_followOnce 6 (some .int) p s m args meth c) (M : rv_Mem)   : ∀ (n : Nat), ∀ (x2 : Int32) (x3 : Int32) (x4 : Int32), rv_M (rC_G D cI cZ cO ad gh de) (rC_K ad gh) p l e rm8_followOnce s m args below meth c 0 0 (rC_qI D cI cZ cO ad gh de below args s M) (f8_followOnce_5 gh M n x2 x3 x4) 5 [some (.ref (ad 4)), none, some (.int x2), some (.int x3), some (.int x4), none] [] M := by
  intro n
  induction n with
  | zero => exact fun _ _ _ => rv_stuck
  | succ n ih => exact b8_followOnce_5_s E M (f8_followOnce_5 gh M n) ih
set_option maxRecDepth 100000 in
theorem b8_followOnce {p : Program} {l : Launch} {e : Env} {s : State} {m : MethodId} {args : Array Value} {below : List Frame} {meth : Method} {c : Code} {D : va_G} {cI cZ cO : ClassId} {ad : Nat → Nat} {gh : rC_gh} {de : Nat} (E : rC_E D cI cZ cO ad gh (rC_K ad gh) RX8 cX8_followOnce 6 (some .int) p s m args meth c) (M : rv_Mem) (a1 : Int32) (a2 : Int32) : rv_M (rC_G D cI cZ cO ad gh de) (rC_K ad gh) p l e rm8_followOnce s m args below meth c 0 0 (rC_qI D cI cZ cO ad gh de below args s M) (f8_followOnce gh M a1 a2) 0 [some (.ref (ad 4)), some (.int a1), some (.int a2), none, none, none] [] M := by
  unfold f8_followOnce
  refine rv_iload_n (q := 1) E.x dX8_followOnce_0 rfl rfl ?_
  refine rv_istore_n (q := 2) (lv' := [_, _, _, _, _, _]) E.x dX8_followOnce_1 (Nat.le_of_ble_eq_true rfl) rfl rfl rfl ?_
  refine rv_iconst (q := 3) E.x dX8_followOnce_2 rv_ki0 rfl ?_
  refine rv_istore (q := 5) (lv' := [_, _, _, _, _, _]) E.x dX8_followOnce_3 (Nat.le_of_ble_eq_true rfl) rfl rfl rfl ?_
  refine rv_wk [true, false, true, true, true, false] ?_
  exact b8_followOnce_5 E M rv_FU a2 a1 0
theorem c8_followOnce {l : Launch} {D : va_G} {cI cZ cO : ClassId} {ad : Nat → Nat} {gh : rC_gh} {de : Nat} (hI : rC_I ad gh) {M : rv_Mem} {a1 : Int32} {a2 : Int32} {r : Int32} (h : f8_followOnce gh M a1 a2 = some r) : Met l yX8_followOnce (rv_ws yX8_followOnce cX8_followOnce 6 (some .int)) rm8_followOnce (rC_Pc D cI cZ cO ad gh de [.ref (ad 4), .int a1, .int a2] M) (rC_QI D cI cZ cO ad gh de r M) 0 0 (rC_K ad gh) := rC_met hI rfl (by decide) (Nat.le_of_ble_eq_true rfl) (fun p e s m args below meth c E => ⟨(rC_qI D cI cZ cO ad gh de below args s M), rfl, b8_followOnce E M a1 a2⟩) h
