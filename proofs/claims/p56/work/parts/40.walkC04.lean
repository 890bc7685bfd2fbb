abbrev rm8_follow : Room := { frames := 1, cells := 0, slots := 0, locals := 25 }
set_option maxRecDepth 100000 in
theorem b8_follow_57 {p : Program} {l : Launch} {e : Env} {s : State} {m : MethodId} {args : Array Value} {below : List Frame} {meth : Method} {c : Code} {D : va_G} {cI cZ cO : ClassId} {ad : Nat → Nat} {gh : rC_gh} {de : Nat} (E : rC_E D cI cZ cO ad gh (rC_K ad gh) RX8 cX8_follow 7 (some .int) p s m args meth c) (M : rv_Mem) (k4 : Int32 → Int32 → Option (Int32)) (k24 : Int32 → Int32 → Bool → Int32 → Option (Int32)) (h4 : ∀ (x2 : Int32) (x3 : Int32), rv_M (rC_G D cI cZ cO ad gh de) (rC_K ad gh) p l e rm8_follow s m args below meth c 0 0 (rC_qI D cI cZ cO ad gh de below args s M) (k4 x2 x3) 4 [some (.ref (ad 4)), none, some (.int x2), some (.int x3), none, none, none] [] M) (h24 : ∀ (x2 : Int32) (x3 : Int32) (x4 : Bool) (x5 : Int32), rv_M (rC_G D cI cZ cO ad gh de) (rC_K ad gh) p l e rm8_follow s m args below meth c 0 0 (rC_qI D cI cZ cO ad gh de below args s M) (k24 x2 x3 x4 x5) 24 [some (.ref (ad 4)), none, some (.int x2), some (.int x3), some (.int (rv_i x4)), some (.int x5), none] [] M) : ∀ (x2 : Int32) (x3 : Int32) (x5 : Int32) (s0 : Bool), rv_M (rC_G D cI cZ cO ad gh de) (rC_K ad gh) p l e rm8_follow s m args below meth c 0 0 (rC_qI D cI cZ cO ad gh de below args s M) (f8_follow_57 gh M k4 k24 x2 x3 x5 s0) 57 [some (.ref (ad 4)), none, some (.int x2), some (.int x3), none, some (.int x5), none] [.int (rv_i s0)] M := by
  intro x2 x3 x5 s0
  unfold f8_follow_57
  refine rv_istore (q := 59) (lv' := [_, _, _, _, _, _, _]) E.x dX8_follow_57 (Nat.le_of_ble_eq_true rfl) rfl rfl rfl ?_
  refine rv_iinc (q := 62) (lv' := [_, _, _, _, _, _, _]) E.x dX8_follow_59 rv_ki1 rfl rfl rfl rfl ?_
  refine rv_goto (q := 24) E.x dX8_follow_62 (by decide) ?_
  refine rv_wk [true, false, true, true, true, true, false] ?_
  exact h24 x2 x3 s0 (x5 + 1)
set_option maxRecDepth 100000 in
theorem b8_follow_65 {p : Program} {l : Launch} {e : Env} {s : State} {m : MethodId} {args : Array Value} {below : List Frame} {meth : Method} {c : Code} {D : va_G} {cI cZ cO : ClassId} {ad : Nat → Nat} {gh : rC_gh} {de : Nat} (E : rC_E D cI cZ cO ad gh (rC_K ad gh) RX8 cX8_follow 7 (some .int) p s m args meth c) (M : rv_Mem) (k4 : Int32 → Int32 → Option (Int32)) (h4 : ∀ (x2 : Int32) (x3 : Int32), rv_M (rC_G D cI cZ cO ad gh de) (rC_K ad gh) p l e rm8_follow s m args below meth c 0 0 (rC_qI D cI cZ cO ad gh de below args s M) (k4 x2 x3) 4 [some (.ref (ad 4)), none, some (.int x2), some (.int x3), none, none, none] [] M) : ∀ (x2 : Int32) (x3 : Int32), rv_M (rC_G D cI cZ cO ad gh de) (rC_K ad gh) p l e rm8_follow s m args below meth c 0 0 (rC_qI D cI cZ cO ad gh de below args s M) (f8_follow_65 gh M k4 x2 x3) 65 [some (.ref (ad 4)), none, some (.int x2), some (.int x3), none, none, none] [] M := by
  intro x2 x3
  unfold f8_follow_65
  refine rv_iinc (q := 68) (lv' := [_, _, _, _, _, _, _]) E.x dX8_follow_65 rv_ki1 rfl rfl rfl rfl ?_
  refine rv_goto (q := 4) E.x dX8_follow_68 (by decide) ?_
  refine rv_wk [true, false, true, true, false, false, false] ?_
  exact h4 x2 (x3 + 1)
set_option maxRecDepth 100000 in
theorem b8_follow_24_s {p : Program} {l : Launch} {e : Env} {s : State} {m : MethodId} {args : Array Value} {below : List Frame} {meth : Method} {c : Code} {D : va_G} {cI cZ cO : ClassId} {ad : Nat → Nat} {gh : rC_gh} {de : Nat} (E : rC_E D cI cZ cO ad gh (rC_K ad gh) RX8 cX8_follow 7 (some .int) p s m args meth c) (M : rv_Mem) (k4 : Int32 → Int32 → Option (Int32)) (h4 : ∀ (x2 : Int32) (x3 : Int32), rv_M (rC_G D cI cZ cO ad gh de) (rC_K ad gh) p l e rm8_follow s m args below meth c 0 0 (rC_qI D cI cZ cO ad gh de below args s M) (k4 x2 x3) 4 [some (.ref (ad 4)), none, some (.int x2), some (.int x3), none, none, none] [] M) (k24 : Int32 → Int32 → Bool → Int32 → Option (Int32)) (h24 : ∀ (x2 : Int32) (x3 : Int32) (x4 : Bool) (x5 : Int32), rv_M (rC_G D cI cZ cO ad gh de) (rC_K ad gh) p l e rm8_follow s m args below meth c 0 0 (rC_qI D cI cZ cO ad gh de below args s M) (k24 x2 x3 x4 x5) 24 [some (.ref (ad 4)), none, some (.int x2), some (.int x3), some (.int (rv_i x4)), some (.int x5), none] [] M) : ∀ (x2 : Int32) (x3 : Int32) (x4 : Bool) (x5 : Int32), rv_M (rC_G D cI cZ cO ad gh de) (rC_K ad gh) p l e rm8_follow s m args below meth c 0 0 (rC_qI D cI cZ cO ad gh de below args s M) (f8_follow_24_s gh M k4 k24 x2 x3 x4 x5) 24 [some (.ref (ad 4)), none, some (.int x2), some (.int x3), some (.int (rv_i x4)), some (.int x5), none] [] M := by
  intro x2 x3 x4 x5
  unfold f8_follow_24_s
  refine rv_iload (q := 26) E.x dX8_follow_24 rfl rfl ?_
  refine rv_bipush (q := 28) E.x dX8_follow_26 rv_kb16 rfl ?_
  refine rv_icmp_ge (q := 31) (tgt := 65) E.x dX8_follow_28 (by decide) rfl ?_ ?_
  · refine rv_iload (q := 33) E.x dX8_follow_31 rfl rfl ?_
    refine rv_ifz_eq (q := 36) (tgt := 65) E.x dX8_follow_33 (by decide) rfl ?_ ?_
    · refine rv_iload_n (q := 37) E.x dX8_follow_36 rfl rfl ?_
      refine rv_istore (q := 39) (lv' := [_, _, _, _, _, _, _]) E.x dX8_follow_37 (Nat.le_of_ble_eq_true rfl) rfl rfl rfl ?_
      refine rv_aload_n (q := 40) E.x dX8_follow_39 rfl rfl ?_
      refine rv_iload_n (q := 41) E.x dX8_follow_40 rfl rfl ?_
      refine rv_iload_n (q := 42) E.x dX8_follow_41 rfl rfl ?_
      refine rv_b1 (fun r2 e1 => ?_)
      refine rC_calliX8 (q := 45) E ⟨rfl, rfl⟩ (c8_followOnce E.2.2.1 e1) gX8_59 hX8_followOnce ⟨rfl, rfl⟩ ⟨Nat.le_of_ble_eq_true rfl, Nat.le_of_ble_eq_true rfl⟩ ⟨Nat.le_of_ble_eq_true rfl, Nat.le_of_ble_eq_true rfl⟩ rfl rfl rfl (Nat.le_of_ble_eq_true rfl) dX8_follow_42 rfl ?_
      refine rv_istore_n (q := 46) (lv' := [_, _, _, _, _, _, _]) E.x dX8_follow_45 (Nat.le_of_ble_eq_true rfl) rfl rfl rfl ?_
      refine rv_iload_n (q := 47) E.x dX8_follow_46 rfl rfl ?_
      refine rv_iload (q := 49) E.x dX8_follow_47 rfl rfl ?_
      refine rv_icmp_eq (q := 52) (tgt := 56) E.x dX8_follow_49 (by decide) rfl ?_ ?_
      · refine rv_iconst (q := 53) E.x dX8_follow_52 rv_ki1 rfl ?_
        refine rv_goto (q := 57) E.x dX8_follow_53 (by decide) ?_
        refine rv_wk [true, false, true, true, false, true, false] ?_
        exact b8_follow_57 E M k4 k24 h4 h24 r2 x3 x5 true
      · refine rv_iconst (q := 57) E.x dX8_follow_56 rv_ki0 rfl ?_
        refine rv_wk [true, false, true, true, false, true, false] ?_
        exact b8_follow_57 E M k4 k24 h4 h24 r2 x3 x5 false
    · refine rv_wk [true, false, true, true, false, false, false] ?_
      exact b8_follow_65 E M k4 h4 x2 x3
  · refine rv_wk [true, false, true, true, false, false, false] ?_
    exact b8_follow_65 E M k4 h4 x2 x3
theorem b8_follow_24 {p : Program} {l : Launch} {e : Env} {s : State} {m : MethodId} {args : Array Value} {below : List Frame} {meth : Method} {c : Code} {D : va_G} {cI cZ cO : ClassId} {ad : Nat → Nat} {gh : rC_gh} {de : Nat} (E : rC_E D cI cZ cO ad gh (rC_K ad gh) RX8 cX8_follow 7 (some .int) p s m args meth c) (M : rv_Mem) (k4 : Int32 → Int32 → Option (Int32)) (h4 : ∀ (x2 : Int32) (x3 : Int32), rv_M (rC_G D cI cZ cO ad gh de) (rC_K ad gh) p l e rm8_follow s m args below meth c 0 0 (rC_qI D cI cZ cO ad gh de below args s M) (k4 x2 x3) 4 [some (.ref (ad 4)), none, some (.int x2), some (.int x3), none, none, none] [] M) : ∀ (n : Nat), ∀ (x2 : Int32) (x3 : Int32) (x4 : Bool) (x5 : Int32), rv_M (rC_G D cI cZ cO ad gh de) (rC_K ad gh) p l e rm8_follow s m args below meth c 0 0 (rC_qI D cI cZ cO ad gh de below args s M) (f8_follow_24 gh M k4 n x2 x3 x4 x5) 24 [some (.ref (ad 4)), none, some (.int x2), some (.int x3), some (.int (rv_i x4)), some (.int x5), none] [] M := by
  intro n
  induction n with
  | zero => exact fun _ _ _ _ => rv_stuck
  | succ n ih => exact b8_follow_24_s E M k4 h4 (f8_follow_24 gh M k4 n) ih
set_option maxRecDepth 100000 in
theorem b8_follow_4_s {p : Program} {l : Launch} {e : Env} {s : State} {m : MethodId} {args : Array Value} {below : List Frame} {meth : Method} {c : Code} {D : va_G} {cI cZ cO : ClassId} {ad : Nat → Nat} {gh : rC_gh} {de : Nat} (E : rC_E D cI cZ cO ad gh (rC_K ad gh) RX8 cX8_follow 7 (some .int) p s m args meth c) (M : rv_Mem)   (k4 : Int32 → Int32 → Option (Int32)) (h4 : ∀ (x2 : Int32) (x3 : Int32), rv_M (rC_G D cI cZ cO ad gh de) (rC_K ad gh) p l e rm8_follow s m args below meth c 0 0 (rC_qI D cI cZ cO ad gh de below args s M) (k4 x2 x3) 4 [some (.ref (ad 4)), none, some (.int x2), some (.int x3), none, none, none] [] M) : ∀ (x2 : Int32) (x3 : Int32), rv_M (rC_G D cI cZ cO ad gh de) (rC_K ad gh) p l e rm8_follow s m args below meth c 0 0 (rC_qI D cI cZ cO ad gh de below args s M) (f8_follow_4_s gh M k4 x2 x3) 4 [some (.ref (ad 4)), none, some (.int x2), some (.int x3), none, none, none] [] M := by
  intro x2 x3
  unfold f8_follow_4_s
  refine rv_iload_n (q := 5) E.x dX8_follow_4 rfl rfl ?_
  refine rv_aload_n (q := 6) E.x dX8_follow_5 rfl rfl ?_
  refine rC_getX8 (q := 9) E 4 5 wfX8_46 rfl (Nat.le_of_ble_eq_true rfl) ⟨rfl, rfl⟩ rfl dX8_follow_6 rfl ?_
  refine rv_icmp_gt (q := 12) (tgt := 71) E.x dX8_follow_9 (by decide) rfl ?_ ?_
  · refine rv_iload_n (q := 13) E.x dX8_follow_12 rfl rfl ?_
    refine rv_bipush (q := 15) E.x dX8_follow_13 rv_kb16 rfl ?_
    refine rv_icmp_ge (q := 18) (tgt := 71) E.x dX8_follow_15 (by decide) rfl ?_ ?_
    · refine rv_iconst (q := 19) E.x dX8_follow_18 rv_ki1 rfl ?_
      refine rv_istore (q := 21) (lv' := [_, _, _, _, _, _, _]) E.x dX8_follow_19 (Nat.le_of_ble_eq_true rfl) rfl rfl rfl ?_
      refine rv_iconst (q := 22) E.x dX8_follow_21 rv_ki0 rfl ?_
      refine rv_istore (q := 24) (lv' := [_, _, _, _, _, _, _]) E.x dX8_follow_22 (Nat.le_of_ble_eq_true rfl) rfl rfl rfl ?_
      refine rv_wk [true, false, true, true, true, true, false] ?_
      exact b8_follow_24 E M k4 h4 rv_FU x2 x3 true 0
    · refine rv_iload_n (q := 72) E.x dX8_follow_71 rfl rfl ?_
      exact rC_iret E rfl dX8_follow_72
  · refine rv_iload_n (q := 72) E.x dX8_follow_71 rfl rfl ?_
    exact rC_iret E rfl dX8_follow_72
theorem b8_follow_4 {p : Program} {l : Launch} {e : Env} {s : State} {m : MethodId} {args : Array Value} {below : List Frame} {meth : Method} {c : Code} {D : va_G} {cI cZ cO : ClassId} {ad : Nat → Nat} {gh : rC_gh} {de : Nat} (E : rC_E D cI cZ cO ad gh (rC_K ad gh) RX8 cX8_follow 7 (some .int) p s m args meth c) (M : rv_Mem)   : ∀ (n : Nat), ∀ (x2 : Int32) (x3 : Int32), rv_M (rC_G D cI cZ cO ad gh de) (rC_K ad gh) p l e rm8_follow s m args below meth c 0 0 (rC_qI D cI cZ cO ad gh de below args s M) (f8_follow_4 gh M n x2 x3) 4 [some (.ref (ad 4)), none, some (.int x2), some (.int x3), none, none, none] [] M := by
  intro n
  induction n with
  | zero => exact fun _ _ => rv_stuck
  | succ n ih => exact b8_follow_4_s E M (f8_follow_4 gh M n) ih
set_option maxRecDepth 100000 in
theorem b8_follow {p : Program} {l : Launch} {e : Env} {s : State} {m : MethodId} {args : Array Value} {below : List Frame} {meth : Method} {c : Code} {D : va_G} {cI cZ cO : ClassId} {ad : Nat → Nat} {gh : rC_gh} {de : Nat} (E : rC_E D cI cZ cO ad gh (rC_K ad gh) RX8 cX8_follow 7 (some .int) p s m args meth c) (M : rv_Mem) (a1 : Int32) : rv_M (rC_G D cI cZ cO ad gh de) (rC_K ad gh) p l e rm8_follow s m args below meth c 0 0 (rC_qI D cI cZ cO ad gh de below args s M) (f8_follow gh M a1) 0 [some (.ref (ad 4)), some (.int a1), none, none, none, none, none] [] M := by
  unfold f8_follow
  refine rv_iload_n (q := 1) E.x dX8_follow_0 rfl rfl ?_
  refine rv_istore_n (q := 2) (lv' := [_, _, _, _, _, _, _]) E.x dX8_follow_1 (Nat.le_of_ble_eq_true rfl) rfl rfl rfl ?_
  refine rv_iconst (q := 3) E.x dX8_follow_2 rv_ki0 rfl ?_
  refine rv_istore_n (q := 4) (lv' := [_, _, _, _, _, _, _]) E.x dX8_follow_3 (Nat.le_of_ble_eq_true rfl) rfl rfl rfl ?_
  refine rv_wk [true, false, true, true, false, false, false] ?_
  exact b8_follow_4 E M rv_FU a1 0
theorem c8_follow {l : Launch} {D : va_G} {cI cZ cO : ClassId} {ad : Nat → Nat} {gh : rC_gh} {de : Nat} (hI : rC_I ad gh) {M : rv_Mem} {a1 : Int32} {r : Int32} (h : f8_follow gh M a1 = some r) : Met l yX8_follow (rv_ws yX8_follow cX8_follow 7 (some .int)) rm8_follow (rC_Pc D cI cZ cO ad gh de [.ref (ad 4), .int a1] M) (rC_QI D cI cZ cO ad gh de r M) 0 0 (rC_K ad gh) := rC_met hI rfl (by decide) (Nat.le_of_ble_eq_true rfl) (fun p e s m args below meth c E => ⟨(rC_qI D cI cZ cO ad gh de below args s M), rfl, b8_follow E M a1⟩) h
abbrev rmJ_bits : Room := { frames := 0, cells := 0, slots := 0, locals := 0 }
set_option maxRecDepth 100000 in
theorem bJ_bits {p : Program} {l : Launch} {e : Env} {s : State} {m : MethodId} {args : Array Value} {below : List Frame} {meth : Method} {c : Code} (E : rP_E RJ6 cJ6_bitCount_0f7a4 1 (some .int) p s m args meth c) (a1 : Int32) : rv_M (fun (_ : Unit) _ => True) (fun _ => False) p l e rmJ_bits s m args below meth c 0 0 (rS_qI below args s) (fJ_bits a1) 0 [some (.int a1)] [] () := by
  unfold fJ_bits
  refine rv_iload_n (q := 1) E.x dJ6_bitCount_0f7a4_0 rfl rfl ?_
  refine rv_iload_n (q := 2) E.x dJ6_bitCount_0f7a4_1 rfl rfl ?_
  refine rv_iconst (q := 3) E.x dJ6_bitCount_0f7a4_2 rv_ki1 rfl ?_
  refine rv_iushr (q := 4) E.x dJ6_bitCount_0f7a4_3 rfl ?_
  refine rP_ldc_w (q := 7) E (wkJ6_265) dJ6_bitCount_0f7a4_4 rfl ?_
  refine rv_iand (q := 8) E.x dJ6_bitCount_0f7a4_7 rfl ?_
  refine rv_isub (q := 9) E.x dJ6_bitCount_0f7a4_8 rfl ?_
  refine rv_istore_n (q := 10) (lv' := [_]) E.x dJ6_bitCount_0f7a4_9 (Nat.le_of_ble_eq_true rfl) rfl rfl rfl ?_
  refine rv_iload_n (q := 11) E.x dJ6_bitCount_0f7a4_10 rfl rfl ?_
  refine rP_ldc_w (q := 14) E (wkJ6_266) dJ6_bitCount_0f7a4_11 rfl ?_
  refine rv_iand (q := 15) E.x dJ6_bitCount_0f7a4_14 rfl ?_
  refine rv_iload_n (q := 16) E.x dJ6_bitCount_0f7a4_15 rfl rfl ?_
  refine rv_iconst (q := 17) E.x dJ6_bitCount_0f7a4_16 rv_ki2 rfl ?_
  refine rv_iushr (q := 18) E.x dJ6_bitCount_0f7a4_17 rfl ?_
  refine rP_ldc_w (q := 21) E (wkJ6_266) dJ6_bitCount_0f7a4_18 rfl ?_
  refine rv_iand (q := 22) E.x dJ6_bitCount_0f7a4_21 rfl ?_
  refine rv_iadd (q := 23) E.x dJ6_bitCount_0f7a4_22 rfl ?_
  refine rv_istore_n (q := 24) (lv' := [_]) E.x dJ6_bitCount_0f7a4_23 (Nat.le_of_ble_eq_true rfl) rfl rfl rfl ?_
  refine rv_iload_n (q := 25) E.x dJ6_bitCount_0f7a4_24 rfl rfl ?_
  refine rv_iload_n (q := 26) E.x dJ6_bitCount_0f7a4_25 rfl rfl ?_
  refine rv_iconst (q := 27) E.x dJ6_bitCount_0f7a4_26 rv_ki4 rfl ?_
  refine rv_iushr (q := 28) E.x dJ6_bitCount_0f7a4_27 rfl ?_
  refine rv_iadd (q := 29) E.x dJ6_bitCount_0f7a4_28 rfl ?_
  refine rP_ldc_w (q := 32) E (wkJ6_267) dJ6_bitCount_0f7a4_29 rfl ?_
  refine rv_iand (q := 33) E.x dJ6_bitCount_0f7a4_32 rfl ?_
  refine rv_istore_n (q := 34) (lv' := [_]) E.x dJ6_bitCount_0f7a4_33 (Nat.le_of_ble_eq_true rfl) rfl rfl rfl ?_
  refine rv_iload_n (q := 35) E.x dJ6_bitCount_0f7a4_34 rfl rfl ?_
  refine rv_iload_n (q := 36) E.x dJ6_bitCount_0f7a4_35 rfl rfl ?_
  refine rv_bipush (q := 38) E.x dJ6_bitCount_0f7a4_36 rv_kb8 rfl ?_
  refine rv_iushr (q := 39) E.x dJ6_bitCount_0f7a4_38 rfl ?_
  refine rv_iadd (q := 40) E.x dJ6_bitCount_0f7a4_39 rfl ?_
  refine rv_istore_n (q := 41) (lv' := [_]) E.x dJ6_bitCount_0f7a4_40 (Nat.le_of_ble_eq_true rfl) rfl rfl rfl ?_
  refine rv_iload_n (q := 42) E.x dJ6_bitCount_0f7a4_41 rfl rfl ?_
  refine rv_iload_n (q := 43) E.x dJ6_bitCount_0f7a4_42 rfl rfl ?_
  refine rv_bipush (q := 45) E.x dJ6_bitCount_0f7a4_43 rv_kb16 rfl ?_
  refine rv_iushr (q := 46) E.x dJ6_bitCount_0f7a4_45 rfl ?_
  refine rv_iadd (q := 47) E.x dJ6_bitCount_0f7a4_46 rfl ?_
  refine rv_istore_n (q := 48) (lv' := [_]) E.x dJ6_bitCount_0f7a4_47 (Nat.le_of_ble_eq_true rfl) rfl rfl rfl ?_
  refine rv_iload_n (q := 49) E.x dJ6_bitCount_0f7a4_48 rfl rfl ?_
  refine rv_bipush (q := 51) E.x dJ6_bitCount_0f7a4_49 rv_kb63 rfl ?_
  refine rv_iand (q := 52) E.x dJ6_bitCount_0f7a4_51 rfl ?_
  exact rP_sret E rfl dJ6_bitCount_0f7a4_52
theorem cJ_bits {l : Launch} {a1 : Int32} {r : Int32} (h : fJ_bits a1 = some r) : Met l yJ6_bitCount_0f7a4 (rv_ws yJ6_bitCount_0f7a4 cJ6_bitCount_0f7a4 1 (some .int)) rmJ_bits (va_Pc [.int a1] (fun _ => True)) (rR_SQ r) 0 0 (fun _ => False) := rP_mets rfl (by decide) (rv_cat rfl) (Nat.le_of_ble_eq_true rfl) (fun p e s m args below meth c E => ⟨rS_qI below args s, rfl, bJ_bits E a1⟩) h
abbrev rm8_lackingFacts : Room := { frames := 2, cells := 0, slots := 0, locals := 51 }
set_option maxRecDepth 100000 in
theorem b8_lackingFacts_56 {p : Program} {l : Launch} {e : Env} {s : State} {m : MethodId} {args : Array Value} {below : List Frame} {meth : Method} {c : Code} {D : va_G} {cI cZ cO : ClassId} {ad : Nat → Nat} {gh : rC_gh} {de : Nat} (E : rC_E D cI cZ cO ad gh (rC_K ad gh) RX8 cX8_lackingFacts 5 (some .int) p s m args meth c) (M : rv_Mem) (k4 : Int32 → Int32 → Int32 → Option (Int32)) (h4 : ∀ (x1 : Int32) (x2 : Int32) (x3 : Int32), rv_M (rC_G D cI cZ cO ad gh de) (rC_K ad gh) p l e rm8_lackingFacts s m args below meth c 0 0 (rC_qI D cI cZ cO ad gh de below args s M) (k4 x1 x2 x3) 4 [some (.ref (ad 4)), some (.int x1), some (.int x2), some (.int x3), none] [] M) : ∀ (x1 : Int32) (x2 : Int32) (x3 : Int32), rv_M (rC_G D cI cZ cO ad gh de) (rC_K ad gh) p l e rm8_lackingFacts s m args below meth c 0 0 (rC_qI D cI cZ cO ad gh de below args s M) (f8_lackingFacts_56 gh M k4 x1 x2 x3) 56 [some (.ref (ad 4)), some (.int x1), some (.int x2), some (.int x3), none] [] M := by
  intro x1 x2 x3
  unfold f8_lackingFacts_56
  refine rv_iinc (q := 59) (lv' := [_, _, _, _, _]) E.x dX8_lackingFacts_56 rv_ki1 rfl rfl rfl rfl ?_
  refine rv_goto (q := 4) E.x dX8_lackingFacts_59 (by decide) ?_
  refine rv_wk [true, true, true, true, false] ?_
  exact h4 x1 x2 (x3 + 1)
set_option maxRecDepth 100000 in
theorem b8_lackingFacts_32 {p : Program} {l : Launch} {e : Env} {s : State} {m : MethodId} {args : Array Value} {below : List Frame} {meth : Method} {c : Code} {D : va_G} {cI cZ cO : ClassId} {ad : Nat → Nat} {gh : rC_gh} {de : Nat} (E : rC_E D cI cZ cO ad gh (rC_K ad gh) RX8 cX8_lackingFacts 5 (some .int) p s m args meth c) (M : rv_Mem) (k4 : Int32 → Int32 → Int32 → Option (Int32)) (h4 : ∀ (x1 : Int32) (x2 : Int32) (x3 : Int32), rv_M (rC_G D cI cZ cO ad gh de) (rC_K ad gh) p l e rm8_lackingFacts s m args below meth c 0 0 (rC_qI D cI cZ cO ad gh de below args s M) (k4 x1 x2 x3) 4 [some (.ref (ad 4)), some (.int x1), some (.int x2), some (.int x3), none] [] M) : ∀ (x1 : Int32) (x2 : Int32) (x3 : Int32) (s0 : Bool), rv_M (rC_G D cI cZ cO ad gh de) (rC_K ad gh) p l e rm8_lackingFacts s m args below meth c 0 0 (rC_qI D cI cZ cO ad gh de below args s M) (f8_lackingFacts_32 gh M k4 x1 x2 x3 s0) 32 [some (.ref (ad 4)), some (.int x1), some (.int x2), some (.int x3), none] [.int (rv_i s0)] M := by
  intro x1 x2 x3 s0
  unfold f8_lackingFacts_32
  refine rv_istore (q := 34) (lv' := [_, _, _, _, _]) E.x dX8_lackingFacts_32 (Nat.le_of_ble_eq_true rfl) rfl rfl rfl ?_
  refine rv_iload (q := 36) E.x dX8_lackingFacts_34 rfl rfl ?_
  refine rv_ifz_eq (q := 39) (tgt := 56) E.x dX8_lackingFacts_36 (by decide) rfl ?_ ?_
  · refine rv_aload_n (q := 40) E.x dX8_lackingFacts_39 rfl rfl ?_
    refine rv_iload_n (q := 41) E.x dX8_lackingFacts_40 rfl rfl ?_
    refine rv_iload_n (q := 42) E.x dX8_lackingFacts_41 rfl rfl ?_
    refine rv_ixor (q := 43) E.x dX8_lackingFacts_42 rfl ?_
    refine rv_b1 (fun r2 e1 => ?_)
    refine rC_calliX8 (q := 46) E ⟨rfl, rfl⟩ (c8_follow E.2.2.1 e1) gX8_67 hX8_follow ⟨rfl, rfl⟩ ⟨Nat.le_of_ble_eq_true rfl, Nat.le_of_ble_eq_true rfl⟩ ⟨Nat.le_of_ble_eq_true rfl, Nat.le_of_ble_eq_true rfl⟩ rfl rfl rfl (Nat.le_of_ble_eq_true rfl) dX8_lackingFacts_43 rfl ?_
    refine rv_bipush (q := 48) E.x dX8_lackingFacts_46 rv_kb15 rfl ?_
    refine rv_b1 (fun r4 e3 => ?_)
    refine rC_calln (q := 51) E (c11_isIn e3) gX8_55 E.2.2.2.2.2.2.2.2.1 wsgX8_55 wi_ReviewForge hX11_isIn ⟨rfl, rfl⟩ ⟨Nat.le_of_ble_eq_true rfl, Nat.le_of_ble_eq_true rfl⟩ ⟨Nat.le_of_ble_eq_true rfl, Nat.le_of_ble_eq_true rfl⟩ rfl rfl rfl (Nat.le_of_ble_eq_true rfl) dX8_lackingFacts_48 rfl ?_
    refine rv_ifz_eq (q := 54) (tgt := 56) E.x dX8_lackingFacts_51 (by decide) rfl ?_ ?_
    · refine rv_iload_n (q := 55) E.x dX8_lackingFacts_54 rfl rfl ?_
      refine rv_istore_n (q := 56) (lv' := [_, _, _, _, _]) E.x dX8_lackingFacts_55 (Nat.le_of_ble_eq_true rfl) rfl rfl rfl ?_
      refine rv_wk [true, true, true, true, false] ?_
      exact b8_lackingFacts_56 E M k4 h4 x1 x3 x3
    · refine rv_wk [true, true, true, true, false] ?_
      exact b8_lackingFacts_56 E M k4 h4 x1 x2 x3
  · refine rv_wk [true, true, true, true, false] ?_
    exact b8_lackingFacts_56 E M k4 h4 x1 x2 x3
set_option maxRecDepth 100000 in
theorem b8_lackingFacts_27 {p : Program} {l : Launch} {e : Env} {s : State} {m : MethodId} {args : Array Value} {below : List Frame} {meth : Method} {c : Code} {D : va_G} {cI cZ cO : ClassId} {ad : Nat → Nat} {gh : rC_gh} {de : Nat} (E : rC_E D cI cZ cO ad gh (rC_K ad gh) RX8 cX8_lackingFacts 5 (some .int) p s m args meth c) (M : rv_Mem) (k4 : Int32 → Int32 → Int32 → Option (Int32)) (h4 : ∀ (x1 : Int32) (x2 : Int32) (x3 : Int32), rv_M (rC_G D cI cZ cO ad gh de) (rC_K ad gh) p l e rm8_lackingFacts s m args below meth c 0 0 (rC_qI D cI cZ cO ad gh de below args s M) (k4 x1 x2 x3) 4 [some (.ref (ad 4)), some (.int x1), some (.int x2), some (.int x3), none] [] M) : ∀ (x1 : Int32) (x2 : Int32) (x3 : Int32), rv_M (rC_G D cI cZ cO ad gh de) (rC_K ad gh) p l e rm8_lackingFacts s m args below meth c 0 0 (rC_qI D cI cZ cO ad gh de below args s M) (f8_lackingFacts_27 gh M k4 x1 x2 x3) 27 [some (.ref (ad 4)), some (.int x1), some (.int x2), some (.int x3), none] [] M := by
  intro x1 x2 x3
  unfold f8_lackingFacts_27
  refine rv_iconst (q := 28) E.x dX8_lackingFacts_27 rv_ki1 rfl ?_
  refine rv_goto (q := 32) E.x dX8_lackingFacts_28 (by decide) ?_
  refine rv_wk [true, true, true, true, false] ?_
  exact b8_lackingFacts_32 E M k4 h4 x1 x2 x3 true
set_option maxRecDepth 100000 in
theorem b8_lackingFacts_4_s {p : Program} {l : Launch} {e : Env} {s : State} {m : MethodId} {args : Array Value} {below : List Frame} {meth : Method} {c : Code} {D : va_G} {cI cZ cO : ClassId} {ad : Nat → Nat} {gh : rC_gh} {de : Nat} (E : rC_E D cI cZ cO ad gh (rC_K ad gh) RX8 cX8_lackingFacts 5 (some .int) p s m args meth c) (M : rv_Mem)   (k4 : Int32 → Int32 → Int32 → Option (Int32)) (h4 : ∀ (x1 : Int32) (x2 : Int32) (x3 : Int32), rv_M (rC_G D cI cZ cO ad gh de) (rC_K ad gh) p l e rm8_lackingFacts s m args below meth c 0 0 (rC_qI D cI cZ cO ad gh de below args s M) (k4 x1 x2 x3) 4 [some (.ref (ad 4)), some (.int x1), some (.int x2), some (.int x3), none] [] M) : ∀ (x1 : Int32) (x2 : Int32) (x3 : Int32), rv_M (rC_G D cI cZ cO ad gh de) (rC_K ad gh) p l e rm8_lackingFacts s m args below meth c 0 0 (rC_qI D cI cZ cO ad gh de below args s M) (f8_lackingFacts_4_s gh M k4 x1 x2 x3) 4 [some (.ref (ad 4)), some (.int x1), some (.int x2), some (.int x3), none] [] M := by
  intro x1 x2 x3
  unfold f8_lackingFacts_4_s
  refine rv_iload_n (q := 5) E.x dX8_lackingFacts_4 rfl rfl ?_
  refine rv_sipush (q := 8) E.x dX8_lackingFacts_5 rv_ks256 rfl ?_
  refine rv_icmp_ge (q := 11) (tgt := 62) E.x dX8_lackingFacts_8 (by decide) rfl ?_ ?_
  · refine rv_iload_n (q := 12) E.x dX8_lackingFacts_11 rfl rfl ?_
    refine rv_iconst (q := 13) E.x dX8_lackingFacts_12 rv_kim1 rfl ?_
    refine rv_icmp_eq (q := 16) (tgt := 27) E.x dX8_lackingFacts_13 (by decide) rfl ?_ ?_
    · refine rv_iload_n (q := 17) E.x dX8_lackingFacts_16 rfl rfl ?_
      refine rv_b1 (fun r2 e1 => ?_)
      refine rC_calls (q := 20) E (cJ_bits e1) gX8_62 hJ6_bitCount_0f7a4 ⟨rfl, rfl⟩ ⟨Nat.le_of_ble_eq_true rfl, Nat.le_of_ble_eq_true rfl⟩ ⟨Nat.le_of_ble_eq_true rfl, Nat.le_of_ble_eq_true rfl⟩ rfl rfl rfl (Nat.le_of_ble_eq_true rfl) dX8_lackingFacts_17 rfl ?_
      refine rv_iload_n (q := 21) E.x dX8_lackingFacts_20 rfl rfl ?_
      refine rv_b1 (fun r4 e3 => ?_)
      refine rC_calls (q := 24) E (cJ_bits e3) gX8_62 hJ6_bitCount_0f7a4 ⟨rfl, rfl⟩ ⟨Nat.le_of_ble_eq_true rfl, Nat.le_of_ble_eq_true rfl⟩ ⟨Nat.le_of_ble_eq_true rfl, Nat.le_of_ble_eq_true rfl⟩ rfl rfl rfl (Nat.le_of_ble_eq_true rfl) dX8_lackingFacts_21 rfl ?_
      refine rv_icmp_ge (q := 27) (tgt := 31) E.x dX8_lackingFacts_24 (by decide) rfl ?_ ?_
      · refine rv_wk [true, true, true, true, false] ?_
        exact b8_lackingFacts_27 E M k4 h4 x1 x2 x3
      · refine rv_iconst (q := 32) E.x dX8_lackingFacts_31 rv_ki0 rfl ?_
        refine rv_wk [true, true, true, true, false] ?_
        exact b8_lackingFacts_32 E M k4 h4 x1 x2 x3 false
    · refine rv_wk [true, true, true, true, false] ?_
      exact b8_lackingFacts_27 E M k4 h4 x1 x2 x3
  · refine rv_iload_n (q := 63) E.x dX8_lackingFacts_62 rfl rfl ?_
    exact rC_iret E rfl dX8_lackingFacts_63
theorem b8_lackingFacts_4 {p : Program} {l : Launch} {e : Env} {s : State} {m : MethodId} {args : Array Value} {below : List Frame} {meth : Method} {c : Code} {D : va_G} {cI cZ cO : ClassId} {ad : Nat → Nat} {gh : rC_gh} {de : Nat} (E : rC_E D cI cZ cO ad gh (rC_K ad gh) RX8 cX8_lackingFacts 5 (some .int) p s m args meth c) (M : rv_Mem)   : ∀ (n : Nat), ∀ (x1 : Int32) (x2 : Int32) (x3 : Int32), rv_M (rC_G D cI cZ cO ad gh de) (rC_K ad gh) p l e rm8_lackingFacts s m args below meth c 0 0 (rC_qI D cI cZ cO ad gh de below args s M) (f8_lackingFacts_4 gh M n x1 x2 x3) 4 [some (.ref (ad 4)), some (.int x1), some (.int x2), some (.int x3), none] [] M := by
  intro n
  induction n with
  | zero => exact fun _ _ _ => rv_stuck
  | succ n ih => exact b8_lackingFacts_4_s E M (f8_lackingFacts_4 gh M n) ih
set_option maxRecDepth 100000 in
theorem b8_lackingFacts {p : Program} {l : Launch} {e : Env} {s : State} {m : MethodId} {args : Array Value} {below : List Frame} {meth : Method} {c : Code} {D : va_G} {cI cZ cO : ClassId} {ad : Nat → Nat} {gh : rC_gh} {de : Nat} (E : rC_E D cI cZ cO ad gh (rC_K ad gh) RX8 cX8_lackingFacts 5 (some .int) p s m args meth c) (M : rv_Mem) (a1 : Int32) : rv_M (rC_G D cI cZ cO ad gh de) (rC_K ad gh) p l e rm8_lackingFacts s m args below meth c 0 0 (rC_qI D cI cZ cO ad gh de below args s M) (f8_lackingFacts gh M a1) 0 [some (.ref (ad 4)), some (.int a1), none, none, none] [] M := by
  unfold f8_lackingFacts
  refine rv_iconst (q := 1) E.x dX8_lackingFacts_0 rv_kim1 rfl ?_
  refine rv_istore_n (q := 2) (lv' := [_, _, _, _, _]) E.x dX8_lackingFacts_1 (Nat.le_of_ble_eq_true rfl) rfl rfl rfl ?_
  refine rv_iconst (q := 3) E.x dX8_lackingFacts_2 rv_ki0 rfl ?_
  refine rv_istore_n (q := 4) (lv' := [_, _, _, _, _]) E.x dX8_lackingFacts_3 (Nat.le_of_ble_eq_true rfl) rfl rfl rfl ?_
  refine rv_wk [true, true, true, true, false] ?_
  exact b8_lackingFacts_4 E M rv_FU a1 (-1) 0
theorem c8_lackingFacts {l : Launch} {D : va_G} {cI cZ cO : ClassId} {ad : Nat → Nat} {gh : rC_gh} {de : Nat} (hI : rC_I ad gh) {M : rv_Mem} {a1 : Int32} {r : Int32} (h : f8_lackingFacts gh M a1 = some r) : Met l yX8_lackingFacts (rv_ws yX8_lackingFacts cX8_lackingFacts 5 (some .int)) rm8_lackingFacts (rC_Pc D cI cZ cO ad gh de [.ref (ad 4), .int a1] M) (rC_QI D cI cZ cO ad gh de r M) 0 0 (rC_K ad gh) := rC_met hI rfl (by decide) (Nat.le_of_ble_eq_true rfl) (fun p e s m args below meth c E => ⟨(rC_qI D cI cZ cO ad gh de below args s M), rfl, b8_lackingFacts E M a1⟩) h
abbrev rm9_nameOf : Room := { frames := 1, cells := 0, slots := 0, locals := 21 }
set_option maxRecDepth 100000 in
theorem b9_nameOf {p : Program} {l : Launch} {e : Env} {s : State} {m : MethodId} {args : Array Value} {below : List Frame} {meth : Method} {c : Code} {D : va_G} {cI cZ cO : ClassId} {ad : Nat → Nat} {gh : rC_gh} {de : Nat} (E : rC_E D cI cZ cO ad gh (rC_K ad gh) RX9 cX9_nameOf 2 (some .int) p s m args meth c) (M : rv_Mem) (a1 : Int32) : rv_M (rC_G D cI cZ cO ad gh de) (rC_K ad gh) p l e rm9_nameOf s m args below meth c 0 0 (rC_qI D cI cZ cO ad gh de below args s M) (f9_nameOf gh M a1) 0 [some (.ref (ad 1)), some (.int a1)] [] M := by
  unfold f9_nameOf
  refine rv_aload_n (q := 1) E.x dX9_nameOf_0 rfl rfl ?_
  refine rC_getX9 (q := 4) E 1 4 wfX9_24 rfl (Nat.le_of_ble_eq_true rfl) ⟨rfl, rfl⟩ rfl dX9_nameOf_1 rfl ?_
  refine rv_iload_n (q := 5) E.x dX9_nameOf_4 rfl rfl ?_
  refine rv_b1 (fun r2 e1 => ?_)
  refine rC_callsi (q := 8) E (c9_read E.2.2.1 e1) gX9_52 hX9_read ⟨rfl, rfl⟩ ⟨Nat.le_of_ble_eq_true rfl, Nat.le_of_ble_eq_true rfl⟩ ⟨Nat.le_of_ble_eq_true rfl, Nat.le_of_ble_eq_true rfl⟩ rfl rfl rfl (Nat.le_of_ble_eq_true rfl) dX9_nameOf_5 rfl ?_
  exact rC_iret E rfl dX9_nameOf_8
theorem c9_nameOf {l : Launch} {D : va_G} {cI cZ cO : ClassId} {ad : Nat → Nat} {gh : rC_gh} {de : Nat} (hI : rC_I ad gh) {M : rv_Mem} {a1 : Int32} {r : Int32} (h : f9_nameOf gh M a1 = some r) : Met l yX9_nameOf (rv_ws yX9_nameOf cX9_nameOf 2 (some .int)) rm9_nameOf (rC_Pc D cI cZ cO ad gh de [.ref (ad 1), .int a1] M) (rC_QI D cI cZ cO ad gh de r M) 0 0 (rC_K ad gh) := rC_met hI rfl (by decide) (Nat.le_of_ble_eq_true rfl) (fun p e s m args below meth c E => ⟨(rC_qI D cI cZ cO ad gh de below args s M), rfl, b9_nameOf E M a1⟩) h
abbrev rm9_changeOf : Room := { frames := 1, cells := 0, slots := 0, locals := 21 }
set_option maxRecDepth 100000 in
theorem b9_changeOf {p : Program} {l : Launch} {e : Env} {s : State} {m : MethodId} {args : Array Value} {below : List Frame} {meth : Method} {c : Code} {D : va_G} {cI cZ cO : ClassId} {ad : Nat → Nat} {gh : rC_gh} {de : Nat} (E : rC_E D cI cZ cO ad gh (rC_K ad gh) RX9 cX9_changeOf 2 (some .int) p s m args meth c) (M : rv_Mem) (a1 : Int32) : rv_M (rC_G D cI cZ cO ad gh de) (rC_K ad gh) p l e rm9_changeOf s m args below meth c 0 0 (rC_qI D cI cZ cO ad gh de below args s M) (f9_changeOf gh M a1) 0 [some (.ref (ad 1)), some (.int a1)] [] M := by
  unfold f9_changeOf
  refine rv_aload_n (q := 1) E.x dX9_changeOf_0 rfl rfl ?_
  refine rC_getX9 (q := 4) E 1 5 wfX9_27 rfl (Nat.le_of_ble_eq_true rfl) ⟨rfl, rfl⟩ rfl dX9_changeOf_1 rfl ?_
  refine rv_iload_n (q := 5) E.x dX9_changeOf_4 rfl rfl ?_
  refine rv_b1 (fun r2 e1 => ?_)
  refine rC_callsi (q := 8) E (c9_read E.2.2.1 e1) gX9_52 hX9_read ⟨rfl, rfl⟩ ⟨Nat.le_of_ble_eq_true rfl, Nat.le_of_ble_eq_true rfl⟩ ⟨Nat.le_of_ble_eq_true rfl, Nat.le_of_ble_eq_true rfl⟩ rfl rfl rfl (Nat.le_of_ble_eq_true rfl) dX9_changeOf_5 rfl ?_
  exact rC_iret E rfl dX9_changeOf_8
theorem c9_changeOf {l : Launch} {D : va_G} {cI cZ cO : ClassId} {ad : Nat → Nat} {gh : rC_gh} {de : Nat} (hI : rC_I ad gh) {M : rv_Mem} {a1 : Int32} {r : Int32} (h : f9_changeOf gh M a1 = some r) : Met l yX9_changeOf (rv_ws yX9_changeOf cX9_changeOf 2 (some .int)) rm9_changeOf (rC_Pc D cI cZ cO ad gh de [.ref (ad 1), .int a1] M) (rC_QI D cI cZ cO ad gh de r M) 0 0 (rC_K ad gh) := rC_met hI rfl (by decide) (Nat.le_of_ble_eq_true rfl) (fun p e s m args below meth c E => ⟨(rC_qI D cI cZ cO ad gh de below args s M), rfl, b9_changeOf E M a1⟩) h
abbrev rm9_uploaderOf : Room := { frames := 1, cells := 0, slots := 0, locals := 21 }
set_option maxRecDepth 100000 in
theorem b9_uploaderOf {p : Program} {l : Launch} {e : Env} {s : State} {m : MethodId} {args : Array Value} {below : List Frame} {meth : Method} {c : Code} {D : va_G} {cI cZ cO : ClassId} {ad : Nat → Nat} {gh : rC_gh} {de : Nat} (E : rC_E D cI cZ cO ad gh (rC_K ad gh) RX9 cX9_uploaderOf 2 (some .int) p s m args meth c) (M : rv_Mem) (a1 : Int32) : rv_M (rC_G D cI cZ cO ad gh de) (rC_K ad gh) p l e rm9_uploaderOf s m args below meth c 0 0 (rC_qI D cI cZ cO ad gh de below args s M) (f9_uploaderOf gh M a1) 0 [some (.ref (ad 1)), some (.int a1)] [] M := by
  unfold f9_uploaderOf
  refine rv_aload_n (q := 1) E.x dX9_uploaderOf_0 rfl rfl ?_
  refine rC_getX9 (q := 4) E 1 6 wfX9_30 rfl (Nat.le_of_ble_eq_true rfl) ⟨rfl, rfl⟩ rfl dX9_uploaderOf_1 rfl ?_
  refine rv_iload_n (q := 5) E.x dX9_uploaderOf_4 rfl rfl ?_
  refine rv_b1 (fun r2 e1 => ?_)
  refine rC_callsi (q := 8) E (c9_read E.2.2.1 e1) gX9_52 hX9_read ⟨rfl, rfl⟩ ⟨Nat.le_of_ble_eq_true rfl, Nat.le_of_ble_eq_true rfl⟩ ⟨Nat.le_of_ble_eq_true rfl, Nat.le_of_ble_eq_true rfl⟩ rfl rfl rfl (Nat.le_of_ble_eq_true rfl) dX9_uploaderOf_5 rfl ?_
  exact rC_iret E rfl dX9_uploaderOf_8
theorem c9_uploaderOf {l : Launch} {D : va_G} {cI cZ cO : ClassId} {ad : Nat → Nat} {gh : rC_gh} {de : Nat} (hI : rC_I ad gh) {M : rv_Mem} {a1 : Int32} {r : Int32} (h : f9_uploaderOf gh M a1 = some r) : Met l yX9_uploaderOf (rv_ws yX9_uploaderOf cX9_uploaderOf 2 (some .int)) rm9_uploaderOf (rC_Pc D cI cZ cO ad gh de [.ref (ad 1), .int a1] M) (rC_QI D cI cZ cO ad gh de r M) 0 0 (rC_K ad gh) := rC_met hI rfl (by decide) (Nat.le_of_ble_eq_true rfl) (fun p e s m args below meth c E => ⟨(rC_qI D cI cZ cO ad gh de below args s M), rfl, b9_uploaderOf E M a1⟩) h
abbrev rm9_kindAt : Room := { frames := 1, cells := 0, slots := 0, locals := 21 }
set_option maxRecDepth 100000 in
theorem b9_kindAt {p : Program} {l : Launch} {e : Env} {s : State} {m : MethodId} {args : Array Value} {below : List Frame} {meth : Method} {c : Code} {D : va_G} {cI cZ cO : ClassId} {ad : Nat → Nat} {gh : rC_gh} {de : Nat} (E : rC_E D cI cZ cO ad gh (rC_K ad gh) RX9 cX9_kindAt 2 (some .int) p s m args meth c) (M : rv_Mem) (a1 : Int32) : rv_M (rC_G D cI cZ cO ad gh de) (rC_K ad gh) p l e rm9_kindAt s m args below meth c 0 0 (rC_qI D cI cZ cO ad gh de below args s M) (f9_kindAt gh M a1) 0 [some (.ref (ad 1)), some (.int a1)] [] M := by
  unfold f9_kindAt
  refine rv_aload_n (q := 1) E.x dX9_kindAt_0 rfl rfl ?_
  refine rC_getX9 (q := 4) E 1 7 wfX9_33 rfl (Nat.le_of_ble_eq_true rfl) ⟨rfl, rfl⟩ rfl dX9_kindAt_1 rfl ?_
  refine rv_iload_n (q := 5) E.x dX9_kindAt_4 rfl rfl ?_
  refine rv_b1 (fun r2 e1 => ?_)
  refine rC_callsi (q := 8) E (c9_read E.2.2.1 e1) gX9_52 hX9_read ⟨rfl, rfl⟩ ⟨Nat.le_of_ble_eq_true rfl, Nat.le_of_ble_eq_true rfl⟩ ⟨Nat.le_of_ble_eq_true rfl, Nat.le_of_ble_eq_true rfl⟩ rfl rfl rfl (Nat.le_of_ble_eq_true rfl) dX9_kindAt_5 rfl ?_
  exact rC_iret E rfl dX9_kindAt_8
theorem c9_kindAt {l : Launch} {D : va_G} {cI cZ cO : ClassId} {ad : Nat → Nat} {gh : rC_gh} {de : Nat} (hI : rC_I ad gh) {M : rv_Mem} {a1 : Int32} {r : Int32} (h : f9_kindAt gh M a1 = some r) : Met l yX9_kindAt (rv_ws yX9_kindAt cX9_kindAt 2 (some .int)) rm9_kindAt (rC_Pc D cI cZ cO ad gh de [.ref (ad 1), .int a1] M) (rC_QI D cI cZ cO ad gh de r M) 0 0 (rC_K ad gh) := rC_met hI rfl (by decide) (Nat.le_of_ble_eq_true rfl) (fun p e s m args below meth c E => ⟨(rC_qI D cI cZ cO ad gh de below args s M), rfl, b9_kindAt E M a1⟩) h
abbrev rm9_isOutdated : Room := { frames := 2, cells := 0, slots := 0, locals := 42 }
set_option maxRecDepth 100000 in
theorem b9_isOutdated {p : Program} {l : Launch} {e : Env} {s : State} {m : MethodId} {args : Array Value} {below : List Frame} {meth : Method} {c : Code} {D : va_G} {cI cZ cO : ClassId} {ad : Nat → Nat} {gh : rC_gh} {de : Nat} (E : rC_E D cI cZ cO ad gh (rC_K ad gh) RX9 cX9_isOutdated 3 (some .boolean) p s m args meth c) (M : rv_Mem) (a1 : Int32) : rv_M (rC_G D cI cZ cO ad gh de) (rC_K ad gh) p l e rm9_isOutdated s m args below meth c 0 0 (rC_qZ D cI cZ cO ad gh de below args s M) (f9_isOutdated gh M a1) 0 [some (.ref (ad 1)), some (.int a1), none] [] M := by
  unfold f9_isOutdated
  refine rv_aload_n (q := 1) E.x dX9_isOutdated_0 rfl rfl ?_
  refine rv_iload_n (q := 2) E.x dX9_isOutdated_1 rfl rfl ?_
  refine rv_b1 (fun r2 e1 => ?_)
  refine rC_calliX9 (q := 5) E ⟨rfl, rfl⟩ (c9_parentNumber E.2.2.1 e1) gX9_56 hX9_parentNumber ⟨rfl, rfl⟩ ⟨Nat.le_of_ble_eq_true rfl, Nat.le_of_ble_eq_true rfl⟩ ⟨Nat.le_of_ble_eq_true rfl, Nat.le_of_ble_eq_true rfl⟩ rfl rfl rfl (Nat.le_of_ble_eq_true rfl) dX9_isOutdated_2 rfl ?_
  refine rv_istore_n (q := 6) (lv' := [_, _, _]) E.x dX9_isOutdated_5 (Nat.le_of_ble_eq_true rfl) rfl rfl rfl ?_
  refine rv_iload_n (q := 7) E.x dX9_isOutdated_6 rfl rfl ?_
  refine rv_iconst (q := 8) E.x dX9_isOutdated_7 rv_kim1 rfl ?_
  refine rv_icmp_eq (q := 11) (tgt := 32) E.x dX9_isOutdated_8 (by decide) rfl ?_ ?_
  · refine rv_aload_n (q := 12) E.x dX9_isOutdated_11 rfl rfl ?_
    refine rv_iload_n (q := 13) E.x dX9_isOutdated_12 rfl rfl ?_
    refine rv_b1 (fun r4 e3 => ?_)
    refine rC_calliX9 (q := 16) E ⟨rfl, rfl⟩ (c9_currentOf E.2.2.1 e3) gX9_60 hX9_currentOf ⟨rfl, rfl⟩ ⟨Nat.le_of_ble_eq_true rfl, Nat.le_of_ble_eq_true rfl⟩ ⟨Nat.le_of_ble_eq_true rfl, Nat.le_of_ble_eq_true rfl⟩ rfl rfl rfl (Nat.le_of_ble_eq_true rfl) dX9_isOutdated_13 rfl ?_
    refine rv_aload_n (q := 17) E.x dX9_isOutdated_16 rfl rfl ?_
    refine rv_aload_n (q := 18) E.x dX9_isOutdated_17 rfl rfl ?_
    refine rv_iload_n (q := 19) E.x dX9_isOutdated_18 rfl rfl ?_
    refine rv_b1 (fun r6 e5 => ?_)
    refine rC_calliX9 (q := 22) E ⟨rfl, rfl⟩ (c9_currentOf E.2.2.1 e5) gX9_60 hX9_currentOf ⟨rfl, rfl⟩ ⟨Nat.le_of_ble_eq_true rfl, Nat.le_of_ble_eq_true rfl⟩ ⟨Nat.le_of_ble_eq_true rfl, Nat.le_of_ble_eq_true rfl⟩ rfl rfl rfl (Nat.le_of_ble_eq_true rfl) dX9_isOutdated_19 rfl ?_
    refine rv_b1 (fun r8 e7 => ?_)
    refine rC_calliX9 (q := 25) E ⟨rfl, rfl⟩ (c9_baseOf E.2.2.1 e7) gX9_63 hX9_baseOf ⟨rfl, rfl⟩ ⟨Nat.le_of_ble_eq_true rfl, Nat.le_of_ble_eq_true rfl⟩ ⟨Nat.le_of_ble_eq_true rfl, Nat.le_of_ble_eq_true rfl⟩ rfl rfl rfl (Nat.le_of_ble_eq_true rfl) dX9_isOutdated_22 rfl ?_
    refine rv_icmp_eq (q := 28) (tgt := 32) E.x dX9_isOutdated_25 (by decide) rfl ?_ ?_
    · refine rv_iconst (q := 29) E.x dX9_isOutdated_28 rv_ki1 rfl ?_
      refine rv_goto (q := 33) E.x dX9_isOutdated_29 (by decide) ?_
      exact rC_zret E true rfl dX9_isOutdated_33
    · refine rv_iconst (q := 33) E.x dX9_isOutdated_32 rv_ki0 rfl ?_
      exact rC_zret E false rfl dX9_isOutdated_33
  · refine rv_iconst (q := 33) E.x dX9_isOutdated_32 rv_ki0 rfl ?_
    exact rC_zret E false rfl dX9_isOutdated_33
theorem c9_isOutdated {l : Launch} {D : va_G} {cI cZ cO : ClassId} {ad : Nat → Nat} {gh : rC_gh} {de : Nat} (hI : rC_I ad gh) {M : rv_Mem} {a1 : Int32} {r : Bool} (h : f9_isOutdated gh M a1 = some r) : Met l yX9_isOutdated (rv_ws yX9_isOutdated cX9_isOutdated 3 (some .boolean)) rm9_isOutdated (rC_Pc D cI cZ cO ad gh de [.ref (ad 1), .int a1] M) (rC_QI D cI cZ cO ad gh de (rv_i r) M) 0 0 (rC_K ad gh) := rC_met hI rfl (by decide) (Nat.le_of_ble_eq_true rfl) (fun p e s m args below meth c E => ⟨(rC_qZ D cI cZ cO ad gh de below args s M), rfl, b9_isOutdated E M a1⟩) h
abbrev rm9_setDeskBase : Room := { frames := 2, cells := 0, slots := 0, locals := 42 }
set_option maxRecDepth 100000 in
theorem b9_setDeskBase {p : Program} {l : Launch} {e : Env} {s : State} {m : MethodId} {args : Array Value} {below : List Frame} {meth : Method} {c : Code} {D : va_G} {cI cZ cO : ClassId} {ad : Nat → Nat} {gh : rC_gh} {de : Nat} (E : rC_E D cI cZ cO ad gh (rC_K ad gh) RX9 cX9_setDeskBase 2 (some .int) p s m args meth c) (M : rv_Mem) (a1 : Int32) : rv_M (rC_G D cI cZ cO ad gh de) (rC_K ad gh) p l e rm9_setDeskBase s m args below meth c 0 0 (rC_qIW D cI cZ cO ad gh de below args s) (f9_setDeskBase gh M a1) 0 [some (.ref (ad 1)), some (.int a1)] [] M := by
  unfold f9_setDeskBase
  refine rv_aload_n (q := 1) E.x dX9_setDeskBase_0 rfl rfl ?_
  refine rC_getX9 (q := 4) E 1 3 wfX9_21 rfl (Nat.le_of_ble_eq_true rfl) ⟨rfl, rfl⟩ rfl dX9_setDeskBase_1 rfl ?_
  refine rv_bipush (q := 6) E.x dX9_setDeskBase_4 rv_kb80 rfl ?_
  refine rv_iload_n (q := 7) E.x dX9_setDeskBase_6 rfl rfl ?_
  refine rC_iast (q := 8) (n := 82) E ⟨rfl, rfl, rfl⟩ dX9_setDeskBase_7 rfl ?_
  refine rv_ltm (fun M1 => ?_)
  refine rv_aload_n (q := 9) E.x dX9_setDeskBase_8 rfl rfl ?_
  refine rC_getX9 (q := 12) E 1 2 wfX9_18 rfl (Nat.le_of_ble_eq_true rfl) ⟨rfl, rfl⟩ rfl dX9_setDeskBase_9 rfl ?_
  refine rv_bipush (q := 14) E.x dX9_setDeskBase_12 rv_kb80 rfl ?_
  refine rv_aload_n (q := 15) E.x dX9_setDeskBase_14 rfl rfl ?_
  refine rv_iload_n (q := 16) E.x dX9_setDeskBase_15 rfl rfl ?_
  refine rv_b1 (fun r3 e2 => ?_)
  refine rC_calliX9 (q := 19) E ⟨rfl, rfl⟩ (c9_repositoryOf E.2.2.1 e2) gX9_81 hX9_repositoryOf ⟨rfl, rfl⟩ ⟨Nat.le_of_ble_eq_true rfl, Nat.le_of_ble_eq_true rfl⟩ ⟨Nat.le_of_ble_eq_true rfl, Nat.le_of_ble_eq_true rfl⟩ rfl rfl rfl (Nat.le_of_ble_eq_true rfl) dX9_setDeskBase_16 rfl ?_
  refine rC_iast (q := 20) (n := 82) E ⟨rfl, rfl, rfl⟩ dX9_setDeskBase_19 rfl ?_
  refine rv_ltm (fun M4 => ?_)
  refine rv_aload_n (q := 21) E.x dX9_setDeskBase_20 rfl rfl ?_
  refine rC_getX9 (q := 24) E 1 2 wfX9_18 rfl (Nat.le_of_ble_eq_true rfl) ⟨rfl, rfl⟩ rfl dX9_setDeskBase_21 rfl ?_
  refine rv_bipush (q := 26) E.x dX9_setDeskBase_24 rv_kb80 rfl ?_
  refine rC_iald (q := 27) (n := 82) E ⟨rfl, rfl, rfl⟩ dX9_setDeskBase_26 rfl ?_
  exact rC_iret E rfl dX9_setDeskBase_27
theorem c9_setDeskBase {l : Launch} {D : va_G} {cI cZ cO : ClassId} {ad : Nat → Nat} {gh : rC_gh} {de : Nat} (hI : rC_I ad gh) {M : rv_Mem} {a1 : Int32} {r : Int32} {M1 : rv_Mem} (h : f9_setDeskBase gh M a1 = some (r, M1)) : Met l yX9_setDeskBase (rv_ws yX9_setDeskBase cX9_setDeskBase 2 (some .int)) rm9_setDeskBase (rC_Pc D cI cZ cO ad gh de [.ref (ad 1), .int a1] M) (rC_QI D cI cZ cO ad gh de r M1) 0 0 (rC_K ad gh) := rC_met hI rfl (by decide) (Nat.le_of_ble_eq_true rfl) (fun p e s m args below meth c E => ⟨(rC_qIW D cI cZ cO ad gh de below args s), rfl, b9_setDeskBase E M a1⟩) h
abbrev rm9_insertOnDesk : Room := { frames := 1, cells := 0, slots := 0, locals := 25 }
set_option maxRecDepth 100000 in
theorem b9_insertOnDesk_21_s {p : Program} {l : Launch} {e : Env} {s : State} {m : MethodId} {args : Array Value} {below : List Frame} {meth : Method} {c : Code} {D : va_G} {cI cZ cO : ClassId} {ad : Nat → Nat} {gh : rC_gh} {de : Nat} (E : rC_E D cI cZ cO ad gh (rC_K ad gh) RX9 cX9_insertOnDesk 7 none p s m args meth c)   (k21 : rv_Mem → Int32 → Int32 → Int32 → Int32 → Int32 → Int32 → Option (rv_Mem)) (h21 : ∀ (M : rv_Mem) (x1 : Int32) (x2 : Int32) (x3 : Int32) (x4 : Int32) (x5 : Int32) (x6 : Int32), rv_M (rC_G D cI cZ cO ad gh de) (rC_K ad gh) p l e rm9_insertOnDesk s m args below meth c 0 0 (rC_qV D cI cZ cO ad gh de below args s) (k21 M x1 x2 x3 x4 x5 x6) 21 [some (.ref (ad 1)), some (.int x1), some (.int x2), some (.int x3), some (.int x4), some (.int x5), some (.int x6)] [] M) : ∀ (M : rv_Mem) (x1 : Int32) (x2 : Int32) (x3 : Int32) (x4 : Int32) (x5 : Int32) (x6 : Int32), rv_M (rC_G D cI cZ cO ad gh de) (rC_K ad gh) p l e rm9_insertOnDesk s m args below meth c 0 0 (rC_qV D cI cZ cO ad gh de below args s) (f9_insertOnDesk_21_s gh k21 M x1 x2 x3 x4 x5 x6) 21 [some (.ref (ad 1)), some (.int x1), some (.int x2), some (.int x3), some (.int x4), some (.int x5), some (.int x6)] [] M := by
  intro M x1 x2 x3 x4 x5 x6
  unfold f9_insertOnDesk_21_s
  refine rv_iload (q := 23) E.x dX9_insertOnDesk_21 rfl rfl ?_
  refine rv_iload_n (q := 24) E.x dX9_insertOnDesk_23 rfl rfl ?_
  refine rv_icmp_le (q := 27) (tgt := 56) E.x dX9_insertOnDesk_24 (by decide) rfl ?_ ?_
  · refine rv_aload_n (q := 28) E.x dX9_insertOnDesk_27 rfl rfl ?_
    refine rC_getX9 (q := 31) E 1 0 wfX9_11 rfl (Nat.le_of_ble_eq_true rfl) ⟨rfl, rfl⟩ rfl dX9_insertOnDesk_28 rfl ?_
    refine rv_iload (q := 33) E.x dX9_insertOnDesk_31 rfl rfl ?_
    refine rv_iload (q := 35) E.x dX9_insertOnDesk_33 rfl rfl ?_
    refine rv_iadd (q := 36) E.x dX9_insertOnDesk_35 rfl ?_
    refine rv_aload_n (q := 37) E.x dX9_insertOnDesk_36 rfl rfl ?_
    refine rv_bipush (q := 39) E.x dX9_insertOnDesk_37 rv_kb80 rfl ?_
    refine rv_iload_n (q := 40) E.x dX9_insertOnDesk_39 rfl rfl ?_
    refine rv_iload (q := 42) E.x dX9_insertOnDesk_40 rfl rfl ?_
    refine rv_iconst (q := 43) E.x dX9_insertOnDesk_42 rv_ki1 rfl ?_
    refine rv_isub (q := 44) E.x dX9_insertOnDesk_43 rfl ?_
    refine rv_b1 (fun r2 e1 => ?_)
    refine rC_calliX9 (q := 47) E ⟨rfl, rfl⟩ (c9_lineAt E.2.2.1 e1) gX9_77 hX9_lineAt ⟨rfl, rfl⟩ ⟨Nat.le_of_ble_eq_true rfl, Nat.le_of_ble_eq_true rfl⟩ ⟨Nat.le_of_ble_eq_true rfl, Nat.le_of_ble_eq_true rfl⟩ rfl rfl rfl (Nat.le_of_ble_eq_true rfl) dX9_insertOnDesk_44 rfl ?_
    refine rv_b1 (fun M4 e3 => ?_)
    refine rC_callsv (q := 50) E (c9_write E.2.2.1 e3) gX9_70 hX9_write ⟨rfl, rfl⟩ ⟨Nat.le_of_ble_eq_true rfl, Nat.le_of_ble_eq_true rfl⟩ ⟨Nat.le_of_ble_eq_true rfl, Nat.le_of_ble_eq_true rfl⟩ rfl rfl rfl (Nat.le_of_ble_eq_true rfl) dX9_insertOnDesk_47 rfl ?_
    refine rv_iinc (q := 53) (lv' := [_, _, _, _, _, _, _]) E.x dX9_insertOnDesk_50 rv_kim1 rfl rfl rfl rfl ?_
    refine rv_goto (q := 21) E.x dX9_insertOnDesk_53 (by decide) ?_
    refine rv_wk [true, true, true, true, true, true, true] ?_
    exact h21 M4 x1 x2 x3 x4 x5 (x6 + (-1))
  · refine rv_aload_n (q := 57) E.x dX9_insertOnDesk_56 rfl rfl ?_
    refine rC_getX9 (q := 60) E 1 0 wfX9_11 rfl (Nat.le_of_ble_eq_true rfl) ⟨rfl, rfl⟩ rfl dX9_insertOnDesk_57 rfl ?_
    refine rv_iload (q := 62) E.x dX9_insertOnDesk_60 rfl rfl ?_
    refine rv_iload_n (q := 63) E.x dX9_insertOnDesk_62 rfl rfl ?_
    refine rv_iadd (q := 64) E.x dX9_insertOnDesk_63 rfl ?_
    refine rv_iload_n (q := 65) E.x dX9_insertOnDesk_64 rfl rfl ?_
    refine rv_b1 (fun M6 e5 => ?_)
    refine rC_callsv (q := 68) E (c9_write E.2.2.1 e5) gX9_70 hX9_write ⟨rfl, rfl⟩ ⟨Nat.le_of_ble_eq_true rfl, Nat.le_of_ble_eq_true rfl⟩ ⟨Nat.le_of_ble_eq_true rfl, Nat.le_of_ble_eq_true rfl⟩ rfl rfl rfl (Nat.le_of_ble_eq_true rfl) dX9_insertOnDesk_65 rfl ?_
    refine rv_aload_n (q := 69) E.x dX9_insertOnDesk_68 rfl rfl ?_
    refine rC_getX9 (q := 72) E 1 1 wfX9_15 rfl (Nat.le_of_ble_eq_true rfl) ⟨rfl, rfl⟩ rfl dX9_insertOnDesk_69 rfl ?_
    refine rv_sipush (q := 75) E.x dX9_insertOnDesk_72 rv_ks320 rfl ?_
    refine rv_iload_n (q := 76) E.x dX9_insertOnDesk_75 rfl rfl ?_
    refine rv_iadd (q := 77) E.x dX9_insertOnDesk_76 rfl ?_
    refine rv_iload (q := 79) E.x dX9_insertOnDesk_77 rfl rfl ?_
    refine rv_iconst (q := 80) E.x dX9_insertOnDesk_79 rv_ki1 rfl ?_
    refine rv_iadd (q := 81) E.x dX9_insertOnDesk_80 rfl ?_
    refine rv_b1 (fun M8 e7 => ?_)
    refine rC_callsv (q := 84) E (c9_write E.2.2.1 e7) gX9_70 hX9_write ⟨rfl, rfl⟩ ⟨Nat.le_of_ble_eq_true rfl, Nat.le_of_ble_eq_true rfl⟩ ⟨Nat.le_of_ble_eq_true rfl, Nat.le_of_ble_eq_true rfl⟩ rfl rfl rfl (Nat.le_of_ble_eq_true rfl) dX9_insertOnDesk_81 rfl ?_
    exact rC_vret E rfl dX9_insertOnDesk_84
theorem b9_insertOnDesk_21 {p : Program} {l : Launch} {e : Env} {s : State} {m : MethodId} {args : Array Value} {below : List Frame} {meth : Method} {c : Code} {D : va_G} {cI cZ cO : ClassId} {ad : Nat → Nat} {gh : rC_gh} {de : Nat} (E : rC_E D cI cZ cO ad gh (rC_K ad gh) RX9 cX9_insertOnDesk 7 none p s m args meth c)   : ∀ (n : Nat), ∀ (M : rv_Mem) (x1 : Int32) (x2 : Int32) (x3 : Int32) (x4 : Int32) (x5 : Int32) (x6 : Int32), rv_M (rC_G D cI cZ cO ad gh de) (rC_K ad gh) p l e rm9_insertOnDesk s m args below meth c 0 0 (rC_qV D cI cZ cO ad gh de below args s) (f9_insertOnDesk_21 gh n M x1 x2 x3 x4 x5 x6) 21 [some (.ref (ad 1)), some (.int x1), some (.int x2), some (.int x3), some (.int x4), some (.int x5), some (.int x6)] [] M := by
  intro n
  induction n with
  | zero => exact fun _ _ _ _ _ _ _ => rv_stuck
  | succ n ih => exact b9_insertOnDesk_21_s E  (f9_insertOnDesk_21 gh n) ih
set_option maxRecDepth 100000 in
theorem b9_insertOnDesk {p : Program} {l : Launch} {e : Env} {s : State} {m : MethodId} {args : Array Value} {below : List Frame} {meth : Method} {c : Code} {D : va_G} {cI cZ cO : ClassId} {ad : Nat → Nat} {gh : rC_gh} {de : Nat} (E : rC_E D cI cZ cO ad gh (rC_K ad gh) RX9 cX9_insertOnDesk 7 none p s m args meth c) (M : rv_Mem) (a1 : Int32) (a2 : Int32) (a3 : Int32) : rv_M (rC_G D cI cZ cO ad gh de) (rC_K ad gh) p l e rm9_insertOnDesk s m args below meth c 0 0 (rC_qV D cI cZ cO ad gh de below args s) (f9_insertOnDesk gh M a1 a2 a3) 0 [some (.ref (ad 1)), some (.int a1), some (.int a2), some (.int a3), none, none, none] [] M := by
  unfold f9_insertOnDesk
  refine rv_bipush (q := 2) E.x dX9_insertOnDesk_0 rv_kb80 rfl ?_
  refine rv_iload_n (q := 3) E.x dX9_insertOnDesk_2 rfl rfl ?_
  refine rv_b1 (fun r2 e1 => ?_)
  refine rC_calls (q := 6) E (c9_startOf e1) gX9_74 hX9_startOf ⟨rfl, rfl⟩ ⟨Nat.le_of_ble_eq_true rfl, Nat.le_of_ble_eq_true rfl⟩ ⟨Nat.le_of_ble_eq_true rfl, Nat.le_of_ble_eq_true rfl⟩ rfl rfl rfl (Nat.le_of_ble_eq_true rfl) dX9_insertOnDesk_3 rfl ?_
  refine rv_istore (q := 8) (lv' := [_, _, _, _, _, _, _]) E.x dX9_insertOnDesk_6 (Nat.le_of_ble_eq_true rfl) rfl rfl rfl ?_
  refine rv_aload_n (q := 9) E.x dX9_insertOnDesk_8 rfl rfl ?_
  refine rv_bipush (q := 11) E.x dX9_insertOnDesk_9 rv_kb80 rfl ?_
  refine rv_iload_n (q := 12) E.x dX9_insertOnDesk_11 rfl rfl ?_
  refine rv_b1 (fun r4 e3 => ?_)
  refine rC_calliX9 (q := 15) E ⟨rfl, rfl⟩ (c9_sizeOf E.2.2.1 e3) gX9_66 hX9_sizeOf ⟨rfl, rfl⟩ ⟨Nat.le_of_ble_eq_true rfl, Nat.le_of_ble_eq_true rfl⟩ ⟨Nat.le_of_ble_eq_true rfl, Nat.le_of_ble_eq_true rfl⟩ rfl rfl rfl (Nat.le_of_ble_eq_true rfl) dX9_insertOnDesk_12 rfl ?_
  refine rv_istore (q := 17) (lv' := [_, _, _, _, _, _, _]) E.x dX9_insertOnDesk_15 (Nat.le_of_ble_eq_true rfl) rfl rfl rfl ?_
  refine rv_iload (q := 19) E.x dX9_insertOnDesk_17 rfl rfl ?_
  refine rv_istore (q := 21) (lv' := [_, _, _, _, _, _, _]) E.x dX9_insertOnDesk_19 (Nat.le_of_ble_eq_true rfl) rfl rfl rfl ?_
  refine rv_wk [true, true, true, true, true, true, true] ?_
  exact b9_insertOnDesk_21 E rv_FU M a1 a2 a3 r2 r4 r4
theorem c9_insertOnDesk {l : Launch} {D : va_G} {cI cZ cO : ClassId} {ad : Nat → Nat} {gh : rC_gh} {de : Nat} (hI : rC_I ad gh) {M : rv_Mem} {a1 : Int32} {a2 : Int32} {a3 : Int32} {M1 : rv_Mem} (h : f9_insertOnDesk gh M a1 a2 a3 = some M1) : Met l yX9_insertOnDesk (rv_ws yX9_insertOnDesk cX9_insertOnDesk 7 none) rm9_insertOnDesk (rC_Pc D cI cZ cO ad gh de [.ref (ad 1), .int a1, .int a2, .int a3] M) (rC_QV D cI cZ cO ad gh de M1) 0 0 (rC_K ad gh) := rC_met hI rfl (by decide) (Nat.le_of_ble_eq_true rfl) (fun p e s m args below meth c E => ⟨(rC_qV D cI cZ cO ad gh de below args s), rfl, b9_insertOnDesk E M a1 a2 a3⟩) h
abbrev rm9_removeFromDesk : Room := { frames := 1, cells := 0, slots := 0, locals := 25 }
set_option maxRecDepth 100000 in
theorem b9_removeFromDesk_21_s {p : Program} {l : Launch} {e : Env} {s : State} {m : MethodId} {args : Array Value} {below : List Frame} {meth : Method} {c : Code} {D : va_G} {cI cZ cO : ClassId} {ad : Nat → Nat} {gh : rC_gh} {de : Nat} (E : rC_E D cI cZ cO ad gh (rC_K ad gh) RX9 cX9_removeFromDesk 6 none p s m args meth c)   (k21 : rv_Mem → Int32 → Int32 → Int32 → Int32 → Option (rv_Mem)) (h21 : ∀ (M : rv_Mem) (x1 : Int32) (x3 : Int32) (x4 : Int32) (x5 : Int32), rv_M (rC_G D cI cZ cO ad gh de) (rC_K ad gh) p l e rm9_removeFromDesk s m args below meth c 0 0 (rC_qV D cI cZ cO ad gh de below args s) (k21 M x1 x3 x4 x5) 21 [some (.ref (ad 1)), some (.int x1), none, some (.int x3), some (.int x4), some (.int x5)] [] M) : ∀ (M : rv_Mem) (x1 : Int32) (x3 : Int32) (x4 : Int32) (x5 : Int32), rv_M (rC_G D cI cZ cO ad gh de) (rC_K ad gh) p l e rm9_removeFromDesk s m args below meth c 0 0 (rC_qV D cI cZ cO ad gh de below args s) (f9_removeFromDesk_21_s gh k21 M x1 x3 x4 x5) 21 [some (.ref (ad 1)), some (.int x1), none, some (.int x3), some (.int x4), some (.int x5)] [] M := by
  intro M x1 x3 x4 x5
  unfold f9_removeFromDesk_21_s
  refine rv_iload (q := 23) E.x dX9_removeFromDesk_21 rfl rfl ?_
  refine rv_iload (q := 25) E.x dX9_removeFromDesk_23 rfl rfl ?_
  refine rv_icmp_ge (q := 28) (tgt := 56) E.x dX9_removeFromDesk_25 (by decide) rfl ?_ ?_
  · refine rv_aload_n (q := 29) E.x dX9_removeFromDesk_28 rfl rfl ?_
    refine rC_getX9 (q := 32) E 1 0 wfX9_11 rfl (Nat.le_of_ble_eq_true rfl) ⟨rfl, rfl⟩ rfl dX9_removeFromDesk_29 rfl ?_
    refine rv_iload_n (q := 33) E.x dX9_removeFromDesk_32 rfl rfl ?_
    refine rv_iload (q := 35) E.x dX9_removeFromDesk_33 rfl rfl ?_
    refine rv_iadd (q := 36) E.x dX9_removeFromDesk_35 rfl ?_
    refine rv_iconst (q := 37) E.x dX9_removeFromDesk_36 rv_ki1 rfl ?_
    refine rv_isub (q := 38) E.x dX9_removeFromDesk_37 rfl ?_
    refine rv_aload_n (q := 39) E.x dX9_removeFromDesk_38 rfl rfl ?_
    refine rv_bipush (q := 41) E.x dX9_removeFromDesk_39 rv_kb80 rfl ?_
    refine rv_iload_n (q := 42) E.x dX9_removeFromDesk_41 rfl rfl ?_
    refine rv_iload (q := 44) E.x dX9_removeFromDesk_42 rfl rfl ?_
    refine rv_b1 (fun r2 e1 => ?_)
    refine rC_calliX9 (q := 47) E ⟨rfl, rfl⟩ (c9_lineAt E.2.2.1 e1) gX9_77 hX9_lineAt ⟨rfl, rfl⟩ ⟨Nat.le_of_ble_eq_true rfl, Nat.le_of_ble_eq_true rfl⟩ ⟨Nat.le_of_ble_eq_true rfl, Nat.le_of_ble_eq_true rfl⟩ rfl rfl rfl (Nat.le_of_ble_eq_true rfl) dX9_removeFromDesk_44 rfl ?_
    refine rv_b1 (fun M4 e3 => ?_)
    refine rC_callsv (q := 50) E (c9_write E.2.2.1 e3) gX9_70 hX9_write ⟨rfl, rfl⟩ ⟨Nat.le_of_ble_eq_true rfl, Nat.le_of_ble_eq_true rfl⟩ ⟨Nat.le_of_ble_eq_true rfl, Nat.le_of_ble_eq_true rfl⟩ rfl rfl rfl (Nat.le_of_ble_eq_true rfl) dX9_removeFromDesk_47 rfl ?_
    refine rv_iinc (q := 53) (lv' := [_, _, _, _, _, _]) E.x dX9_removeFromDesk_50 rv_ki1 rfl rfl rfl rfl ?_
    refine rv_goto (q := 21) E.x dX9_removeFromDesk_53 (by decide) ?_
    refine rv_wk [true, true, false, true, true, true] ?_
    exact h21 M4 x1 x3 x4 (x5 + 1)
  · refine rv_aload_n (q := 57) E.x dX9_removeFromDesk_56 rfl rfl ?_
    refine rC_getX9 (q := 60) E 1 1 wfX9_15 rfl (Nat.le_of_ble_eq_true rfl) ⟨rfl, rfl⟩ rfl dX9_removeFromDesk_57 rfl ?_
    refine rv_sipush (q := 63) E.x dX9_removeFromDesk_60 rv_ks320 rfl ?_
    refine rv_iload_n (q := 64) E.x dX9_removeFromDesk_63 rfl rfl ?_
    refine rv_iadd (q := 65) E.x dX9_removeFromDesk_64 rfl ?_
    refine rv_iload (q := 67) E.x dX9_removeFromDesk_65 rfl rfl ?_
    refine rv_iconst (q := 68) E.x dX9_removeFromDesk_67 rv_ki1 rfl ?_
    refine rv_isub (q := 69) E.x dX9_removeFromDesk_68 rfl ?_
    refine rv_b1 (fun M6 e5 => ?_)
    refine rC_callsv (q := 72) E (c9_write E.2.2.1 e5) gX9_70 hX9_write ⟨rfl, rfl⟩ ⟨Nat.le_of_ble_eq_true rfl, Nat.le_of_ble_eq_true rfl⟩ ⟨Nat.le_of_ble_eq_true rfl, Nat.le_of_ble_eq_true rfl⟩ rfl rfl rfl (Nat.le_of_ble_eq_true rfl) dX9_removeFromDesk_69 rfl ?_
    exact rC_vret E rfl dX9_removeFromDesk_72
theorem b9_removeFromDesk_21 {p : Program} {l : Launch} {e : Env} {s : State} {m : MethodId} {args : Array Value} {below : List Frame} {meth : Method} {c : Code} {D : va_G} {cI cZ cO : ClassId} {ad : Nat → Nat} {gh : rC_gh} {de : Nat} (E : rC_E D cI cZ cO ad gh (rC_K ad gh) RX9 cX9_removeFromDesk 6 none p s m args meth c)   : ∀ (n : Nat), ∀ (M : rv_Mem) (x1 : Int32) (x3 : Int32) (x4 : Int32) (x5 : Int32), rv_M (rC_G D cI cZ cO ad gh de) (rC_K ad gh) p l e rm9_removeFromDesk s m args below meth c 0 0 (rC_qV D cI cZ cO ad gh de below args s) (f9_removeFromDesk_21 gh n M x1 x3 x4 x5) 21 [some (.ref (ad 1)), some (.int x1), none, some (.int x3), some (.int x4), some (.int x5)] [] M := by
  intro n
  induction n with
  | zero => exact fun _ _ _ _ _ => rv_stuck
  | succ n ih => exact b9_removeFromDesk_21_s E  (f9_removeFromDesk_21 gh n) ih
set_option maxRecDepth 100000 in
theorem b9_removeFromDesk {p : Program} {l : Launch} {e : Env} {s : State} {m : MethodId} {args : Array Value} {below : List Frame} {meth : Method} {c : Code} {D : va_G} {cI cZ cO : ClassId} {ad : Nat → Nat} {gh : rC_gh} {de : Nat} (E : rC_E D cI cZ cO ad gh (rC_K ad gh) RX9 cX9_removeFromDesk 6 none p s m args meth c) (M : rv_Mem) (a1 : Int32) (a2 : Int32) : rv_M (rC_G D cI cZ cO ad gh de) (rC_K ad gh) p l e rm9_removeFromDesk s m args below meth c 0 0 (rC_qV D cI cZ cO ad gh de below args s) (f9_removeFromDesk gh M a1 a2) 0 [some (.ref (ad 1)), some (.int a1), some (.int a2), none, none, none] [] M := by
  unfold f9_removeFromDesk
  refine rv_bipush (q := 2) E.x dX9_removeFromDesk_0 rv_kb80 rfl ?_
  refine rv_iload_n (q := 3) E.x dX9_removeFromDesk_2 rfl rfl ?_
  refine rv_b1 (fun r2 e1 => ?_)
  refine rC_calls (q := 6) E (c9_startOf e1) gX9_74 hX9_startOf ⟨rfl, rfl⟩ ⟨Nat.le_of_ble_eq_true rfl, Nat.le_of_ble_eq_true rfl⟩ ⟨Nat.le_of_ble_eq_true rfl, Nat.le_of_ble_eq_true rfl⟩ rfl rfl rfl (Nat.le_of_ble_eq_true rfl) dX9_removeFromDesk_3 rfl ?_
  refine rv_istore_n (q := 7) (lv' := [_, _, _, _, _, _]) E.x dX9_removeFromDesk_6 (Nat.le_of_ble_eq_true rfl) rfl rfl rfl ?_
  refine rv_aload_n (q := 8) E.x dX9_removeFromDesk_7 rfl rfl ?_
  refine rv_bipush (q := 10) E.x dX9_removeFromDesk_8 rv_kb80 rfl ?_
  refine rv_iload_n (q := 11) E.x dX9_removeFromDesk_10 rfl rfl ?_
  refine rv_b1 (fun r4 e3 => ?_)
  refine rC_calliX9 (q := 14) E ⟨rfl, rfl⟩ (c9_sizeOf E.2.2.1 e3) gX9_66 hX9_sizeOf ⟨rfl, rfl⟩ ⟨Nat.le_of_ble_eq_true rfl, Nat.le_of_ble_eq_true rfl⟩ ⟨Nat.le_of_ble_eq_true rfl, Nat.le_of_ble_eq_true rfl⟩ rfl rfl rfl (Nat.le_of_ble_eq_true rfl) dX9_removeFromDesk_11 rfl ?_
  refine rv_istore (q := 16) (lv' := [_, _, _, _, _, _]) E.x dX9_removeFromDesk_14 (Nat.le_of_ble_eq_true rfl) rfl rfl rfl ?_
  refine rv_iload_n (q := 17) E.x dX9_removeFromDesk_16 rfl rfl ?_
  refine rv_iconst (q := 18) E.x dX9_removeFromDesk_17 rv_ki1 rfl ?_
  refine rv_iadd (q := 19) E.x dX9_removeFromDesk_18 rfl ?_
  refine rv_istore (q := 21) (lv' := [_, _, _, _, _, _]) E.x dX9_removeFromDesk_19 (Nat.le_of_ble_eq_true rfl) rfl rfl rfl ?_
  refine rv_wk [true, true, false, true, true, true] ?_
  exact b9_removeFromDesk_21 E rv_FU M a1 r2 r4 (a2 + 1)
theorem c9_removeFromDesk {l : Launch} {D : va_G} {cI cZ cO : ClassId} {ad : Nat → Nat} {gh : rC_gh} {de : Nat} (hI : rC_I ad gh) {M : rv_Mem} {a1 : Int32} {a2 : Int32} {M1 : rv_Mem} (h : f9_removeFromDesk gh M a1 a2 = some M1) : Met l yX9_removeFromDesk (rv_ws yX9_removeFromDesk cX9_removeFromDesk 6 none) rm9_removeFromDesk (rC_Pc D cI cZ cO ad gh de [.ref (ad 1), .int a1, .int a2] M) (rC_QV D cI cZ cO ad gh de M1) 0 0 (rC_K ad gh) := rC_met hI rfl (by decide) (Nat.le_of_ble_eq_true rfl) (fun p e s m args below meth c E => ⟨(rC_qV D cI cZ cO ad gh de below args s), rfl, b9_removeFromDesk E M a1 a2⟩) h
abbrev rm9_makeSet : Room := { frames := 1, cells := 0, slots := 0, locals := 22 }
set_option maxRecDepth 100000 in
theorem b9_makeSet {p : Program} {l : Launch} {e : Env} {s : State} {m : MethodId} {args : Array Value} {below : List Frame} {meth : Method} {c : Code} {D : va_G} {cI cZ cO : ClassId} {ad : Nat → Nat} {gh : rC_gh} {de : Nat} (E : rC_E D cI cZ cO ad gh (rC_K ad gh) RX9 cX9_makeSet 5 none p s m args meth c) (M : rv_Mem) (a1 : Int32) (a2 : Int32) (a3 : Int32) (a4 : Int32) : rv_M (rC_G D cI cZ cO ad gh de) (rC_K ad gh) p l e rm9_makeSet s m args below meth c 0 0 (rC_qV D cI cZ cO ad gh de below args s) (f9_makeSet gh M a1 a2 a3 a4) 0 [some (.ref (ad 1)), some (.int a1), some (.int a2), some (.int a3), some (.int a4)] [] M := by
  unfold f9_makeSet
  refine rv_aload_n (q := 1) E.x dX9_makeSet_0 rfl rfl ?_
  refine rC_getX9 (q := 4) E 1 5 wfX9_27 rfl (Nat.le_of_ble_eq_true rfl) ⟨rfl, rfl⟩ rfl dX9_makeSet_1 rfl ?_
  refine rv_iload_n (q := 5) E.x dX9_makeSet_4 rfl rfl ?_
  refine rv_iload_n (q := 6) E.x dX9_makeSet_5 rfl rfl ?_
  refine rv_b1 (fun M2 e1 => ?_)
  refine rC_callsv (q := 9) E (c9_write E.2.2.1 e1) gX9_70 hX9_write ⟨rfl, rfl⟩ ⟨Nat.le_of_ble_eq_true rfl, Nat.le_of_ble_eq_true rfl⟩ ⟨Nat.le_of_ble_eq_true rfl, Nat.le_of_ble_eq_true rfl⟩ rfl rfl rfl (Nat.le_of_ble_eq_true rfl) dX9_makeSet_6 rfl ?_
  refine rv_aload_n (q := 10) E.x dX9_makeSet_9 rfl rfl ?_
  refine rC_getX9 (q := 13) E 1 6 wfX9_30 rfl (Nat.le_of_ble_eq_true rfl) ⟨rfl, rfl⟩ rfl dX9_makeSet_10 rfl ?_
  refine rv_iload_n (q := 14) E.x dX9_makeSet_13 rfl rfl ?_
  refine rv_iload_n (q := 15) E.x dX9_makeSet_14 rfl rfl ?_
  refine rv_b1 (fun M4 e3 => ?_)
  refine rC_callsv (q := 18) E (c9_write E.2.2.1 e3) gX9_70 hX9_write ⟨rfl, rfl⟩ ⟨Nat.le_of_ble_eq_true rfl, Nat.le_of_ble_eq_true rfl⟩ ⟨Nat.le_of_ble_eq_true rfl, Nat.le_of_ble_eq_true rfl⟩ rfl rfl rfl (Nat.le_of_ble_eq_true rfl) dX9_makeSet_15 rfl ?_
  refine rv_aload_n (q := 19) E.x dX9_makeSet_18 rfl rfl ?_
  refine rC_getX9 (q := 22) E 1 7 wfX9_33 rfl (Nat.le_of_ble_eq_true rfl) ⟨rfl, rfl⟩ rfl dX9_makeSet_19 rfl ?_
  refine rv_iload_n (q := 23) E.x dX9_makeSet_22 rfl rfl ?_
  refine rv_iload (q := 25) E.x dX9_makeSet_23 rfl rfl ?_
  refine rv_b1 (fun M6 e5 => ?_)
  refine rC_callsv (q := 28) E (c9_write E.2.2.1 e5) gX9_70 hX9_write ⟨rfl, rfl⟩ ⟨Nat.le_of_ble_eq_true rfl, Nat.le_of_ble_eq_true rfl⟩ ⟨Nat.le_of_ble_eq_true rfl, Nat.le_of_ble_eq_true rfl⟩ rfl rfl rfl (Nat.le_of_ble_eq_true rfl) dX9_makeSet_25 rfl ?_
  refine rv_aload_n (q := 29) E.x dX9_makeSet_28 rfl rfl ?_
  refine rC_getX9 (q := 32) E 1 9 wfX9_39 rfl (Nat.le_of_ble_eq_true rfl) ⟨rfl, rfl⟩ rfl dX9_makeSet_29 rfl ?_
  refine rv_iload_n (q := 33) E.x dX9_makeSet_32 rfl rfl ?_
  refine rv_iload_n (q := 34) E.x dX9_makeSet_33 rfl rfl ?_
  refine rv_b1 (fun M8 e7 => ?_)
  refine rC_callsv (q := 37) E (c9_write E.2.2.1 e7) gX9_70 hX9_write ⟨rfl, rfl⟩ ⟨Nat.le_of_ble_eq_true rfl, Nat.le_of_ble_eq_true rfl⟩ ⟨Nat.le_of_ble_eq_true rfl, Nat.le_of_ble_eq_true rfl⟩ rfl rfl rfl (Nat.le_of_ble_eq_true rfl) dX9_makeSet_34 rfl ?_
  exact rC_vret E rfl dX9_makeSet_37
theorem c9_makeSet {l : Launch} {D : va_G} {cI cZ cO : ClassId} {ad : Nat → Nat} {gh : rC_gh} {de : Nat} (hI : rC_I ad gh) {M : rv_Mem} {a1 : Int32} {a2 : Int32} {a3 : Int32} {a4 : Int32} {M1 : rv_Mem} (h : f9_makeSet gh M a1 a2 a3 a4 = some M1) : Met l yX9_makeSet (rv_ws yX9_makeSet cX9_makeSet 5 none) rm9_makeSet (rC_Pc D cI cZ cO ad gh de [.ref (ad 1), .int a1, .int a2, .int a3, .int a4] M) (rC_QV D cI cZ cO ad gh de M1) 0 0 (rC_K ad gh) := rC_met hI rfl (by decide) (Nat.le_of_ble_eq_true rfl) (fun p e s m args below meth c E => ⟨(rC_qV D cI cZ cO ad gh de below args s), rfl, b9_makeSet E M a1 a2 a3 a4⟩) h
abbrev rm9_isAgainAt : Room := { frames := 1, cells := 0, slots := 0, locals := 25 }
set_option maxRecDepth 100000 in
theorem b9_isAgainAt_3_s {p : Program} {l : Launch} {e : Env} {s : State} {m : MethodId} {args : Array Value} {below : List Frame} {meth : Method} {c : Code} {D : va_G} {cI cZ cO : ClassId} {ad : Nat → Nat} {gh : rC_gh} {de : Nat} (E : rC_E D cI cZ cO ad gh (rC_K ad gh) RX9 cX9_isAgainAt 6 (some .boolean) p s m args meth c) (M : rv_Mem)   (k3 : Nat → Int32 → Int32 → Int32 → Int32 → Option (Bool)) (h3 : ∀ (x1 : Nat) (x2 : Int32) (x3 : Int32) (x4 : Int32) (x5 : Int32), rv_M (rC_G D cI cZ cO ad gh de) (rC_K ad gh) p l e rm9_isAgainAt s m args below meth c 0 0 (rC_qZ D cI cZ cO ad gh de below args s M) (k3 x1 x2 x3 x4 x5) 3 [some (.ref (ad 1)), some (.ref (ad x1)), some (.int x2), some (.int x3), some (.int x4), some (.int x5)] [] M) : ∀ (x1 : Nat) (x2 : Int32) (x3 : Int32) (x4 : Int32) (x5 : Int32), rv_M (rC_G D cI cZ cO ad gh de) (rC_K ad gh) p l e rm9_isAgainAt s m args below meth c 0 0 (rC_qZ D cI cZ cO ad gh de below args s M) (f9_isAgainAt_3_s gh M k3 x1 x2 x3 x4 x5) 3 [some (.ref (ad 1)), some (.ref (ad x1)), some (.int x2), some (.int x3), some (.int x4), some (.int x5)] [] M := by
  intro x1 x2 x3 x4 x5
  unfold f9_isAgainAt_3_s
  refine rv_iload (q := 5) E.x dX9_isAgainAt_3 rfl rfl ?_
  refine rv_aload_n (q := 6) E.x dX9_isAgainAt_5 rfl rfl ?_
  refine rv_g (fun g1 => ?_)
  refine rC_getX7 (q := 9) E x1 4 wfX9_97 rfl (Nat.le_of_ble_eq_true rfl) (rC_at_of g1) rfl dX9_isAgainAt_6 rfl ?_
  refine rv_icmp_ge (q := 12) (tgt := 53) E.x dX9_isAgainAt_9 (by decide) rfl ?_ ?_
  · refine rv_aload_n (q := 13) E.x dX9_isAgainAt_12 rfl rfl ?_
    refine rv_iload_n (q := 14) E.x dX9_isAgainAt_13 rfl rfl ?_
    refine rv_aload_n (q := 15) E.x dX9_isAgainAt_14 rfl rfl ?_
    refine rC_getX7 (q := 18) E x1 2 wfX9_92 rfl (Nat.le_of_ble_eq_true rfl) (rC_at_of g1) rfl dX9_isAgainAt_15 rfl ?_
    refine rv_aload_n (q := 19) E.x dX9_isAgainAt_18 rfl rfl ?_
    refine rC_getX7 (q := 22) E x1 3 wfX9_104 rfl (Nat.le_of_ble_eq_true rfl) (rC_at_of g1) rfl dX9_isAgainAt_19 rfl ?_
    refine rv_iload (q := 24) E.x dX9_isAgainAt_22 rfl rfl ?_
    refine rv_iadd (q := 25) E.x dX9_isAgainAt_24 rfl ?_
    refine rv_b1 (fun r3 e2 => ?_)
    refine rC_calliX9 (q := 28) E ⟨rfl, rfl⟩ (c9_lineAt E.2.2.1 e2) gX9_77 hX9_lineAt ⟨rfl, rfl⟩ ⟨Nat.le_of_ble_eq_true rfl, Nat.le_of_ble_eq_true rfl⟩ ⟨Nat.le_of_ble_eq_true rfl, Nat.le_of_ble_eq_true rfl⟩ rfl rfl rfl (Nat.le_of_ble_eq_true rfl) dX9_isAgainAt_25 rfl ?_
    refine rv_aload_n (q := 29) E.x dX9_isAgainAt_28 rfl rfl ?_
    refine rv_iload_n (q := 30) E.x dX9_isAgainAt_29 rfl rfl ?_
    refine rv_aload_n (q := 31) E.x dX9_isAgainAt_30 rfl rfl ?_
    refine rC_getX7 (q := 34) E x1 2 wfX9_92 rfl (Nat.le_of_ble_eq_true rfl) (rC_at_of g1) rfl dX9_isAgainAt_31 rfl ?_
    refine rv_iload (q := 36) E.x dX9_isAgainAt_34 rfl rfl ?_
    refine rv_iload (q := 38) E.x dX9_isAgainAt_36 rfl rfl ?_
    refine rv_iadd (q := 39) E.x dX9_isAgainAt_38 rfl ?_
    refine rv_b1 (fun r5 e4 => ?_)
    refine rC_calliX9 (q := 42) E ⟨rfl, rfl⟩ (c9_lineAt E.2.2.1 e4) gX9_77 hX9_lineAt ⟨rfl, rfl⟩ ⟨Nat.le_of_ble_eq_true rfl, Nat.le_of_ble_eq_true rfl⟩ ⟨Nat.le_of_ble_eq_true rfl, Nat.le_of_ble_eq_true rfl⟩ rfl rfl rfl (Nat.le_of_ble_eq_true rfl) dX9_isAgainAt_39 rfl ?_
    refine rv_icmp_eq (q := 45) (tgt := 47) E.x dX9_isAgainAt_42 (by decide) rfl ?_ ?_
    · refine rv_iconst (q := 46) E.x dX9_isAgainAt_45 rv_ki0 rfl ?_
      exact rC_zret E false rfl dX9_isAgainAt_46
    · refine rv_iinc (q := 50) (lv' := [_, _, _, _, _, _]) E.x dX9_isAgainAt_47 rv_ki1 rfl rfl rfl rfl ?_
      refine rv_goto (q := 3) E.x dX9_isAgainAt_50 (by decide) ?_
      refine rv_wk [true, true, true, true, true, true] ?_
      exact h3 x1 x2 x3 x4 (x5 + 1)
  · refine rv_iconst (q := 54) E.x dX9_isAgainAt_53 rv_ki1 rfl ?_
    exact rC_zret E true rfl dX9_isAgainAt_54
theorem b9_isAgainAt_3 {p : Program} {l : Launch} {e : Env} {s : State} {m : MethodId} {args : Array Value} {below : List Frame} {meth : Method} {c : Code} {D : va_G} {cI cZ cO : ClassId} {ad : Nat → Nat} {gh : rC_gh} {de : Nat} (E : rC_E D cI cZ cO ad gh (rC_K ad gh) RX9 cX9_isAgainAt 6 (some .boolean) p s m args meth c) (M : rv_Mem)   : ∀ (n : Nat), ∀ (x1 : Nat) (x2 : Int32) (x3 : Int32) (x4 : Int32) (x5 : Int32), rv_M (rC_G D cI cZ cO ad gh de) (rC_K ad gh) p l e rm9_isAgainAt s m args below meth c 0 0 (rC_qZ D cI cZ cO ad gh de below args s M) (f9_isAgainAt_3 gh M n x1 x2 x3 x4 x5) 3 [some (.ref (ad 1)), some (.ref (ad x1)), some (.int x2), some (.int x3), some (.int x4), some (.int x5)] [] M := by
  intro n
  induction n with
  | zero => exact fun _ _ _ _ _ => rv_stuck
  | succ n ih => exact b9_isAgainAt_3_s E M (f9_isAgainAt_3 gh M n) ih
set_option maxRecDepth 100000 in
theorem b9_isAgainAt {p : Program} {l : Launch} {e : Env} {s : State} {m : MethodId} {args : Array Value} {below : List Frame} {meth : Method} {c : Code} {D : va_G} {cI cZ cO : ClassId} {ad : Nat → Nat} {gh : rC_gh} {de : Nat} (E : rC_E D cI cZ cO ad gh (rC_K ad gh) RX9 cX9_isAgainAt 6 (some .boolean) p s m args meth c) (M : rv_Mem) (a1 : Nat) (a2 : Int32) (a3 : Int32) (a4 : Int32) : rv_M (rC_G D cI cZ cO ad gh de) (rC_K ad gh) p l e rm9_isAgainAt s m args below meth c 0 0 (rC_qZ D cI cZ cO ad gh de below args s M) (f9_isAgainAt gh M a1 a2 a3 a4) 0 [some (.ref (ad 1)), some (.ref (ad a1)), some (.int a2), some (.int a3), some (.int a4), none] [] M := by
  unfold f9_isAgainAt
  refine rv_iconst (q := 1) E.x dX9_isAgainAt_0 rv_ki0 rfl ?_
  refine rv_istore (q := 3) (lv' := [_, _, _, _, _, _]) E.x dX9_isAgainAt_1 (Nat.le_of_ble_eq_true rfl) rfl rfl rfl ?_
  refine rv_wk [true, true, true, true, true, true] ?_
  exact b9_isAgainAt_3 E M rv_FU a1 a2 a3 a4 0
theorem c9_isAgainAt {l : Launch} {D : va_G} {cI cZ cO : ClassId} {ad : Nat → Nat} {gh : rC_gh} {de : Nat} (hI : rC_I ad gh) {M : rv_Mem} {a1 : Nat} {a2 : Int32} {a3 : Int32} {a4 : Int32} {r : Bool} (h : f9_isAgainAt gh M a1 a2 a3 a4 = some r) : Met l yX9_isAgainAt (rv_ws yX9_isAgainAt cX9_isAgainAt 6 (some .boolean)) rm9_isAgainAt (rC_Pc D cI cZ cO ad gh de [.ref (ad 1), .ref (ad a1), .int a2, .int a3, .int a4] M) (rC_QI D cI cZ cO ad gh de (rv_i r) M) 0 0 (rC_K ad gh) := rC_met hI rfl (by decide) (Nat.le_of_ble_eq_true rfl) (fun p e s m args below meth c E => ⟨(rC_qZ D cI cZ cO ad gh de below args s M), rfl, b9_isAgainAt E M a1 a2 a3 a4⟩) h
abbrev rm9_lookFor : Room := { frames := 2, cells := 0, slots := 0, locals := 50 }
set_option maxRecDepth 100000 in
theorem b9_lookFor_61 {p : Program} {l : Launch} {e : Env} {s : State} {m : MethodId} {args : Array Value} {below : List Frame} {meth : Method} {c : Code} {D : va_G} {cI cZ cO : ClassId} {ad : Nat → Nat} {gh : rC_gh} {de : Nat} (E : rC_E D cI cZ cO ad gh (rC_K ad gh) RX9 cX9_lookFor 7 (some .int) p s m args meth c) (M : rv_Mem) (k22 : Nat → Int32 → Int32 → Int32 → Int32 → Int32 → Option (Int32)) (h22 : ∀ (x1 : Nat) (x2 : Int32) (x3 : Int32) (x4 : Int32) (x5 : Int32) (x6 : Int32), rv_M (rC_G D cI cZ cO ad gh de) (rC_K ad gh) p l e rm9_lookFor s m args below meth c 0 0 (rC_qI D cI cZ cO ad gh de below args s M) (k22 x1 x2 x3 x4 x5 x6) 22 [some (.ref (ad 1)), some (.ref (ad x1)), some (.int x2), some (.int x3), some (.int x4), some (.int x5), some (.int x6)] [] M) : ∀ (x1 : Nat) (x2 : Int32) (x3 : Int32) (x4 : Int32) (x5 : Int32) (x6 : Int32), rv_M (rC_G D cI cZ cO ad gh de) (rC_K ad gh) p l e rm9_lookFor s m args below meth c 0 0 (rC_qI D cI cZ cO ad gh de below args s M) (f9_lookFor_61 gh M k22 x1 x2 x3 x4 x5 x6) 61 [some (.ref (ad 1)), some (.ref (ad x1)), some (.int x2), some (.int x3), some (.int x4), some (.int x5), some (.int x6)] [] M := by
  intro x1 x2 x3 x4 x5 x6
  unfold f9_lookFor_61
  refine rv_iinc (q := 64) (lv' := [_, _, _, _, _, _, _]) E.x dX9_lookFor_61 rv_ki1 rfl rfl rfl rfl ?_
  refine rv_goto (q := 22) E.x dX9_lookFor_64 (by decide) ?_
  refine rv_wk [true, true, true, true, true, true, true] ?_
  exact h22 x1 x2 x3 x4 x5 (x6 + 1)
set_option maxRecDepth 100000 in
theorem b9_lookFor_22_s {p : Program} {l : Launch} {e : Env} {s : State} {m : MethodId} {args : Array Value} {below : List Frame} {meth : Method} {c : Code} {D : va_G} {cI cZ cO : ClassId} {ad : Nat → Nat} {gh : rC_gh} {de : Nat} (E : rC_E D cI cZ cO ad gh (rC_K ad gh) RX9 cX9_lookFor 7 (some .int) p s m args meth c) (M : rv_Mem)   (k22 : Nat → Int32 → Int32 → Int32 → Int32 → Int32 → Option (Int32)) (h22 : ∀ (x1 : Nat) (x2 : Int32) (x3 : Int32) (x4 : Int32) (x5 : Int32) (x6 : Int32), rv_M (rC_G D cI cZ cO ad gh de) (rC_K ad gh) p l e rm9_lookFor s m args below meth c 0 0 (rC_qI D cI cZ cO ad gh de below args s M) (k22 x1 x2 x3 x4 x5 x6) 22 [some (.ref (ad 1)), some (.ref (ad x1)), some (.int x2), some (.int x3), some (.int x4), some (.int x5), some (.int x6)] [] M) : ∀ (x1 : Nat) (x2 : Int32) (x3 : Int32) (x4 : Int32) (x5 : Int32) (x6 : Int32), rv_M (rC_G D cI cZ cO ad gh de) (rC_K ad gh) p l e rm9_lookFor s m args below meth c 0 0 (rC_qI D cI cZ cO ad gh de below args s M) (f9_lookFor_22_s gh M k22 x1 x2 x3 x4 x5 x6) 22 [some (.ref (ad 1)), some (.ref (ad x1)), some (.int x2), some (.int x3), some (.int x4), some (.int x5), some (.int x6)] [] M := by
  intro x1 x2 x3 x4 x5 x6
  unfold f9_lookFor_22_s
  refine rv_iload (q := 24) E.x dX9_lookFor_22 rfl rfl ?_
  refine rv_iload (q := 26) E.x dX9_lookFor_24 rfl rfl ?_
  refine rv_icmp_gt (q := 29) (tgt := 67) E.x dX9_lookFor_26 (by decide) rfl ?_ ?_
  · refine rv_aload_n (q := 30) E.x dX9_lookFor_29 rfl rfl ?_
    refine rv_aload_n (q := 31) E.x dX9_lookFor_30 rfl rfl ?_
    refine rv_iload_n (q := 32) E.x dX9_lookFor_31 rfl rfl ?_
    refine rv_iload_n (q := 33) E.x dX9_lookFor_32 rfl rfl ?_
    refine rv_iload (q := 35) E.x dX9_lookFor_33 rfl rfl ?_
    refine rv_b1 (fun r2 e1 => ?_)
    refine rC_calliX9 (q := 38) E ⟨rfl, rfl⟩ (c9_isAgainAt E.2.2.1 e1) gX9_100 hX9_isAgainAt ⟨rfl, rfl⟩ ⟨Nat.le_of_ble_eq_true rfl, Nat.le_of_ble_eq_true rfl⟩ ⟨Nat.le_of_ble_eq_true rfl, Nat.le_of_ble_eq_true rfl⟩ rfl rfl rfl (Nat.le_of_ble_eq_true rfl) dX9_lookFor_35 rfl ?_
    refine rv_ifz_eq (q := 41) (tgt := 61) E.x dX9_lookFor_38 (by decide) rfl ?_ ?_
    · refine rv_iload (q := 43) E.x dX9_lookFor_41 rfl rfl ?_
      refine rv_if_eq (q := 46) (tgt := 48) E.x dX9_lookFor_43 (by decide) rfl ?_ ?_
      · refine rv_iconst (q := 47) E.x dX9_lookFor_46 rv_ki0 rfl ?_
        exact rC_iret E rfl dX9_lookFor_47
      · refine rv_iconst (q := 49) E.x dX9_lookFor_48 rv_ki1 rfl ?_
        refine rv_aload_n (q := 50) E.x dX9_lookFor_49 rfl rfl ?_
        refine rv_g (fun g3 => ?_)
        refine rC_getX7 (q := 53) E x1 4 wfX9_97 rfl (Nat.le_of_ble_eq_true rfl) (rC_at_of g3) rfl dX9_lookFor_50 rfl ?_
        refine rv_ishl (q := 54) E.x dX9_lookFor_53 rfl ?_
        refine rv_iconst (q := 55) E.x dX9_lookFor_54 rv_ki1 rfl ?_
        refine rv_isub (q := 56) E.x dX9_lookFor_55 rfl ?_
        refine rv_iload (q := 58) E.x dX9_lookFor_56 rfl rfl ?_
        refine rv_ishl (q := 59) E.x dX9_lookFor_58 rfl ?_
        refine rv_istore (q := 61) (lv' := [_, _, _, _, _, _, _]) E.x dX9_lookFor_59 (Nat.le_of_ble_eq_true rfl) rfl rfl rfl ?_
        refine rv_wk [true, true, true, true, true, true, true] ?_
        exact b9_lookFor_61 E M k22 h22 x1 x2 x3 ((((1 : Int32) <<< ((M x1 4) &&& 31)) - 1) <<< (x6 &&& 31)) x5 x6
    · refine rv_wk [true, true, true, true, true, true, true] ?_
      exact b9_lookFor_61 E M k22 h22 x1 x2 x3 x4 x5 x6
  · refine rv_iload (q := 69) E.x dX9_lookFor_67 rfl rfl ?_
    exact rC_iret E rfl dX9_lookFor_69
theorem b9_lookFor_22 {p : Program} {l : Launch} {e : Env} {s : State} {m : MethodId} {args : Array Value} {below : List Frame} {meth : Method} {c : Code} {D : va_G} {cI cZ cO : ClassId} {ad : Nat → Nat} {gh : rC_gh} {de : Nat} (E : rC_E D cI cZ cO ad gh (rC_K ad gh) RX9 cX9_lookFor 7 (some .int) p s m args meth c) (M : rv_Mem)   : ∀ (n : Nat), ∀ (x1 : Nat) (x2 : Int32) (x3 : Int32) (x4 : Int32) (x5 : Int32) (x6 : Int32), rv_M (rC_G D cI cZ cO ad gh de) (rC_K ad gh) p l e rm9_lookFor s m args below meth c 0 0 (rC_qI D cI cZ cO ad gh de below args s M) (f9_lookFor_22 gh M n x1 x2 x3 x4 x5 x6) 22 [some (.ref (ad 1)), some (.ref (ad x1)), some (.int x2), some (.int x3), some (.int x4), some (.int x5), some (.int x6)] [] M := by
  intro n
  induction n with
  | zero => exact fun _ _ _ _ _ _ => rv_stuck
  | succ n ih => exact b9_lookFor_22_s E M (f9_lookFor_22 gh M n) ih
set_option maxRecDepth 100000 in
theorem b9_lookFor {p : Program} {l : Launch} {e : Env} {s : State} {m : MethodId} {args : Array Value} {below : List Frame} {meth : Method} {c : Code} {D : va_G} {cI cZ cO : ClassId} {ad : Nat → Nat} {gh : rC_gh} {de : Nat} (E : rC_E D cI cZ cO ad gh (rC_K ad gh) RX9 cX9_lookFor 7 (some .int) p s m args meth c) (M : rv_Mem) (a1 : Nat) (a2 : Int32) (a3 : Int32) : rv_M (rC_G D cI cZ cO ad gh de) (rC_K ad gh) p l e rm9_lookFor s m args below meth c 0 0 (rC_qI D cI cZ cO ad gh de below args s M) (f9_lookFor gh M a1 a2 a3) 0 [some (.ref (ad 1)), some (.ref (ad a1)), some (.int a2), some (.int a3), none, none, none] [] M := by
  unfold f9_lookFor
  refine rv_iconst (q := 1) E.x dX9_lookFor_0 rv_ki0 rfl ?_
  refine rv_istore (q := 3) (lv' := [_, _, _, _, _, _, _]) E.x dX9_lookFor_1 (Nat.le_of_ble_eq_true rfl) rfl rfl rfl ?_
  refine rv_aload_n (q := 4) E.x dX9_lookFor_3 rfl rfl ?_
  refine rv_iload_n (q := 5) E.x dX9_lookFor_4 rfl rfl ?_
  refine rv_aload_n (q := 6) E.x dX9_lookFor_5 rfl rfl ?_
  refine rv_g (fun g1 => ?_)
  refine rC_getX7 (q := 9) E a1 2 wfX9_92 rfl (Nat.le_of_ble_eq_true rfl) (rC_at_of g1) rfl dX9_lookFor_6 rfl ?_
  refine rv_b1 (fun r3 e2 => ?_)
  refine rC_calliX9 (q := 12) E ⟨rfl, rfl⟩ (c9_sizeOf E.2.2.1 e2) gX9_66 hX9_sizeOf ⟨rfl, rfl⟩ ⟨Nat.le_of_ble_eq_true rfl, Nat.le_of_ble_eq_true rfl⟩ ⟨Nat.le_of_ble_eq_true rfl, Nat.le_of_ble_eq_true rfl⟩ rfl rfl rfl (Nat.le_of_ble_eq_true rfl) dX9_lookFor_9 rfl ?_
  refine rv_aload_n (q := 13) E.x dX9_lookFor_12 rfl rfl ?_
  refine rC_getX7 (q := 16) E a1 4 wfX9_97 rfl (Nat.le_of_ble_eq_true rfl) (rC_at_of g1) rfl dX9_lookFor_13 rfl ?_
  refine rv_isub (q := 17) E.x dX9_lookFor_16 rfl ?_
  refine rv_istore (q := 19) (lv' := [_, _, _, _, _, _, _]) E.x dX9_lookFor_17 (Nat.le_of_ble_eq_true rfl) rfl rfl rfl ?_
  refine rv_iconst (q := 20) E.x dX9_lookFor_19 rv_ki0 rfl ?_
  refine rv_istore (q := 22) (lv' := [_, _, _, _, _, _, _]) E.x dX9_lookFor_20 (Nat.le_of_ble_eq_true rfl) rfl rfl rfl ?_
  refine rv_wk [true, true, true, true, true, true, true] ?_
  exact b9_lookFor_22 E M rv_FU a1 a2 a3 0 (r3 - (M a1 4)) 0
theorem c9_lookFor {l : Launch} {D : va_G} {cI cZ cO : ClassId} {ad : Nat → Nat} {gh : rC_gh} {de : Nat} (hI : rC_I ad gh) {M : rv_Mem} {a1 : Nat} {a2 : Int32} {a3 : Int32} {r : Int32} (h : f9_lookFor gh M a1 a2 a3 = some r) : Met l yX9_lookFor (rv_ws yX9_lookFor cX9_lookFor 7 (some .int)) rm9_lookFor (rC_Pc D cI cZ cO ad gh de [.ref (ad 1), .ref (ad a1), .int a2, .int a3] M) (rC_QI D cI cZ cO ad gh de r M) 0 0 (rC_K ad gh) := rC_met hI rfl (by decide) (Nat.le_of_ble_eq_true rfl) (fun p e s m args below meth c E => ⟨(rC_qI D cI cZ cO ad gh de below args s M), rfl, b9_lookFor E M a1 a2 a3⟩) h
abbrev rm10_indexOf : Room := { frames := 0, cells := 0, slots := 0, locals := 0 }
set_option maxRecDepth 100000 in
theorem b10_indexOf {p : Program} {l : Launch} {e : Env} {s : State} {m : MethodId} {args : Array Value} {below : List Frame} {meth : Method} {c : Code} (E : rP_E RX10 cX10_indexOf 3 (some .int) p s m args meth c) (a1 : Int32) (a2 : Int32) (a3 : Int32) : rv_M (fun (_ : Unit) _ => True) (fun _ => False) p l e rm10_indexOf s m args below meth c 0 0 (rS_qI below args s) (f10_indexOf a1 a2 a3) 0 [some (.int a1), some (.int a2), some (.int a3)] [] () := by
  unfold f10_indexOf
  refine rv_iload_n (q := 1) E.x dX10_indexOf_0 rfl rfl ?_
  refine rv_iconst (q := 2) E.x dX10_indexOf_1 rv_ki2 rfl ?_
  refine rv_imul (q := 3) E.x dX10_indexOf_2 rfl ?_
  refine rv_iload_n (q := 4) E.x dX10_indexOf_3 rfl rfl ?_
  refine rv_iadd (q := 5) E.x dX10_indexOf_4 rfl ?_
  refine rv_bipush (q := 7) E.x dX10_indexOf_5 rv_kb6 rfl ?_
  refine rv_imul (q := 8) E.x dX10_indexOf_7 rfl ?_
  refine rv_iload_n (q := 9) E.x dX10_indexOf_8 rfl rfl ?_
  refine rv_iadd (q := 10) E.x dX10_indexOf_9 rfl ?_
  exact rP_sret E rfl dX10_indexOf_10
theorem c10_indexOf {l : Launch} {a1 : Int32} {a2 : Int32} {a3 : Int32} {r : Int32} (h : f10_indexOf a1 a2 a3 = some r) : Met l yX10_indexOf (rv_ws yX10_indexOf cX10_indexOf 3 (some .int)) rm10_indexOf (va_Pc [.int a1, .int a2, .int a3] (fun _ => True)) (rR_SQ r) 0 0 (fun _ => False) := rP_mets rfl (by decide) (rv_cat rfl) (Nat.le_of_ble_eq_true rfl) (fun p e s m args below meth c E => ⟨rS_qI below args s, rfl, b10_indexOf E a1 a2 a3⟩) h
abbrev rm10_castVote : Room := { frames := 1, cells := 0, slots := 0, locals := 22 }
set_option maxRecDepth 100000 in
theorem b10_castVote {p : Program} {l : Launch} {e : Env} {s : State} {m : MethodId} {args : Array Value} {below : List Frame} {meth : Method} {c : Code} {D : va_G} {cI cZ cO : ClassId} {ad : Nat → Nat} {gh : rC_gh} {de : Nat} (E : rC_E D cI cZ cO ad gh (rC_K ad gh) RX10 cX10_castVote 5 none p s m args meth c) (M : rv_Mem) (a1 : Int32) (a2 : Int32) (a3 : Int32) (a4 : Int32) : rv_M (rC_G D cI cZ cO ad gh de) (rC_K ad gh) p l e rm10_castVote s m args below meth c 0 0 (rC_qV D cI cZ cO ad gh de below args s) (f10_castVote gh M a1 a2 a3 a4) 0 [some (.ref (ad 3)), some (.int a1), some (.int a2), some (.int a3), some (.int a4)] [] M := by
  unfold f10_castVote
  refine rv_aload_n (q := 1) E.x dX10_castVote_0 rfl rfl ?_
  refine rC_getX10 (q := 4) E 3 1 wfX10_9 rfl (Nat.le_of_ble_eq_true rfl) ⟨rfl, rfl⟩ rfl dX10_castVote_1 rfl ?_
  refine rv_iload_n (q := 5) E.x dX10_castVote_4 rfl rfl ?_
  refine rv_iload_n (q := 6) E.x dX10_castVote_5 rfl rfl ?_
  refine rv_iload_n (q := 7) E.x dX10_castVote_6 rfl rfl ?_
  refine rv_b1 (fun r2 e1 => ?_)
  refine rC_calls (q := 10) E (c10_indexOf e1) gX10_28 hX10_indexOf ⟨rfl, rfl⟩ ⟨Nat.le_of_ble_eq_true rfl, Nat.le_of_ble_eq_true rfl⟩ ⟨Nat.le_of_ble_eq_true rfl, Nat.le_of_ble_eq_true rfl⟩ rfl rfl rfl (Nat.le_of_ble_eq_true rfl) dX10_castVote_7 rfl ?_
  refine rv_iload (q := 12) E.x dX10_castVote_10 rfl rfl ?_
  refine rv_b1 (fun M4 e3 => ?_)
  refine rC_callsv (q := 15) E (c9_write E.2.2.1 e3) gX10_32 hX9_write ⟨rfl, rfl⟩ ⟨Nat.le_of_ble_eq_true rfl, Nat.le_of_ble_eq_true rfl⟩ ⟨Nat.le_of_ble_eq_true rfl, Nat.le_of_ble_eq_true rfl⟩ rfl rfl rfl (Nat.le_of_ble_eq_true rfl) dX10_castVote_12 rfl ?_
  exact rC_vret E rfl dX10_castVote_15
theorem c10_castVote {l : Launch} {D : va_G} {cI cZ cO : ClassId} {ad : Nat → Nat} {gh : rC_gh} {de : Nat} (hI : rC_I ad gh) {M : rv_Mem} {a1 : Int32} {a2 : Int32} {a3 : Int32} {a4 : Int32} {M1 : rv_Mem} (h : f10_castVote gh M a1 a2 a3 a4 = some M1) : Met l yX10_castVote (rv_ws yX10_castVote cX10_castVote 5 none) rm10_castVote (rC_Pc D cI cZ cO ad gh de [.ref (ad 3), .int a1, .int a2, .int a3, .int a4] M) (rC_QV D cI cZ cO ad gh de M1) 0 0 (rC_K ad gh) := rC_met hI rfl (by decide) (Nat.le_of_ble_eq_true rfl) (fun p e s m args below meth c E => ⟨(rC_qV D cI cZ cO ad gh de below args s), rfl, b10_castVote E M a1 a2 a3 a4⟩) h
abbrev rm10_replaceCopied : Room := { frames := 1, cells := 0, slots := 0, locals := 22 }
set_option maxRecDepth 100000 in
theorem b10_replaceCopied {p : Program} {l : Launch} {e : Env} {s : State} {m : MethodId} {args : Array Value} {below : List Frame} {meth : Method} {c : Code} {D : va_G} {cI cZ cO : ClassId} {ad : Nat → Nat} {gh : rC_gh} {de : Nat} (E : rC_E D cI cZ cO ad gh (rC_K ad gh) RX10 cX10_replaceCopied 4 (some .int) p s m args meth c) (M : rv_Mem) (a1 : Int32) (a2 : Int32) : rv_M (rC_G D cI cZ cO ad gh de) (rC_K ad gh) p l e rm10_replaceCopied s m args below meth c 0 0 (rC_qIW D cI cZ cO ad gh de below args s) (f10_replaceCopied gh M a1 a2) 0 [some (.ref (ad 3)), some (.int a1), some (.int a2), none] [] M := by
  unfold f10_replaceCopied
  refine rv_aload_n (q := 1) E.x dX10_replaceCopied_0 rfl rfl ?_
  refine rC_getX10 (q := 4) E 3 2 wfX10_15 rfl (Nat.le_of_ble_eq_true rfl) ⟨rfl, rfl⟩ rfl dX10_replaceCopied_1 rfl ?_
  refine rv_iload_n (q := 5) E.x dX10_replaceCopied_4 rfl rfl ?_
  refine rv_b1 (fun r2 e1 => ?_)
  refine rC_callsi (q := 8) E (c9_read E.2.2.1 e1) gX10_38 hX9_read ⟨rfl, rfl⟩ ⟨Nat.le_of_ble_eq_true rfl, Nat.le_of_ble_eq_true rfl⟩ ⟨Nat.le_of_ble_eq_true rfl, Nat.le_of_ble_eq_true rfl⟩ rfl rfl rfl (Nat.le_of_ble_eq_true rfl) dX10_replaceCopied_5 rfl ?_
  refine rv_istore_n (q := 9) (lv' := [_, _, _, _]) E.x dX10_replaceCopied_8 (Nat.le_of_ble_eq_true rfl) rfl rfl rfl ?_
  refine rv_aload_n (q := 10) E.x dX10_replaceCopied_9 rfl rfl ?_
  refine rC_getX10 (q := 13) E 3 2 wfX10_15 rfl (Nat.le_of_ble_eq_true rfl) ⟨rfl, rfl⟩ rfl dX10_replaceCopied_10 rfl ?_
  refine rv_iload_n (q := 14) E.x dX10_replaceCopied_13 rfl rfl ?_
  refine rv_iload_n (q := 15) E.x dX10_replaceCopied_14 rfl rfl ?_
  refine rv_b1 (fun M4 e3 => ?_)
  refine rC_callsv (q := 18) E (c9_write E.2.2.1 e3) gX10_32 hX9_write ⟨rfl, rfl⟩ ⟨Nat.le_of_ble_eq_true rfl, Nat.le_of_ble_eq_true rfl⟩ ⟨Nat.le_of_ble_eq_true rfl, Nat.le_of_ble_eq_true rfl⟩ rfl rfl rfl (Nat.le_of_ble_eq_true rfl) dX10_replaceCopied_15 rfl ?_
  refine rv_iload_n (q := 19) E.x dX10_replaceCopied_18 rfl rfl ?_
  exact rC_iret E rfl dX10_replaceCopied_19
theorem c10_replaceCopied {l : Launch} {D : va_G} {cI cZ cO : ClassId} {ad : Nat → Nat} {gh : rC_gh} {de : Nat} (hI : rC_I ad gh) {M : rv_Mem} {a1 : Int32} {a2 : Int32} {r : Int32} {M1 : rv_Mem} (h : f10_replaceCopied gh M a1 a2 = some (r, M1)) : Met l yX10_replaceCopied (rv_ws yX10_replaceCopied cX10_replaceCopied 4 (some .int)) rm10_replaceCopied (rC_Pc D cI cZ cO ad gh de [.ref (ad 3), .int a1, .int a2] M) (rC_QI D cI cZ cO ad gh de r M1) 0 0 (rC_K ad gh) := rC_met hI rfl (by decide) (Nat.le_of_ble_eq_true rfl) (fun p e s m args below meth c E => ⟨(rC_qIW D cI cZ cO ad gh de below args s), rfl, b10_replaceCopied E M a1 a2⟩) h
abbrev rm10_worthOn : Room := { frames := 2, cells := 0, slots := 0, locals := 42 }
set_option maxRecDepth 100000 in
theorem b10_worthOn_91 {p : Program} {l : Launch} {e : Env} {s : State} {m : MethodId} {args : Array Value} {below : List Frame} {meth : Method} {c : Code} {D : va_G} {cI cZ cO : ClassId} {ad : Nat → Nat} {gh : rC_gh} {de : Nat} (E : rC_E D cI cZ cO ad gh (rC_K ad gh) RX10 cX10_worthOn 9 (some .int) p s m args meth c) (M : rv_Mem) (k6 : Nat → Int32 → Int32 → Int32 → Int32 → Int32 → Option (Int32)) (h6 : ∀ (x1 : Nat) (x2 : Int32) (x3 : Int32) (x4 : Int32) (x5 : Int32) (x6 : Int32), rv_M (rC_G D cI cZ cO ad gh de) (rC_K ad gh) p l e rm10_worthOn s m args below meth c 0 0 (rC_qI D cI cZ cO ad gh de below args s M) (k6 x1 x2 x3 x4 x5 x6) 6 [some (.ref (ad 3)), some (.ref (ad x1)), some (.int x2), some (.int x3), some (.int x4), some (.int x5), some (.int x6), none, none] [] M) : ∀ (x1 : Nat) (x2 : Int32) (x3 : Int32) (x4 : Int32) (x5 : Int32) (x6 : Int32), rv_M (rC_G D cI cZ cO ad gh de) (rC_K ad gh) p l e rm10_worthOn s m args below meth c 0 0 (rC_qI D cI cZ cO ad gh de below args s M) (f10_worthOn_91 gh M k6 x1 x2 x3 x4 x5 x6) 91 [some (.ref (ad 3)), some (.ref (ad x1)), some (.int x2), some (.int x3), some (.int x4), some (.int x5), some (.int x6), none, none] [] M := by
  intro x1 x2 x3 x4 x5 x6
  unfold f10_worthOn_91
  refine rv_iinc (q := 94) (lv' := [_, _, _, _, _, _, _, _, _]) E.x dX10_worthOn_91 rv_ki1 rfl rfl rfl rfl ?_
  refine rv_goto (q := 6) E.x dX10_worthOn_94 (by decide) ?_
  refine rv_wk [true, true, true, true, true, true, true, false, false] ?_
  exact h6 x1 x2 x3 x4 x5 (x6 + 1)
set_option maxRecDepth 100000 in
theorem b10_worthOn_6_s {p : Program} {l : Launch} {e : Env} {s : State} {m : MethodId} {args : Array Value} {below : List Frame} {meth : Method} {c : Code} {D : va_G} {cI cZ cO : ClassId} {ad : Nat → Nat} {gh : rC_gh} {de : Nat} (E : rC_E D cI cZ cO ad gh (rC_K ad gh) RX10 cX10_worthOn 9 (some .int) p s m args meth c) (M : rv_Mem)   (k6 : Nat → Int32 → Int32 → Int32 → Int32 → Int32 → Option (Int32)) (h6 : ∀ (x1 : Nat) (x2 : Int32) (x3 : Int32) (x4 : Int32) (x5 : Int32) (x6 : Int32), rv_M (rC_G D cI cZ cO ad gh de) (rC_K ad gh) p l e rm10_worthOn s m args below meth c 0 0 (rC_qI D cI cZ cO ad gh de below args s M) (k6 x1 x2 x3 x4 x5 x6) 6 [some (.ref (ad 3)), some (.ref (ad x1)), some (.int x2), some (.int x3), some (.int x4), some (.int x5), some (.int x6), none, none] [] M) : ∀ (x1 : Nat) (x2 : Int32) (x3 : Int32) (x4 : Int32) (x5 : Int32) (x6 : Int32), rv_M (rC_G D cI cZ cO ad gh de) (rC_K ad gh) p l e rm10_worthOn s m args below meth c 0 0 (rC_qI D cI cZ cO ad gh de below args s M) (f10_worthOn_6_s gh M k6 x1 x2 x3 x4 x5 x6) 6 [some (.ref (ad 3)), some (.ref (ad x1)), some (.int x2), some (.int x3), some (.int x4), some (.int x5), some (.int x6), none, none] [] M := by
  intro x1 x2 x3 x4 x5 x6
  unfold f10_worthOn_6_s
  refine rv_iload (q := 8) E.x dX10_worthOn_6 rfl rfl ?_
  refine rv_iload_n (q := 9) E.x dX10_worthOn_8 rfl rfl ?_
  refine rv_icmp_gt (q := 12) (tgt := 97) E.x dX10_worthOn_9 (by decide) rfl ?_ ?_
  · refine rv_iload (q := 14) E.x dX10_worthOn_12 rfl rfl ?_
    refine rv_bipush (q := 16) E.x dX10_worthOn_14 rv_kb80 rfl ?_
    refine rv_icmp_ge (q := 19) (tgt := 97) E.x dX10_worthOn_16 (by decide) rfl ?_ ?_
    · refine rv_aload_n (q := 20) E.x dX10_worthOn_19 rfl rfl ?_
      refine rv_iload (q := 22) E.x dX10_worthOn_20 rfl rfl ?_
      refine rv_g (fun g1 => ?_)
      refine rv_b1 (fun r3 e2 => ?_)
      refine rC_calliX0 (q := 25) E (rC_at_of g1) (c0_commitAt E.2.2.1 e2) gX10_42 hX0_commitAt ⟨rfl, rfl⟩ ⟨Nat.le_of_ble_eq_true rfl, Nat.le_of_ble_eq_true rfl⟩ ⟨Nat.le_of_ble_eq_true rfl, Nat.le_of_ble_eq_true rfl⟩ rfl rfl rfl (Nat.le_of_ble_eq_true rfl) dX10_worthOn_22 rfl ?_
      refine rv_istore (q := 27) (lv' := [_, _, _, _, _, _, _, _, _]) E.x dX10_worthOn_25 (Nat.le_of_ble_eq_true rfl) rfl rfl rfl ?_
      refine rv_aload_n (q := 28) E.x dX10_worthOn_27 rfl rfl ?_
      refine rC_getX10 (q := 31) E 3 1 wfX10_9 rfl (Nat.le_of_ble_eq_true rfl) ⟨rfl, rfl⟩ rfl dX10_worthOn_28 rfl ?_
      refine rv_iload (q := 33) E.x dX10_worthOn_31 rfl rfl ?_
      refine rv_iload_n (q := 34) E.x dX10_worthOn_33 rfl rfl ?_
      refine rv_iload (q := 36) E.x dX10_worthOn_34 rfl rfl ?_
      refine rv_b1 (fun r5 e4 => ?_)
      refine rC_calls (q := 39) E (c10_indexOf e4) gX10_28 hX10_indexOf ⟨rfl, rfl⟩ ⟨Nat.le_of_ble_eq_true rfl, Nat.le_of_ble_eq_true rfl⟩ ⟨Nat.le_of_ble_eq_true rfl, Nat.le_of_ble_eq_true rfl⟩ rfl rfl rfl (Nat.le_of_ble_eq_true rfl) dX10_worthOn_36 rfl ?_
      refine rv_b1 (fun r7 e6 => ?_)
      refine rC_callsi (q := 42) E (c9_read E.2.2.1 e6) gX10_38 hX9_read ⟨rfl, rfl⟩ ⟨Nat.le_of_ble_eq_true rfl, Nat.le_of_ble_eq_true rfl⟩ ⟨Nat.le_of_ble_eq_true rfl, Nat.le_of_ble_eq_true rfl⟩ rfl rfl rfl (Nat.le_of_ble_eq_true rfl) dX10_worthOn_39 rfl ?_
      refine rv_istore (q := 44) (lv' := [_, _, _, _, _, _, _, _, _]) E.x dX10_worthOn_42 (Nat.le_of_ble_eq_true rfl) rfl rfl rfl ?_
      refine rv_iload (q := 46) E.x dX10_worthOn_44 rfl rfl ?_
      refine rv_bipush (q := 48) E.x dX10_worthOn_46 rv_kbm9 rfl ?_
      refine rv_icmp_eq (q := 51) (tgt := 58) E.x dX10_worthOn_48 (by decide) rfl ?_ ?_
      · refine rv_iload (q := 53) E.x dX10_worthOn_51 rfl rfl ?_
        refine rv_istore (q := 55) (lv' := [_, _, _, _, _, _, _, _, _]) E.x dX10_worthOn_53 (Nat.le_of_ble_eq_true rfl) rfl rfl rfl ?_
        refine rv_goto (q := 91) E.x dX10_worthOn_55 (by decide) ?_
        refine rv_wk [true, true, true, true, true, true, true, false, false] ?_
        exact b10_worthOn_91 E M k6 h6 x1 x2 x3 x4 r7 x6
      · refine rv_aload_n (q := 59) E.x dX10_worthOn_58 rfl rfl ?_
        refine rC_getX10 (q := 62) E 3 2 wfX10_15 rfl (Nat.le_of_ble_eq_true rfl) ⟨rfl, rfl⟩ rfl dX10_worthOn_59 rfl ?_
        refine rv_iload_n (q := 63) E.x dX10_worthOn_62 rfl rfl ?_
        refine rv_iconst (q := 64) E.x dX10_worthOn_63 rv_ki3 rfl ?_
        refine rv_imul (q := 65) E.x dX10_worthOn_64 rfl ?_
        refine rv_aload_n (q := 66) E.x dX10_worthOn_65 rfl rfl ?_
        refine rC_getX10 (q := 69) E 3 0 wfX10_18 rfl (Nat.le_of_ble_eq_true rfl) ⟨rfl, rfl⟩ rfl dX10_worthOn_66 rfl ?_
        refine rv_iload (q := 71) E.x dX10_worthOn_69 rfl rfl ?_
        refine rv_b1 (fun r9 e8 => ?_)
        refine rC_calliX9 (q := 74) E ⟨rfl, rfl⟩ (c9_kindAt E.2.2.1 e8) gX10_48 hX9_kindAt ⟨rfl, rfl⟩ ⟨Nat.le_of_ble_eq_true rfl, Nat.le_of_ble_eq_true rfl⟩ ⟨Nat.le_of_ble_eq_true rfl, Nat.le_of_ble_eq_true rfl⟩ rfl rfl rfl (Nat.le_of_ble_eq_true rfl) dX10_worthOn_71 rfl ?_
        refine rv_iadd (q := 75) E.x dX10_worthOn_74 rfl ?_
        refine rv_b1 (fun r11 e10 => ?_)
        refine rC_callsi (q := 78) E (c9_read E.2.2.1 e10) gX10_38 hX9_read ⟨rfl, rfl⟩ ⟨Nat.le_of_ble_eq_true rfl, Nat.le_of_ble_eq_true rfl⟩ ⟨Nat.le_of_ble_eq_true rfl, Nat.le_of_ble_eq_true rfl⟩ rfl rfl rfl (Nat.le_of_ble_eq_true rfl) dX10_worthOn_75 rfl ?_
        refine rv_iload (q := 80) E.x dX10_worthOn_78 rfl rfl ?_
        refine rv_iconst (q := 81) E.x dX10_worthOn_80 rv_ki2 rfl ?_
        refine rv_iadd (q := 82) E.x dX10_worthOn_81 rfl ?_
        refine rv_b1 (fun r13 e12 => ?_)
        refine rC_calln (q := 85) E (c11_isIn e12) gX10_51 E.2.2.2.2.2.2.2.2.2 wsgX10_51 wi_ReviewForge hX11_isIn ⟨rfl, rfl⟩ ⟨Nat.le_of_ble_eq_true rfl, Nat.le_of_ble_eq_true rfl⟩ ⟨Nat.le_of_ble_eq_true rfl, Nat.le_of_ble_eq_true rfl⟩ rfl rfl rfl (Nat.le_of_ble_eq_true rfl) dX10_worthOn_82 rfl ?_
        refine rv_ifz_ne (q := 88) (tgt := 91) E.x dX10_worthOn_85 (by decide) rfl ?_ ?_
        · refine rv_iconst (q := 89) E.x dX10_worthOn_88 rv_ki0 rfl ?_
          refine rv_istore (q := 91) (lv' := [_, _, _, _, _, _, _, _, _]) E.x dX10_worthOn_89 (Nat.le_of_ble_eq_true rfl) rfl rfl rfl ?_
          refine rv_wk [true, true, true, true, true, true, true, false, false] ?_
          exact b10_worthOn_91 E M k6 h6 x1 x2 x3 x4 0 x6
        · refine rv_wk [true, true, true, true, true, true, true, false, false] ?_
          exact b10_worthOn_91 E M k6 h6 x1 x2 x3 x4 x5 x6
    · refine rv_iload (q := 99) E.x dX10_worthOn_97 rfl rfl ?_
      exact rC_iret E rfl dX10_worthOn_99
  · refine rv_iload (q := 99) E.x dX10_worthOn_97 rfl rfl ?_
    exact rC_iret E rfl dX10_worthOn_99
theorem b10_worthOn_6 {p : Program} {l : Launch} {e : Env} {s : State} {m : MethodId} {args : Array Value} {below : List Frame} {meth : Method} {c : Code} {D : va_G} {cI cZ cO : ClassId} {ad : Nat → Nat} {gh : rC_gh} {de : Nat} (E : rC_E D cI cZ cO ad gh (rC_K ad gh) RX10 cX10_worthOn 9 (some .int) p s m args meth c) (M : rv_Mem)   : ∀ (n : Nat), ∀ (x1 : Nat) (x2 : Int32) (x3 : Int32) (x4 : Int32) (x5 : Int32) (x6 : Int32), rv_M (rC_G D cI cZ cO ad gh de) (rC_K ad gh) p l e rm10_worthOn s m args below meth c 0 0 (rC_qI D cI cZ cO ad gh de below args s M) (f10_worthOn_6 gh M n x1 x2 x3 x4 x5 x6) 6 [some (.ref (ad 3)), some (.ref (ad x1)), some (.int x2), some (.int x3), some (.int x4), some (.int x5), some (.int x6), none, none] [] M := by
  intro n
  induction n with
  | zero => exact fun _ _ _ _ _ _ => rv_stuck
  | succ n ih => exact b10_worthOn_6_s E M (f10_worthOn_6 gh M n) ih
set_option maxRecDepth 100000 in
theorem b10_worthOn {p : Program} {l : Launch} {e : Env} {s : State} {m : MethodId} {args : Array Value} {below : List Frame} {meth : Method} {c : Code} {D : va_G} {cI cZ cO : ClassId} {ad : Nat → Nat} {gh : rC_gh} {de : Nat} (E : rC_E D cI cZ cO ad gh (rC_K ad gh) RX10 cX10_worthOn 9 (some .int) p s m args meth c) (M : rv_Mem) (a1 : Nat) (a2 : Int32) (a3 : Int32) (a4 : Int32) : rv_M (rC_G D cI cZ cO ad gh de) (rC_K ad gh) p l e rm10_worthOn s m args below meth c 0 0 (rC_qI D cI cZ cO ad gh de below args s M) (f10_worthOn gh M a1 a2 a3 a4) 0 [some (.ref (ad 3)), some (.ref (ad a1)), some (.int a2), some (.int a3), some (.int a4), none, none, none, none] [] M := by
  unfold f10_worthOn
  refine rv_iconst (q := 1) E.x dX10_worthOn_0 rv_ki0 rfl ?_
  refine rv_istore (q := 3) (lv' := [_, _, _, _, _, _, _, _, _]) E.x dX10_worthOn_1 (Nat.le_of_ble_eq_true rfl) rfl rfl rfl ?_
  refine rv_iconst (q := 4) E.x dX10_worthOn_3 rv_ki0 rfl ?_
  refine rv_istore (q := 6) (lv' := [_, _, _, _, _, _, _, _, _]) E.x dX10_worthOn_4 (Nat.le_of_ble_eq_true rfl) rfl rfl rfl ?_
  refine rv_wk [true, true, true, true, true, true, true, false, false] ?_
  exact b10_worthOn_6 E M rv_FU a1 a2 a3 a4 0 0
theorem c10_worthOn {l : Launch} {D : va_G} {cI cZ cO : ClassId} {ad : Nat → Nat} {gh : rC_gh} {de : Nat} (hI : rC_I ad gh) {M : rv_Mem} {a1 : Nat} {a2 : Int32} {a3 : Int32} {a4 : Int32} {r : Int32} (h : f10_worthOn gh M a1 a2 a3 a4 = some r) : Met l yX10_worthOn (rv_ws yX10_worthOn cX10_worthOn 9 (some .int)) rm10_worthOn (rC_Pc D cI cZ cO ad gh de [.ref (ad 3), .ref (ad a1), .int a2, .int a3, .int a4] M) (rC_QI D cI cZ cO ad gh de r M) 0 0 (rC_K ad gh) := rC_met hI rfl (by decide) (Nat.le_of_ble_eq_true rfl) (fun p e s m args below meth c E => ⟨(rC_qI D cI cZ cO ad gh de below args s M), rfl, b10_worthOn E M a1 a2 a3 a4⟩) h
abbrev rm10_peopleWith : Room := { frames := 3, cells := 0, slots := 0, locals := 70 }
set_option maxRecDepth 100000 in
theorem b10_peopleWith_40 {p : Program} {l : Launch} {e : Env} {s : State} {m : MethodId} {args : Array Value} {below : List Frame} {meth : Method} {c : Code} {D : va_G} {cI cZ cO : ClassId} {ad : Nat → Nat} {gh : rC_gh} {de : Nat} (E : rC_E D cI cZ cO ad gh (rC_K ad gh) RX10 cX10_peopleWith 6 (some .int) p s m args meth c) (M : rv_Mem) (k6 : Nat → Int32 → Int32 → Int32 → Int32 → Option (Int32)) (h6 : ∀ (x1 : Nat) (x2 : Int32) (x3 : Int32) (x4 : Int32) (x5 : Int32), rv_M (rC_G D cI cZ cO ad gh de) (rC_K ad gh) p l e rm10_peopleWith s m args below meth c 0 0 (rC_qI D cI cZ cO ad gh de below args s M) (k6 x1 x2 x3 x4 x5) 6 [some (.ref (ad 3)), some (.ref (ad x1)), some (.int x2), some (.int x3), some (.int x4), some (.int x5)] [] M) : ∀ (x1 : Nat) (x2 : Int32) (x3 : Int32) (x4 : Int32) (x5 : Int32), rv_M (rC_G D cI cZ cO ad gh de) (rC_K ad gh) p l e rm10_peopleWith s m args below meth c 0 0 (rC_qI D cI cZ cO ad gh de below args s M) (f10_peopleWith_40 gh M k6 x1 x2 x3 x4 x5) 40 [some (.ref (ad 3)), some (.ref (ad x1)), some (.int x2), some (.int x3), some (.int x4), some (.int x5)] [] M := by
  intro x1 x2 x3 x4 x5
  unfold f10_peopleWith_40
  refine rv_iinc (q := 43) (lv' := [_, _, _, _, _, _]) E.x dX10_peopleWith_40 rv_ki1 rfl rfl rfl rfl ?_
  refine rv_goto (q := 6) E.x dX10_peopleWith_43 (by decide) ?_
  refine rv_wk [true, true, true, true, true, true] ?_
  exact h6 x1 x2 x3 x4 (x5 + 1)
set_option maxRecDepth 100000 in
theorem b10_peopleWith_6_s {p : Program} {l : Launch} {e : Env} {s : State} {m : MethodId} {args : Array Value} {below : List Frame} {meth : Method} {c : Code} {D : va_G} {cI cZ cO : ClassId} {ad : Nat → Nat} {gh : rC_gh} {de : Nat} (E : rC_E D cI cZ cO ad gh (rC_K ad gh) RX10 cX10_peopleWith 6 (some .int) p s m args meth c) (M : rv_Mem)   (k6 : Nat → Int32 → Int32 → Int32 → Int32 → Option (Int32)) (h6 : ∀ (x1 : Nat) (x2 : Int32) (x3 : Int32) (x4 : Int32) (x5 : Int32), rv_M (rC_G D cI cZ cO ad gh de) (rC_K ad gh) p l e rm10_peopleWith s m args below meth c 0 0 (rC_qI D cI cZ cO ad gh de below args s M) (k6 x1 x2 x3 x4 x5) 6 [some (.ref (ad 3)), some (.ref (ad x1)), some (.int x2), some (.int x3), some (.int x4), some (.int x5)] [] M) : ∀ (x1 : Nat) (x2 : Int32) (x3 : Int32) (x4 : Int32) (x5 : Int32), rv_M (rC_G D cI cZ cO ad gh de) (rC_K ad gh) p l e rm10_peopleWith s m args below meth c 0 0 (rC_qI D cI cZ cO ad gh de below args s M) (f10_peopleWith_6_s gh M k6 x1 x2 x3 x4 x5) 6 [some (.ref (ad 3)), some (.ref (ad x1)), some (.int x2), some (.int x3), some (.int x4), some (.int x5)] [] M := by
  intro x1 x2 x3 x4 x5
  unfold f10_peopleWith_6_s
  refine rv_iload (q := 8) E.x dX10_peopleWith_6 rfl rfl ?_
  refine rv_bipush (q := 10) E.x dX10_peopleWith_8 rv_kb6 rfl ?_
  refine rv_icmp_ge (q := 13) (tgt := 46) E.x dX10_peopleWith_10 (by decide) rfl ?_ ?_
  · refine rv_aload_n (q := 14) E.x dX10_peopleWith_13 rfl rfl ?_
    refine rv_aload_n (q := 15) E.x dX10_peopleWith_14 rfl rfl ?_
    refine rv_aload_n (q := 16) E.x dX10_peopleWith_15 rfl rfl ?_
    refine rv_g (fun g1 => ?_)
    refine rC_getX0 (q := 19) E x1 4 wfX10_55 rfl (Nat.le_of_ble_eq_true rfl) (rC_at_of g1) rfl dX10_peopleWith_16 rfl ?_
    refine rv_iconst (q := 20) E.x dX10_peopleWith_19 rv_ki1 rfl ?_
    refine rv_isub (q := 21) E.x dX10_peopleWith_20 rfl ?_
    refine rv_iload_n (q := 22) E.x dX10_peopleWith_21 rfl rfl ?_
    refine rv_iload (q := 24) E.x dX10_peopleWith_22 rfl rfl ?_
    refine rv_b1 (fun r3 e2 => ?_)
    refine rC_calliX10 (q := 27) E ⟨rfl, rfl⟩ (c10_worthOn E.2.2.1 e2) gX10_59 hX10_worthOn ⟨rfl, rfl⟩ ⟨Nat.le_of_ble_eq_true rfl, Nat.le_of_ble_eq_true rfl⟩ ⟨Nat.le_of_ble_eq_true rfl, Nat.le_of_ble_eq_true rfl⟩ rfl rfl rfl (Nat.le_of_ble_eq_true rfl) dX10_peopleWith_24 rfl ?_
    refine rv_iload_n (q := 28) E.x dX10_peopleWith_27 rfl rfl ?_
    refine rv_icmp_ne (q := 31) (tgt := 40) E.x dX10_peopleWith_28 (by decide) rfl ?_ ?_
    · refine rv_iload (q := 33) E.x dX10_peopleWith_31 rfl rfl ?_
      refine rv_iconst (q := 34) E.x dX10_peopleWith_33 rv_ki1 rfl ?_
      refine rv_iload (q := 36) E.x dX10_peopleWith_34 rfl rfl ?_
      refine rv_ishl (q := 37) E.x dX10_peopleWith_36 rfl ?_
      refine rv_ior (q := 38) E.x dX10_peopleWith_37 rfl ?_
      refine rv_istore (q := 40) (lv' := [_, _, _, _, _, _]) E.x dX10_peopleWith_38 (Nat.le_of_ble_eq_true rfl) rfl rfl rfl ?_
      refine rv_wk [true, true, true, true, true, true] ?_
      exact b10_peopleWith_40 E M k6 h6 x1 x2 x3 (x4 ||| ((1 : Int32) <<< (x5 &&& 31))) x5
    · refine rv_wk [true, true, true, true, true, true] ?_
      exact b10_peopleWith_40 E M k6 h6 x1 x2 x3 x4 x5
  · refine rv_iload (q := 48) E.x dX10_peopleWith_46 rfl rfl ?_
    exact rC_iret E rfl dX10_peopleWith_48
theorem b10_peopleWith_6 {p : Program} {l : Launch} {e : Env} {s : State} {m : MethodId} {args : Array Value} {below : List Frame} {meth : Method} {c : Code} {D : va_G} {cI cZ cO : ClassId} {ad : Nat → Nat} {gh : rC_gh} {de : Nat} (E : rC_E D cI cZ cO ad gh (rC_K ad gh) RX10 cX10_peopleWith 6 (some .int) p s m args meth c) (M : rv_Mem)   : ∀ (n : Nat), ∀ (x1 : Nat) (x2 : Int32) (x3 : Int32) (x4 : Int32) (x5 : Int32), rv_M (rC_G D cI cZ cO ad gh de) (rC_K ad gh) p l e rm10_peopleWith s m args below meth c 0 0 (rC_qI D cI cZ cO ad gh de below args s M) (f10_peopleWith_6 gh M n x1 x2 x3 x4 x5) 6 [some (.ref (ad 3)), some (.ref (ad x1)), some (.int x2), some (.int x3), some (.int x4), some (.int x5)] [] M := by
  intro n
  induction n with
  | zero => exact fun _ _ _ _ _ => rv_stuck
  | succ n ih => exact b10_peopleWith_6_s E M (f10_peopleWith_6 gh M n) ih
set_option maxRecDepth 100000 in
theorem b10_peopleWith {p : Program} {l : Launch} {e : Env} {s : State} {m : MethodId} {args : Array Value} {below : List Frame} {meth : Method} {c : Code} {D : va_G} {cI cZ cO : ClassId} {ad : Nat → Nat} {gh : rC_gh} {de : Nat} (E : rC_E D cI cZ cO ad gh (rC_K ad gh) RX10 cX10_peopleWith 6 (some .int) p s m args meth c) (M : rv_Mem) (a1 : Nat) (a2 : Int32) (a3 : Int32) : rv_M (rC_G D cI cZ cO ad gh de) (rC_K ad gh) p l e rm10_peopleWith s m args below meth c 0 0 (rC_qI D cI cZ cO ad gh de below args s M) (f10_peopleWith gh M a1 a2 a3) 0 [some (.ref (ad 3)), some (.ref (ad a1)), some (.int a2), some (.int a3), none, none] [] M := by
  unfold f10_peopleWith
  refine rv_iconst (q := 1) E.x dX10_peopleWith_0 rv_ki0 rfl ?_
  refine rv_istore (q := 3) (lv' := [_, _, _, _, _, _]) E.x dX10_peopleWith_1 (Nat.le_of_ble_eq_true rfl) rfl rfl rfl ?_
  refine rv_iconst (q := 4) E.x dX10_peopleWith_3 rv_ki0 rfl ?_
  refine rv_istore (q := 6) (lv' := [_, _, _, _, _, _]) E.x dX10_peopleWith_4 (Nat.le_of_ble_eq_true rfl) rfl rfl rfl ?_
  refine rv_wk [true, true, true, true, true, true] ?_
  exact b10_peopleWith_6 E M rv_FU a1 a2 a3 0 0
theorem c10_peopleWith {l : Launch} {D : va_G} {cI cZ cO : ClassId} {ad : Nat → Nat} {gh : rC_gh} {de : Nat} (hI : rC_I ad gh) {M : rv_Mem} {a1 : Nat} {a2 : Int32} {a3 : Int32} {r : Int32} (h : f10_peopleWith gh M a1 a2 a3 = some r) : Met l yX10_peopleWith (rv_ws yX10_peopleWith cX10_peopleWith 6 (some .int)) rm10_peopleWith (rC_Pc D cI cZ cO ad gh de [.ref (ad 3), .ref (ad a1), .int a2, .int a3] M) (rC_QI D cI cZ cO ad gh de r M) 0 0 (rC_K ad gh) := rC_met hI rfl (by decide) (Nat.le_of_ble_eq_true rfl) (fun p e s m args below meth c E => ⟨(rC_qI D cI cZ cO ad gh de below args s M), rfl, b10_peopleWith E M a1 a2 a3⟩) h
abbrev rm11_needCommit : Room := { frames := 6, cells := 0, slots := 0, locals := 100 }
def qx11_needCommit (D : va_G) (cI cZ cO : ClassId) (ad : Nat → Nat) (gh : rC_gh) (de : Nat) (below : List Frame) (args : Array Value) (s : State) (M : rv_Mem) : Unit ⊕ Nat → State → Prop := fun r => match r with
  | .inl r => vx_MQ below (rC_qv D cI cZ cO ad gh de (rC_A ad gh s.heap.size) M) (rC_fx (rC_A ad gh s.heap.size)) args s 0 0 (rC_A ad gh s.heap.size)
  | .inr _ => fun _ => True
set_option maxRecDepth 100000 in
theorem b11_needCommit {p : Program} {l : Launch} {e : Env} {s : State} {m : MethodId} {args : Array Value} {below : List Frame} {meth : Method} {c : Code} {D : va_G} {cI cZ cO : ClassId} {ad : Nat → Nat} {gh : rC_gh} {de : Nat} (E : rC_X D cI cZ cO ad gh RX11 cX11_needCommit 2 none p l s m args meth c) (M : rv_Mem) (a1 : Int32) : rv_M (rC_G D cI cZ cO ad gh de) (rC_A ad gh s.heap.size) p l e rm11_needCommit s m args below meth c 0 0 (qx11_needCommit D cI cZ cO ad gh de below args s M) (f11_needCommit gh M a1) 0 [some (.ref (ad 0)), some (.int a1)] [] M := by
  unfold f11_needCommit
  refine rv_iload_n (q := 1) E.1.x dX11_needCommit_0 rfl rfl ?_
  refine rv_if_lt (q := 4) (tgt := 15) E.1.x dX11_needCommit_1 (by decide) rfl ?_ ?_
  · refine rv_iload_n (q := 5) E.1.x dX11_needCommit_4 rfl rfl ?_
    refine rv_aload_n (q := 6) E.1.x dX11_needCommit_5 rfl rfl ?_
    refine rC_getX11 (q := 9) E.1 0 0 wfX11_10 rfl (Nat.le_of_ble_eq_true rfl) ⟨rfl, rfl⟩ rfl dX11_needCommit_6 rfl ?_
    refine rC_getX9 (q := 12) E.1 1 10 wfX11_137 rfl (Nat.le_of_ble_eq_true rfl) ⟨rfl, rfl⟩ rfl dX11_needCommit_9 rfl ?_
    refine rv_icmp_lt (q := 15) (tgt := 26) E.1.x dX11_needCommit_12 (by decide) rfl ?_ ?_
    · exact rv_tr (fun _ => trivial)
    · exact rC_xvret E rfl ⟨Nat.le_of_ble_eq_true rfl, Nat.le_of_ble_eq_true rfl⟩ dX11_needCommit_26
  · exact rv_tr (fun _ => trivial)
theorem c11_needCommit {l : Launch} {D : va_G} {cI cZ cO : ClassId} {ad : Nat → Nat} {gh : rC_gh} {de : Nat} (hfl : l.stackTraces = false) (hI : rC_I ad gh) {sz : Nat} {M : rv_Mem} {a1 : Int32} {r : Unit} (h : f11_needCommit gh M a1 = some (.inl r)) : vx_Met l yX11_needCommit (rv_ws yX11_needCommit cX11_needCommit 2 none) rm11_needCommit (rC_Px D cI cZ cO ad gh de sz [.ref (ad 0), .int a1] M) (rC_qv D cI cZ cO ad gh de (rC_A ad gh sz) M) (rC_fx (rC_A ad gh sz)) 0 0 (rC_A ad gh sz) := rC_xmet (Qc := fun A => rC_qv D cI cZ cO ad gh de A M) (XC := fun A => rC_fx A) hfl hI rfl (by decide) (Nat.le_of_ble_eq_true rfl) (fun p e s m args below meth c E => ⟨(qx11_needCommit D cI cZ cO ad gh de below args s M), rfl, b11_needCommit E M a1⟩) h
abbrev rmx11_needCommit : Room := { frames := 6, cells := 1, slots := 6, locals := 100 }
def qy11_needCommit (D : va_G) (cI cZ cO : ClassId) (ad : Nat → Nat) (gh : rC_gh) (de : Nat) (below : List Frame) (args : Array Value) (s : State) (M : rv_Mem) : Unit ⊕ Nat → State → Prop := fun r => match r with
  | .inl _ => fun _ => True
  | .inr r => vx_MQ below (rC_fvv (rC_A ad gh s.heap.size)) (rC_xc D cI cZ cO ad gh de (rC_A ad gh s.heap.size) r M) args s 1 6 (rC_A ad gh s.heap.size)
set_option maxRecDepth 100000 in
theorem bx11_needCommit {p : Program} {l : Launch} {e : Env} {s : State} {m : MethodId} {args : Array Value} {below : List Frame} {meth : Method} {c : Code} {D : va_G} {cI cZ cO : ClassId} {ad : Nat → Nat} {gh : rC_gh} {de : Nat} (E : rC_X D cI cZ cO ad gh RX11 cX11_needCommit 2 none p l s m args meth c) (M : rv_Mem) (a1 : Int32) : rv_M (rC_G D cI cZ cO ad gh de) (rC_A ad gh s.heap.size) p l e rmx11_needCommit s m args below meth c 0 0 (qy11_needCommit D cI cZ cO ad gh de below args s M) (f11_needCommit gh M a1) 0 [some (.ref (ad 0)), some (.int a1)] [] M := by
  unfold f11_needCommit
  refine rv_iload_n (q := 1) E.1.x dX11_needCommit_0 rfl rfl ?_
  refine rv_if_lt (q := 4) (tgt := 15) E.1.x dX11_needCommit_1 (by decide) rfl ?_ ?_
  · refine rv_iload_n (q := 5) E.1.x dX11_needCommit_4 rfl rfl ?_
    refine rv_aload_n (q := 6) E.1.x dX11_needCommit_5 rfl rfl ?_
    refine rC_getX11 (q := 9) E.1 0 0 wfX11_10 rfl (Nat.le_of_ble_eq_true rfl) ⟨rfl, rfl⟩ rfl dX11_needCommit_6 rfl ?_
    refine rC_getX9 (q := 12) E.1 1 10 wfX11_137 rfl (Nat.le_of_ble_eq_true rfl) ⟨rfl, rfl⟩ rfl dX11_needCommit_9 rfl ?_
    refine rv_icmp_lt (q := 15) (tgt := 26) E.1.x dX11_needCommit_12 (by decide) rfl ?_ ?_
    · exact rC_throwW (x := 1) E rfl (by decide +kernel) rC_xk1 rC_xi1 rC_xg1 rC_xn1 rC_xo1 E.2.2.2.2.2.2.1 (is := 493) (text := "no such commit") (by decide +kernel) rfl rfl dX11_needCommit_15 dX11_needCommit_18 dX11_needCommit_19 dX11_needCommit_22 dX11_needCommit_25 (Nat.le_of_ble_eq_true rfl) (Nat.le_of_ble_eq_true rfl) ⟨Nat.le_of_ble_eq_true rfl, Nat.le_of_ble_eq_true rfl⟩ ⟨Nat.le_of_ble_eq_true rfl, Nat.le_of_ble_eq_true rfl⟩
    · exact rv_tr (fun _ => trivial)
  · exact rC_throwW (x := 1) E rfl (by decide +kernel) rC_xk1 rC_xi1 rC_xg1 rC_xn1 rC_xo1 E.2.2.2.2.2.2.1 (is := 493) (text := "no such commit") (by decide +kernel) rfl rfl dX11_needCommit_15 dX11_needCommit_18 dX11_needCommit_19 dX11_needCommit_22 dX11_needCommit_25 (Nat.le_of_ble_eq_true rfl) (Nat.le_of_ble_eq_true rfl) ⟨Nat.le_of_ble_eq_true rfl, Nat.le_of_ble_eq_true rfl⟩ ⟨Nat.le_of_ble_eq_true rfl, Nat.le_of_ble_eq_true rfl⟩
theorem c11_needCommit_x {l : Launch} {D : va_G} {cI cZ cO : ClassId} {ad : Nat → Nat} {gh : rC_gh} {de : Nat} (hfl : l.stackTraces = false) (hI : rC_I ad gh) {sz : Nat} {M : rv_Mem} {a1 : Int32} {x : Nat} (h : f11_needCommit gh M a1 = some (.inr x)) : vx_Met l yX11_needCommit (rv_ws yX11_needCommit cX11_needCommit 2 none) rmx11_needCommit (rC_Px D cI cZ cO ad gh de sz [.ref (ad 0), .int a1] M) (rC_fvv (rC_A ad gh sz)) (rC_xc D cI cZ cO ad gh de (rC_A ad gh sz) x M) 1 6 (rC_A ad gh sz) := rC_xmet (Qc := fun A => rC_fvv A) (XC := fun A => rC_xc D cI cZ cO ad gh de A x M) hfl hI rfl (by decide) (Nat.le_of_ble_eq_true rfl) (fun p e s m args below meth c E => ⟨(qy11_needCommit D cI cZ cO ad gh de below args s M), rfl, bx11_needCommit E M a1⟩) h
abbrev rm11_moveDesk : Room := { frames := 3, cells := 0, slots := 0, locals := 63 }
set_option maxRecDepth 100000 in
theorem b11_moveDesk {p : Program} {l : Launch} {e : Env} {s : State} {m : MethodId} {args : Array Value} {below : List Frame} {meth : Method} {c : Code} {D : va_G} {cI cZ cO : ClassId} {ad : Nat → Nat} {gh : rC_gh} {de : Nat} (E : rC_E D cI cZ cO ad gh (rC_K ad gh) RX11 cX11_moveDesk 2 (some .int) p s m args meth c) (M : rv_Mem) (a1 : Int32) : rv_M (rC_G D cI cZ cO ad gh de) (rC_K ad gh) p l e rm11_moveDesk s m args below meth c 0 0 (rC_qIW D cI cZ cO ad gh de below args s) (f11_moveDesk gh M a1) 0 [some (.ref (ad 0)), some (.int a1)] [] M := by
  unfold f11_moveDesk
  refine rv_aload_n (q := 1) E.x dX11_moveDesk_0 rfl rfl ?_
  refine rC_getX11 (q := 4) E 0 0 wfX11_10 rfl (Nat.le_of_ble_eq_true rfl) ⟨rfl, rfl⟩ rfl dX11_moveDesk_1 rfl ?_
  refine rv_iload_n (q := 5) E.x dX11_moveDesk_4 rfl rfl ?_
  refine rv_b2 (fun r2 M3 e1 => ?_)
  refine rC_calliX9 (q := 8) E ⟨rfl, rfl⟩ (c9_setDeskBase E.2.2.1 e1) gX11_507 hX9_setDeskBase ⟨rfl, rfl⟩ ⟨Nat.le_of_ble_eq_true rfl, Nat.le_of_ble_eq_true rfl⟩ ⟨Nat.le_of_ble_eq_true rfl, Nat.le_of_ble_eq_true rfl⟩ rfl rfl rfl (Nat.le_of_ble_eq_true rfl) dX11_moveDesk_5 rfl ?_
  exact rC_iret E rfl dX11_moveDesk_8
theorem c11_moveDesk {l : Launch} {D : va_G} {cI cZ cO : ClassId} {ad : Nat → Nat} {gh : rC_gh} {de : Nat} (hI : rC_I ad gh) {M : rv_Mem} {a1 : Int32} {r : Int32} {M1 : rv_Mem} (h : f11_moveDesk gh M a1 = some (r, M1)) : Met l yX11_moveDesk (rv_ws yX11_moveDesk cX11_moveDesk 2 (some .int)) rm11_moveDesk (rC_Pc D cI cZ cO ad gh de [.ref (ad 0), .int a1] M) (rC_QI D cI cZ cO ad gh de r M1) 0 0 (rC_K ad gh) := rC_met hI rfl (by decide) (Nat.le_of_ble_eq_true rfl) (fun p e s m args below meth c E => ⟨(rC_qIW D cI cZ cO ad gh de below args s), rfl, b11_moveDesk E M a1⟩) h
abbrev rm11_take : Room := { frames := 7, cells := 0, slots := 0, locals := 121 }
def qx11_take (D : va_G) (cI cZ cO : ClassId) (ad : Nat → Nat) (gh : rC_gh) (de : Nat) (below : List Frame) (args : Array Value) (s : State) : (Int32 × rv_Mem) ⊕ (Nat × rv_Mem) → State → Prop := fun r => match r with
  | .inl r => vx_MQ below (rC_qi D cI cZ cO ad gh de (rC_A ad gh s.heap.size) r.1 r.2) (rC_fx (rC_A ad gh s.heap.size)) args s 0 0 (rC_A ad gh s.heap.size)
  | .inr _ => fun _ => True
set_option maxRecDepth 100000 in
theorem b11_take {p : Program} {l : Launch} {e : Env} {s : State} {m : MethodId} {args : Array Value} {below : List Frame} {meth : Method} {c : Code} {D : va_G} {cI cZ cO : ClassId} {ad : Nat → Nat} {gh : rC_gh} {de : Nat} (E : rC_X D cI cZ cO ad gh RX11 cX11_take 2 (some .int) p l s m args meth c) (M : rv_Mem) (a1 : Int32) : rv_M (rC_G D cI cZ cO ad gh de) (rC_A ad gh s.heap.size) p l e rm11_take s m args below meth c 0 0 (qx11_take D cI cZ cO ad gh de below args s) (f11_take gh M a1) 0 [some (.ref (ad 0)), some (.int a1)] [] M := by
  unfold f11_take
  refine rv_aload_n (q := 1) E.1.x dX11_take_0 rfl rfl ?_
  refine rv_iload_n (q := 2) E.1.x dX11_take_1 rfl rfl ?_
  refine rv_x2r (fun r2 e1 => ?_) (fun w3 e4 => rv_tr (fun _ => trivial))
  refine rC_xVvX11 (q := 5) E ⟨rfl, rfl⟩ (fun _ => c11_needCommit E.2.1 E.1.2.2.1 e1) gX11_79 hX11_needCommit ⟨rfl, rfl⟩ ⟨Nat.le_of_ble_eq_true rfl, Nat.le_of_ble_eq_true rfl⟩ ⟨Nat.le_of_ble_eq_true rfl, Nat.le_of_ble_eq_true rfl⟩ rfl rfl rfl (Nat.le_of_ble_eq_true rfl) dX11_take_2 rfl ?_
  refine rv_aload_n (q := 6) E.1.x dX11_take_5 rfl rfl ?_
  refine rC_getX11 (q := 9) E.1 0 0 wfX11_10 rfl (Nat.le_of_ble_eq_true rfl) ⟨rfl, rfl⟩ rfl dX11_take_6 rfl ?_
  refine rv_iload_n (q := 10) E.1.x dX11_take_9 rfl rfl ?_
  refine rv_bipush (q := 12) E.1.x dX11_take_10 rv_kb80 rfl ?_
  refine rv_b1 (fun M6 e5 => ?_)
  refine rC_callvX9 (q := 15) E.1 ⟨rfl, rfl⟩ (c9_copyFiles E.1.2.2.1 e5) gX11_83 hX9_copyFiles ⟨rfl, rfl⟩ ⟨Nat.le_of_ble_eq_true rfl, Nat.le_of_ble_eq_true rfl⟩ ⟨Nat.le_of_ble_eq_true rfl, Nat.le_of_ble_eq_true rfl⟩ rfl rfl rfl (Nat.le_of_ble_eq_true rfl) dX11_take_12 rfl ?_
  refine rv_aload_n (q := 16) E.1.x dX11_take_15 rfl rfl ?_
  refine rv_iload_n (q := 17) E.1.x dX11_take_16 rfl rfl ?_
  refine rv_b2 (fun r8 M9 e7 => ?_)
  refine rC_calliX11 (q := 20) E.1 ⟨rfl, rfl⟩ (c11_moveDesk E.1.2.2.1 e7) gX11_87 hX11_moveDesk ⟨rfl, rfl⟩ ⟨Nat.le_of_ble_eq_true rfl, Nat.le_of_ble_eq_true rfl⟩ ⟨Nat.le_of_ble_eq_true rfl, Nat.le_of_ble_eq_true rfl⟩ rfl rfl rfl (Nat.le_of_ble_eq_true rfl) dX11_take_17 rfl ?_
  exact rC_xiret E rfl ⟨Nat.le_of_ble_eq_true rfl, Nat.le_of_ble_eq_true rfl⟩ dX11_take_20
theorem c11_take {l : Launch} {D : va_G} {cI cZ cO : ClassId} {ad : Nat → Nat} {gh : rC_gh} {de : Nat} (hfl : l.stackTraces = false) (hI : rC_I ad gh) {sz : Nat} {M : rv_Mem} {a1 : Int32} {r : Int32} {M1 : rv_Mem} (h : f11_take gh M a1 = some (.inl (r, M1))) : vx_Met l yX11_take (rv_ws yX11_take cX11_take 2 (some .int)) rm11_take (rC_Px D cI cZ cO ad gh de sz [.ref (ad 0), .int a1] M) (rC_qi D cI cZ cO ad gh de (rC_A ad gh sz) r M1) (rC_fx (rC_A ad gh sz)) 0 0 (rC_A ad gh sz) := rC_xmet (Qc := fun A => rC_qi D cI cZ cO ad gh de A r M1) (XC := fun A => rC_fx A) hfl hI rfl (by decide) (Nat.le_of_ble_eq_true rfl) (fun p e s m args below meth c E => ⟨(qx11_take D cI cZ cO ad gh de below args s), rfl, b11_take E M a1⟩) h
abbrev rmx11_take : Room := { frames := 7, cells := 1, slots := 6, locals := 121 }
def qy11_take (D : va_G) (cI cZ cO : ClassId) (ad : Nat → Nat) (gh : rC_gh) (de : Nat) (below : List Frame) (args : Array Value) (s : State) : (Int32 × rv_Mem) ⊕ (Nat × rv_Mem) → State → Prop := fun r => match r with
  | .inl _ => fun _ => True
  | .inr r => vx_MQ below (rC_fi (rC_A ad gh s.heap.size)) (rC_xc D cI cZ cO ad gh de (rC_A ad gh s.heap.size) r.1 r.2) args s 1 6 (rC_A ad gh s.heap.size)
set_option maxRecDepth 100000 in
theorem bx11_take {p : Program} {l : Launch} {e : Env} {s : State} {m : MethodId} {args : Array Value} {below : List Frame} {meth : Method} {c : Code} {D : va_G} {cI cZ cO : ClassId} {ad : Nat → Nat} {gh : rC_gh} {de : Nat} (E : rC_X D cI cZ cO ad gh RX11 cX11_take 2 (some .int) p l s m args meth c) (M : rv_Mem) (a1 : Int32) : rv_M (rC_G D cI cZ cO ad gh de) (rC_A ad gh s.heap.size) p l e rmx11_take s m args below meth c 0 0 (qy11_take D cI cZ cO ad gh de below args s) (f11_take gh M a1) 0 [some (.ref (ad 0)), some (.int a1)] [] M := by
  unfold f11_take
  refine rv_aload_n (q := 1) E.1.x dX11_take_0 rfl rfl ?_
  refine rv_iload_n (q := 2) E.1.x dX11_take_1 rfl rfl ?_
  refine rv_x2r (fun r2 e1 => ?_) (fun w3 e4 => rC_yVvX11 E ⟨rfl, rfl⟩ (fun _ => c11_needCommit_x E.2.1 E.1.2.2.1 e4) rfl gX11_79 hX11_needCommit ⟨rfl, rfl⟩ ⟨Nat.le_of_ble_eq_true rfl, Nat.le_of_ble_eq_true rfl⟩ ⟨Nat.le_of_ble_eq_true rfl, Nat.le_of_ble_eq_true rfl⟩ rfl rfl rfl (Nat.le_of_ble_eq_true rfl) dX11_take_2 ⟨Nat.le_of_ble_eq_true rfl, Nat.le_of_ble_eq_true rfl⟩)
  refine rC_xVvX11 (q := 5) E ⟨rfl, rfl⟩ (fun _ => c11_needCommit E.2.1 E.1.2.2.1 e1) gX11_79 hX11_needCommit ⟨rfl, rfl⟩ ⟨Nat.le_of_ble_eq_true rfl, Nat.le_of_ble_eq_true rfl⟩ ⟨Nat.le_of_ble_eq_true rfl, Nat.le_of_ble_eq_true rfl⟩ rfl rfl rfl (Nat.le_of_ble_eq_true rfl) dX11_take_2 rfl ?_
  refine rv_aload_n (q := 6) E.1.x dX11_take_5 rfl rfl ?_
  refine rC_getX11 (q := 9) E.1 0 0 wfX11_10 rfl (Nat.le_of_ble_eq_true rfl) ⟨rfl, rfl⟩ rfl dX11_take_6 rfl ?_
  refine rv_iload_n (q := 10) E.1.x dX11_take_9 rfl rfl ?_
  refine rv_bipush (q := 12) E.1.x dX11_take_10 rv_kb80 rfl ?_
  refine rv_b1 (fun M6 e5 => ?_)
  refine rC_callvX9 (q := 15) E.1 ⟨rfl, rfl⟩ (c9_copyFiles E.1.2.2.1 e5) gX11_83 hX9_copyFiles ⟨rfl, rfl⟩ ⟨Nat.le_of_ble_eq_true rfl, Nat.le_of_ble_eq_true rfl⟩ ⟨Nat.le_of_ble_eq_true rfl, Nat.le_of_ble_eq_true rfl⟩ rfl rfl rfl (Nat.le_of_ble_eq_true rfl) dX11_take_12 rfl ?_
  refine rv_aload_n (q := 16) E.1.x dX11_take_15 rfl rfl ?_
  refine rv_iload_n (q := 17) E.1.x dX11_take_16 rfl rfl ?_
  refine rv_b2 (fun r8 M9 e7 => ?_)
  refine rC_calliX11 (q := 20) E.1 ⟨rfl, rfl⟩ (c11_moveDesk E.1.2.2.1 e7) gX11_87 hX11_moveDesk ⟨rfl, rfl⟩ ⟨Nat.le_of_ble_eq_true rfl, Nat.le_of_ble_eq_true rfl⟩ ⟨Nat.le_of_ble_eq_true rfl, Nat.le_of_ble_eq_true rfl⟩ rfl rfl rfl (Nat.le_of_ble_eq_true rfl) dX11_take_17 rfl ?_
  exact rv_tr (fun _ => trivial)
theorem c11_take_x {l : Launch} {D : va_G} {cI cZ cO : ClassId} {ad : Nat → Nat} {gh : rC_gh} {de : Nat} (hfl : l.stackTraces = false) (hI : rC_I ad gh) {sz : Nat} {M : rv_Mem} {a1 : Int32} {x : Nat} {M1 : rv_Mem} (h : f11_take gh M a1 = some (.inr (x, M1))) : vx_Met l yX11_take (rv_ws yX11_take cX11_take 2 (some .int)) rmx11_take (rC_Px D cI cZ cO ad gh de sz [.ref (ad 0), .int a1] M) (rC_fi (rC_A ad gh sz)) (rC_xc D cI cZ cO ad gh de (rC_A ad gh sz) x M1) 1 6 (rC_A ad gh sz) := rC_xmet (Qc := fun A => rC_fi A) (XC := fun A => rC_xc D cI cZ cO ad gh de A x M1) hfl hI rfl (by decide) (Nat.le_of_ble_eq_true rfl) (fun p e s m args below meth c E => ⟨(qy11_take D cI cZ cO ad gh de below args s), rfl, bx11_take E M a1⟩) h
abbrev rm11_needChange : Room := { frames := 6, cells := 0, slots := 0, locals := 101 }
def qx11_needChange (D : va_G) (cI cZ cO : ClassId) (ad : Nat → Nat) (gh : rC_gh) (de : Nat) (below : List Frame) (args : Array Value) (s : State) (M : rv_Mem) : Nat ⊕ Nat → State → Prop := fun r => match r with
  | .inl r => vx_MQ below (rC_qr D cI cZ cO ad gh de (rC_A ad gh s.heap.size) r M) (rC_fx (rC_A ad gh s.heap.size)) args s 0 0 (rC_A ad gh s.heap.size)
  | .inr _ => fun _ => True
set_option maxRecDepth 100000 in
theorem b11_needChange {p : Program} {l : Launch} {e : Env} {s : State} {m : MethodId} {args : Array Value} {below : List Frame} {meth : Method} {c : Code} {D : va_G} {cI cZ cO : ClassId} {ad : Nat → Nat} {gh : rC_gh} {de : Nat} (E : rC_X D cI cZ cO ad gh RX11 cX11_needChange 2 (some (.object "ReviewForge$Change")) p l s m args meth c) (M : rv_Mem) (a1 : Int32) : rv_M (rC_G D cI cZ cO ad gh de) (rC_A ad gh s.heap.size) p l e rm11_needChange s m args below meth c 0 0 (qx11_needChange D cI cZ cO ad gh de below args s M) (f11_needChange gh M a1) 0 [some (.ref (ad 0)), some (.int a1)] [] M := by
  unfold f11_needChange
  refine rv_iload_n (q := 1) E.1.x dX11_needChange_0 rfl rfl ?_
  refine rv_if_lt (q := 4) (tgt := 15) E.1.x dX11_needChange_1 (by decide) rfl ?_ ?_
  · refine rv_iload_n (q := 5) E.1.x dX11_needChange_4 rfl rfl ?_
    refine rv_aload_n (q := 6) E.1.x dX11_needChange_5 rfl rfl ?_
    refine rC_getX11 (q := 9) E.1 0 5 wfX11_49 rfl (Nat.le_of_ble_eq_true rfl) ⟨rfl, rfl⟩ rfl dX11_needChange_6 rfl ?_
    refine rC_lsz (q := 12) E.1 0 (by decide) (cJ_size E.1.2.2.1 0) gX11_155 ⟨Nat.le_of_ble_eq_true rfl, Nat.le_of_ble_eq_true rfl⟩ ⟨Nat.le_of_ble_eq_true rfl, Nat.le_of_ble_eq_true rfl⟩ rfl (Nat.le_of_ble_eq_true rfl) dX11_needChange_9 rfl ?_
    refine rv_icmp_lt (q := 15) (tgt := 26) E.1.x dX11_needChange_12 (by decide) rfl ?_ ?_
    · exact rv_tr (fun _ => trivial)
    · refine rv_aload_n (q := 27) E.1.x dX11_needChange_26 rfl rfl ?_
      refine rC_getX11 (q := 30) E.1 0 5 wfX11_49 rfl (Nat.le_of_ble_eq_true rfl) ⟨rfl, rfl⟩ rfl dX11_needChange_27 rfl ?_
      refine rv_iload_n (q := 31) E.1.x dX11_needChange_30 rfl rfl ?_
      refine rC_lgt (q := 34) E.1 0 (by decide) (cJ_get E.1.2.2.1 0) ⟨rfl, rfl⟩ gX11_223 ⟨Nat.le_of_ble_eq_true rfl, Nat.le_of_ble_eq_true rfl⟩ ⟨Nat.le_of_ble_eq_true rfl, Nat.le_of_ble_eq_true rfl⟩ rfl (Nat.le_of_ble_eq_true rfl) dX11_needChange_31 rfl ?_
      refine rv_g (fun g1 => ?_)
      refine rC_cstX0 (q := 37) E.1 (rC_at_of g1) wxX11_165 dX11_needChange_34 rfl ?_
      exact rC_xaret E rfl rfl ⟨Nat.le_of_ble_eq_true rfl, Nat.le_of_ble_eq_true rfl⟩ dX11_needChange_37
  · exact rv_tr (fun _ => trivial)
theorem c11_needChange {l : Launch} {D : va_G} {cI cZ cO : ClassId} {ad : Nat → Nat} {gh : rC_gh} {de : Nat} (hfl : l.stackTraces = false) (hI : rC_I ad gh) {sz : Nat} {M : rv_Mem} {a1 : Int32} {r : Nat} (h : f11_needChange gh M a1 = some (.inl r)) : vx_Met l yX11_needChange (rv_ws yX11_needChange cX11_needChange 2 (some (.object "ReviewForge$Change"))) rm11_needChange (rC_Px D cI cZ cO ad gh de sz [.ref (ad 0), .int a1] M) (rC_qr D cI cZ cO ad gh de (rC_A ad gh sz) r M) (rC_fx (rC_A ad gh sz)) 0 0 (rC_A ad gh sz) := rC_xmet (Qc := fun A => rC_qr D cI cZ cO ad gh de A r M) (XC := fun A => rC_fx A) hfl hI rfl (by decide) (Nat.le_of_ble_eq_true rfl) (fun p e s m args below meth c E => ⟨(qx11_needChange D cI cZ cO ad gh de below args s M), rfl, b11_needChange E M a1⟩) h
abbrev rmx11_needChange : Room := { frames := 6, cells := 1, slots := 6, locals := 101 }
def qy11_needChange (D : va_G) (cI cZ cO : ClassId) (ad : Nat → Nat) (gh : rC_gh) (de : Nat) (below : List Frame) (args : Array Value) (s : State) (M : rv_Mem) : Nat ⊕ Nat → State → Prop := fun r => match r with
  | .inl _ => fun _ => True
  | .inr r => vx_MQ below (rC_fr (rC_A ad gh s.heap.size)) (rC_xc D cI cZ cO ad gh de (rC_A ad gh s.heap.size) r M) args s 1 6 (rC_A ad gh s.heap.size)
set_option maxRecDepth 100000 in
theorem bx11_needChange {p : Program} {l : Launch} {e : Env} {s : State} {m : MethodId} {args : Array Value} {below : List Frame} {meth : Method} {c : Code} {D : va_G} {cI cZ cO : ClassId} {ad : Nat → Nat} {gh : rC_gh} {de : Nat} (E : rC_X D cI cZ cO ad gh RX11 cX11_needChange 2 (some (.object "ReviewForge$Change")) p l s m args meth c) (M : rv_Mem) (a1 : Int32) : rv_M (rC_G D cI cZ cO ad gh de) (rC_A ad gh s.heap.size) p l e rmx11_needChange s m args below meth c 0 0 (qy11_needChange D cI cZ cO ad gh de below args s M) (f11_needChange gh M a1) 0 [some (.ref (ad 0)), some (.int a1)] [] M := by
  unfold f11_needChange
  refine rv_iload_n (q := 1) E.1.x dX11_needChange_0 rfl rfl ?_
  refine rv_if_lt (q := 4) (tgt := 15) E.1.x dX11_needChange_1 (by decide) rfl ?_ ?_
  · refine rv_iload_n (q := 5) E.1.x dX11_needChange_4 rfl rfl ?_
    refine rv_aload_n (q := 6) E.1.x dX11_needChange_5 rfl rfl ?_
    refine rC_getX11 (q := 9) E.1 0 5 wfX11_49 rfl (Nat.le_of_ble_eq_true rfl) ⟨rfl, rfl⟩ rfl dX11_needChange_6 rfl ?_
    refine rC_lsz (q := 12) E.1 0 (by decide) (cJ_size E.1.2.2.1 0) gX11_155 ⟨Nat.le_of_ble_eq_true rfl, Nat.le_of_ble_eq_true rfl⟩ ⟨Nat.le_of_ble_eq_true rfl, Nat.le_of_ble_eq_true rfl⟩ rfl (Nat.le_of_ble_eq_true rfl) dX11_needChange_9 rfl ?_
    refine rv_icmp_lt (q := 15) (tgt := 26) E.1.x dX11_needChange_12 (by decide) rfl ?_ ?_
    · exact rC_throwW (x := 1) E rfl (by decide +kernel) rC_xk1 rC_xi1 rC_xg1 rC_xn1 rC_xo1 E.2.2.2.2.2.2.1 (is := 495) (text := "no such change") (by decide +kernel) rfl rfl dX11_needChange_15 dX11_needChange_18 dX11_needChange_19 dX11_needChange_22 dX11_needChange_25 (Nat.le_of_ble_eq_true rfl) (Nat.le_of_ble_eq_true rfl) ⟨Nat.le_of_ble_eq_true rfl, Nat.le_of_ble_eq_true rfl⟩ ⟨Nat.le_of_ble_eq_true rfl, Nat.le_of_ble_eq_true rfl⟩
    · refine rv_aload_n (q := 27) E.1.x dX11_needChange_26 rfl rfl ?_
      refine rC_getX11 (q := 30) E.1 0 5 wfX11_49 rfl (Nat.le_of_ble_eq_true rfl) ⟨rfl, rfl⟩ rfl dX11_needChange_27 rfl ?_
      refine rv_iload_n (q := 31) E.1.x dX11_needChange_30 rfl rfl ?_
      refine rC_lgt (q := 34) E.1 0 (by decide) (cJ_get E.1.2.2.1 0) ⟨rfl, rfl⟩ gX11_223 ⟨Nat.le_of_ble_eq_true rfl, Nat.le_of_ble_eq_true rfl⟩ ⟨Nat.le_of_ble_eq_true rfl, Nat.le_of_ble_eq_true rfl⟩ rfl (Nat.le_of_ble_eq_true rfl) dX11_needChange_31 rfl ?_
      refine rv_g (fun g1 => ?_)
      refine rC_cstX0 (q := 37) E.1 (rC_at_of g1) wxX11_165 dX11_needChange_34 rfl ?_
      exact rv_tr (fun _ => trivial)
  · exact rC_throwW (x := 1) E rfl (by decide +kernel) rC_xk1 rC_xi1 rC_xg1 rC_xn1 rC_xo1 E.2.2.2.2.2.2.1 (is := 495) (text := "no such change") (by decide +kernel) rfl rfl dX11_needChange_15 dX11_needChange_18 dX11_needChange_19 dX11_needChange_22 dX11_needChange_25 (Nat.le_of_ble_eq_true rfl) (Nat.le_of_ble_eq_true rfl) ⟨Nat.le_of_ble_eq_true rfl, Nat.le_of_ble_eq_true rfl⟩ ⟨Nat.le_of_ble_eq_true rfl, Nat.le_of_ble_eq_true rfl⟩
theorem c11_needChange_x {l : Launch} {D : va_G} {cI cZ cO : ClassId} {ad : Nat → Nat} {gh : rC_gh} {de : Nat} (hfl : l.stackTraces = false) (hI : rC_I ad gh) {sz : Nat} {M : rv_Mem} {a1 : Int32} {x : Nat} (h : f11_needChange gh M a1 = some (.inr x)) : vx_Met l yX11_needChange (rv_ws yX11_needChange cX11_needChange 2 (some (.object "ReviewForge$Change"))) rmx11_needChange (rC_Px D cI cZ cO ad gh de sz [.ref (ad 0), .int a1] M) (rC_fr (rC_A ad gh sz)) (rC_xc D cI cZ cO ad gh de (rC_A ad gh sz) x M) 1 6 (rC_A ad gh sz) := rC_xmet (Qc := fun A => rC_fr A) (XC := fun A => rC_xc D cI cZ cO ad gh de A x M) hfl hI rfl (by decide) (Nat.le_of_ble_eq_true rfl) (fun p e s m args below meth c E => ⟨(qy11_needChange D cI cZ cO ad gh de below args s M), rfl, bx11_needChange E M a1⟩) h
abbrev rm11_needSet : Room := { frames := 6, cells := 0, slots := 0, locals := 100 }
def qx11_needSet (D : va_G) (cI cZ cO : ClassId) (ad : Nat → Nat) (gh : rC_gh) (de : Nat) (below : List Frame) (args : Array Value) (s : State) (M : rv_Mem) : Int32 ⊕ Nat → State → Prop := fun r => match r with
  | .inl r => vx_MQ below (rC_qi D cI cZ cO ad gh de (rC_A ad gh s.heap.size) r M) (rC_fx (rC_A ad gh s.heap.size)) args s 0 0 (rC_A ad gh s.heap.size)
  | .inr _ => fun _ => True
set_option maxRecDepth 100000 in
theorem b11_needSet {p : Program} {l : Launch} {e : Env} {s : State} {m : MethodId} {args : Array Value} {below : List Frame} {meth : Method} {c : Code} {D : va_G} {cI cZ cO : ClassId} {ad : Nat → Nat} {gh : rC_gh} {de : Nat} (E : rC_X D cI cZ cO ad gh RX11 cX11_needSet 2 (some .int) p l s m args meth c) (M : rv_Mem) (a1 : Nat) (a2 : Int32) : rv_M (rC_G D cI cZ cO ad gh de) (rC_A ad gh s.heap.size) p l e rm11_needSet s m args below meth c 0 0 (qx11_needSet D cI cZ cO ad gh de below args s M) (f11_needSet gh M a1 a2) 0 [some (.ref (ad a1)), some (.int a2)] [] M := by
  unfold f11_needSet
  refine rv_iload_n (q := 1) E.1.x dX11_needSet_0 rfl rfl ?_
  refine rv_if_lt (q := 4) (tgt := 12) E.1.x dX11_needSet_1 (by decide) rfl ?_ ?_
  · refine rv_iload_n (q := 5) E.1.x dX11_needSet_4 rfl rfl ?_
    refine rv_aload_n (q := 6) E.1.x dX11_needSet_5 rfl rfl ?_
    refine rv_g (fun g1 => ?_)
    refine rC_getX0 (q := 9) E.1 a1 4 wfX11_238 rfl (Nat.le_of_ble_eq_true rfl) (rC_at_of g1) rfl dX11_needSet_6 rfl ?_
    refine rv_icmp_lt (q := 12) (tgt := 23) E.1.x dX11_needSet_9 (by decide) rfl ?_ ?_
    · exact rv_tr (fun _ => trivial)
    · refine rv_aload_n (q := 24) E.1.x dX11_needSet_23 rfl rfl ?_
      refine rv_iload_n (q := 25) E.1.x dX11_needSet_24 rfl rfl ?_
      refine rv_b1 (fun r3 e2 => ?_)
      refine rC_calliX0 (q := 28) E.1 (rC_at_of g1) (c0_commitAt E.1.2.2.1 e2) gX11_336 hX0_commitAt ⟨rfl, rfl⟩ ⟨Nat.le_of_ble_eq_true rfl, Nat.le_of_ble_eq_true rfl⟩ ⟨Nat.le_of_ble_eq_true rfl, Nat.le_of_ble_eq_true rfl⟩ rfl rfl rfl (Nat.le_of_ble_eq_true rfl) dX11_needSet_25 rfl ?_
      exact rC_xiret E rfl ⟨Nat.le_of_ble_eq_true rfl, Nat.le_of_ble_eq_true rfl⟩ dX11_needSet_28
  · exact rv_tr (fun _ => trivial)
theorem c11_needSet {l : Launch} {D : va_G} {cI cZ cO : ClassId} {ad : Nat → Nat} {gh : rC_gh} {de : Nat} (hfl : l.stackTraces = false) (hI : rC_I ad gh) {sz : Nat} {M : rv_Mem} {a1 : Nat} {a2 : Int32} {r : Int32} (h : f11_needSet gh M a1 a2 = some (.inl r)) : vx_Met l yX11_needSet (rv_ws yX11_needSet cX11_needSet 2 (some .int)) rm11_needSet (rC_Px D cI cZ cO ad gh de sz [.ref (ad a1), .int a2] M) (rC_qi D cI cZ cO ad gh de (rC_A ad gh sz) r M) (rC_fx (rC_A ad gh sz)) 0 0 (rC_A ad gh sz) := rC_xmet (Qc := fun A => rC_qi D cI cZ cO ad gh de A r M) (XC := fun A => rC_fx A) hfl hI rfl (by decide) (Nat.le_of_ble_eq_true rfl) (fun p e s m args below meth c E => ⟨(qx11_needSet D cI cZ cO ad gh de below args s M), rfl, b11_needSet E M a1 a2⟩) h
abbrev rmx11_needSet : Room := { frames := 6, cells := 1, slots := 6, locals := 100 }
def qy11_needSet (D : va_G) (cI cZ cO : ClassId) (ad : Nat → Nat) (gh : rC_gh) (de : Nat) (below : List Frame) (args : Array Value) (s : State) (M : rv_Mem) : Int32 ⊕ Nat → State → Prop := fun r => match r with
  | .inl _ => fun _ => True
  | .inr r => vx_MQ below (rC_fi (rC_A ad gh s.heap.size)) (rC_xc D cI cZ cO ad gh de (rC_A ad gh s.heap.size) r M) args s 1 6 (rC_A ad gh s.heap.size)
set_option maxRecDepth 100000 in
theorem bx11_needSet {p : Program} {l : Launch} {e : Env} {s : State} {m : MethodId} {args : Array Value} {below : List Frame} {meth : Method} {c : Code} {D : va_G} {cI cZ cO : ClassId} {ad : Nat → Nat} {gh : rC_gh} {de : Nat} (E : rC_X D cI cZ cO ad gh RX11 cX11_needSet 2 (some .int) p l s m args meth c) (M : rv_Mem) (a1 : Nat) (a2 : Int32) : rv_M (rC_G D cI cZ cO ad gh de) (rC_A ad gh s.heap.size) p l e rmx11_needSet s m args below meth c 0 0 (qy11_needSet D cI cZ cO ad gh de below args s M) (f11_needSet gh M a1 a2) 0 [some (.ref (ad a1)), some (.int a2)] [] M := by
  unfold f11_needSet
  refine rv_iload_n (q := 1) E.1.x dX11_needSet_0 rfl rfl ?_
  refine rv_if_lt (q := 4) (tgt := 12) E.1.x dX11_needSet_1 (by decide) rfl ?_ ?_
  · refine rv_iload_n (q := 5) E.1.x dX11_needSet_4 rfl rfl ?_
    refine rv_aload_n (q := 6) E.1.x dX11_needSet_5 rfl rfl ?_
    refine rv_g (fun g1 => ?_)
    refine rC_getX0 (q := 9) E.1 a1 4 wfX11_238 rfl (Nat.le_of_ble_eq_true rfl) (rC_at_of g1) rfl dX11_needSet_6 rfl ?_
    refine rv_icmp_lt (q := 12) (tgt := 23) E.1.x dX11_needSet_9 (by decide) rfl ?_ ?_
    · exact rC_throwW (x := 1) E rfl (by decide +kernel) rC_xk1 rC_xi1 rC_xg1 rC_xn1 rC_xo1 E.2.2.2.2.2.2.1 (is := 497) (text := "no such patch set") (by decide +kernel) rfl rfl dX11_needSet_12 dX11_needSet_15 dX11_needSet_16 dX11_needSet_19 dX11_needSet_22 (Nat.le_of_ble_eq_true rfl) (Nat.le_of_ble_eq_true rfl) ⟨Nat.le_of_ble_eq_true rfl, Nat.le_of_ble_eq_true rfl⟩ ⟨Nat.le_of_ble_eq_true rfl, Nat.le_of_ble_eq_true rfl⟩
    · refine rv_aload_n (q := 24) E.1.x dX11_needSet_23 rfl rfl ?_
      refine rv_iload_n (q := 25) E.1.x dX11_needSet_24 rfl rfl ?_
      refine rv_b1 (fun r3 e2 => ?_)
      refine rC_calliX0 (q := 28) E.1 (rC_at_of g1) (c0_commitAt E.1.2.2.1 e2) gX11_336 hX0_commitAt ⟨rfl, rfl⟩ ⟨Nat.le_of_ble_eq_true rfl, Nat.le_of_ble_eq_true rfl⟩ ⟨Nat.le_of_ble_eq_true rfl, Nat.le_of_ble_eq_true rfl⟩ rfl rfl rfl (Nat.le_of_ble_eq_true rfl) dX11_needSet_25 rfl ?_
      exact rv_tr (fun _ => trivial)
  · exact rC_throwW (x := 1) E rfl (by decide +kernel) rC_xk1 rC_xi1 rC_xg1 rC_xn1 rC_xo1 E.2.2.2.2.2.2.1 (is := 497) (text := "no such patch set") (by decide +kernel) rfl rfl dX11_needSet_12 dX11_needSet_15 dX11_needSet_16 dX11_needSet_19 dX11_needSet_22 (Nat.le_of_ble_eq_true rfl) (Nat.le_of_ble_eq_true rfl) ⟨Nat.le_of_ble_eq_true rfl, Nat.le_of_ble_eq_true rfl⟩ ⟨Nat.le_of_ble_eq_true rfl, Nat.le_of_ble_eq_true rfl⟩
theorem c11_needSet_x {l : Launch} {D : va_G} {cI cZ cO : ClassId} {ad : Nat → Nat} {gh : rC_gh} {de : Nat} (hfl : l.stackTraces = false) (hI : rC_I ad gh) {sz : Nat} {M : rv_Mem} {a1 : Nat} {a2 : Int32} {x : Nat} (h : f11_needSet gh M a1 a2 = some (.inr x)) : vx_Met l yX11_needSet (rv_ws yX11_needSet cX11_needSet 2 (some .int)) rmx11_needSet (rC_Px D cI cZ cO ad gh de sz [.ref (ad a1), .int a2] M) (rC_fi (rC_A ad gh sz)) (rC_xc D cI cZ cO ad gh de (rC_A ad gh sz) x M) 1 6 (rC_A ad gh sz) := rC_xmet (Qc := fun A => rC_fi A) (XC := fun A => rC_xc D cI cZ cO ad gh de A x M) hfl hI rfl (by decide) (Nat.le_of_ble_eq_true rfl) (fun p e s m args below meth c E => ⟨(qy11_needSet D cI cZ cO ad gh de below args s M), rfl, bx11_needSet E M a1 a2⟩) h
abbrev rm11_takeSet : Room := { frames := 7, cells := 0, slots := 0, locals := 122 }
def qx11_takeSet (D : va_G) (cI cZ cO : ClassId) (ad : Nat → Nat) (gh : rC_gh) (de : Nat) (below : List Frame) (args : Array Value) (s : State) : (Int32 × rv_Mem) ⊕ (Nat × rv_Mem) → State → Prop := fun r => match r with
  | .inl r => vx_MQ below (rC_qi D cI cZ cO ad gh de (rC_A ad gh s.heap.size) r.1 r.2) (rC_fx (rC_A ad gh s.heap.size)) args s 0 0 (rC_A ad gh s.heap.size)
  | .inr _ => fun _ => True
set_option maxRecDepth 100000 in
theorem b11_takeSet {p : Program} {l : Launch} {e : Env} {s : State} {m : MethodId} {args : Array Value} {below : List Frame} {meth : Method} {c : Code} {D : va_G} {cI cZ cO : ClassId} {ad : Nat → Nat} {gh : rC_gh} {de : Nat} (E : rC_X D cI cZ cO ad gh RX11 cX11_takeSet 5 (some .int) p l s m args meth c) (M : rv_Mem) (a1 : Int32) (a2 : Int32) : rv_M (rC_G D cI cZ cO ad gh de) (rC_A ad gh s.heap.size) p l e rm11_takeSet s m args below meth c 0 0 (qx11_takeSet D cI cZ cO ad gh de below args s) (f11_takeSet gh M a1 a2) 0 [some (.ref (ad 0)), some (.int a1), some (.int a2), none, none] [] M := by
  unfold f11_takeSet
  refine rv_aload_n (q := 1) E.1.x dX11_takeSet_0 rfl rfl ?_
  refine rv_iload_n (q := 2) E.1.x dX11_takeSet_1 rfl rfl ?_
  refine rv_x2r (fun r2 e1 => ?_) (fun w3 e4 => rv_tr (fun _ => trivial))
  refine rC_xVrX11 (q := 5) E ⟨rfl, rfl⟩ (fun _ => c11_needChange E.2.1 E.1.2.2.1 e1) gX11_91 hX11_needChange ⟨rfl, rfl⟩ ⟨Nat.le_of_ble_eq_true rfl, Nat.le_of_ble_eq_true rfl⟩ ⟨Nat.le_of_ble_eq_true rfl, Nat.le_of_ble_eq_true rfl⟩ rfl rfl rfl (Nat.le_of_ble_eq_true rfl) dX11_takeSet_2 rfl ?_
  refine rv_iload_n (q := 6) E.1.x dX11_takeSet_5 rfl rfl ?_
  refine rv_x2r (fun r6 e5 => ?_) (fun w7 e8 => rv_tr (fun _ => trivial))
  refine rC_xSi (q := 9) E (fun _ => c11_needSet E.2.1 E.1.2.2.1 e5) gX11_95 hX11_needSet ⟨rfl, rfl⟩ ⟨Nat.le_of_ble_eq_true rfl, Nat.le_of_ble_eq_true rfl⟩ ⟨Nat.le_of_ble_eq_true rfl, Nat.le_of_ble_eq_true rfl⟩ rfl rfl rfl (Nat.le_of_ble_eq_true rfl) dX11_takeSet_6 rfl ?_
  refine rv_istore_n (q := 10) (lv' := [_, _, _, _, _]) E.1.x dX11_takeSet_9 (Nat.le_of_ble_eq_true rfl) rfl rfl rfl ?_
  refine rv_aload_n (q := 11) E.1.x dX11_takeSet_10 rfl rfl ?_
  refine rC_getX11 (q := 14) E.1 0 0 wfX11_10 rfl (Nat.le_of_ble_eq_true rfl) ⟨rfl, rfl⟩ rfl dX11_takeSet_11 rfl ?_
  refine rv_iload_n (q := 15) E.1.x dX11_takeSet_14 rfl rfl ?_
  refine rv_bipush (q := 17) E.1.x dX11_takeSet_15 rv_kb80 rfl ?_
  refine rv_b1 (fun M10 e9 => ?_)
  refine rC_callvX9 (q := 20) E.1 ⟨rfl, rfl⟩ (c9_copyFiles E.1.2.2.1 e9) gX11_83 hX9_copyFiles ⟨rfl, rfl⟩ ⟨Nat.le_of_ble_eq_true rfl, Nat.le_of_ble_eq_true rfl⟩ ⟨Nat.le_of_ble_eq_true rfl, Nat.le_of_ble_eq_true rfl⟩ rfl rfl rfl (Nat.le_of_ble_eq_true rfl) dX11_takeSet_17 rfl ?_
  refine rv_aload_n (q := 21) E.1.x dX11_takeSet_20 rfl rfl ?_
  refine rC_getX11 (q := 24) E.1 0 0 wfX11_10 rfl (Nat.le_of_ble_eq_true rfl) ⟨rfl, rfl⟩ rfl dX11_takeSet_21 rfl ?_
  refine rv_iload_n (q := 25) E.1.x dX11_takeSet_24 rfl rfl ?_
  refine rv_b1 (fun r12 e11 => ?_)
  refine rC_calliX9 (q := 28) E.1 ⟨rfl, rfl⟩ (c9_baseOf E.1.2.2.1 e11) gX11_99 hX9_baseOf ⟨rfl, rfl⟩ ⟨Nat.le_of_ble_eq_true rfl, Nat.le_of_ble_eq_true rfl⟩ ⟨Nat.le_of_ble_eq_true rfl, Nat.le_of_ble_eq_true rfl⟩ rfl rfl rfl (Nat.le_of_ble_eq_true rfl) dX11_takeSet_25 rfl ?_
  refine rv_istore (q := 30) (lv' := [_, _, _, _, _]) E.1.x dX11_takeSet_28 (Nat.le_of_ble_eq_true rfl) rfl rfl rfl ?_
  refine rv_aload_n (q := 31) E.1.x dX11_takeSet_30 rfl rfl ?_
  refine rv_iload (q := 33) E.1.x dX11_takeSet_31 rfl rfl ?_
  refine rv_b2 (fun r14 M15 e13 => ?_)
  refine rC_calliX11 (q := 36) E.1 ⟨rfl, rfl⟩ (c11_moveDesk E.1.2.2.1 e13) gX11_87 hX11_moveDesk ⟨rfl, rfl⟩ ⟨Nat.le_of_ble_eq_true rfl, Nat.le_of_ble_eq_true rfl⟩ ⟨Nat.le_of_ble_eq_true rfl, Nat.le_of_ble_eq_true rfl⟩ rfl rfl rfl (Nat.le_of_ble_eq_true rfl) dX11_takeSet_33 rfl ?_
  refine rv_pop (q := 37) E.1.x dX11_takeSet_36 rfl rfl ?_
  refine rv_iload (q := 39) E.1.x dX11_takeSet_37 rfl rfl ?_
  exact rC_xiret E rfl ⟨Nat.le_of_ble_eq_true rfl, Nat.le_of_ble_eq_true rfl⟩ dX11_takeSet_39
theorem c11_takeSet {l : Launch} {D : va_G} {cI cZ cO : ClassId} {ad : Nat → Nat} {gh : rC_gh} {de : Nat} (hfl : l.stackTraces = false) (hI : rC_I ad gh) {sz : Nat} {M : rv_Mem} {a1 : Int32} {a2 : Int32} {r : Int32} {M1 : rv_Mem} (h : f11_takeSet gh M a1 a2 = some (.inl (r, M1))) : vx_Met l yX11_takeSet (rv_ws yX11_takeSet cX11_takeSet 5 (some .int)) rm11_takeSet (rC_Px D cI cZ cO ad gh de sz [.ref (ad 0), .int a1, .int a2] M) (rC_qi D cI cZ cO ad gh de (rC_A ad gh sz) r M1) (rC_fx (rC_A ad gh sz)) 0 0 (rC_A ad gh sz) := rC_xmet (Qc := fun A => rC_qi D cI cZ cO ad gh de A r M1) (XC := fun A => rC_fx A) hfl hI rfl (by decide) (Nat.le_of_ble_eq_true rfl) (fun p e s m args below meth c E => ⟨(qx11_takeSet D cI cZ cO ad gh de below args s), rfl, b11_takeSet E M a1 a2⟩) h
abbrev rmx11_takeSet : Room := { frames := 7, cells := 1, slots := 6, locals := 122 }
def qy11_takeSet (D : va_G) (cI cZ cO : ClassId) (ad : Nat → Nat) (gh : rC_gh) (de : Nat) (below : List Frame) (args : Array Value) (s : State) : (Int32 × rv_Mem) ⊕ (Nat × rv_Mem) → State → Prop := fun r => match r with
  | .inl _ => fun _ => True
  | .inr r => vx_MQ below (rC_fi (rC_A ad gh s.heap.size)) (rC_xc D cI cZ cO ad gh de (rC_A ad gh s.heap.size) r.1 r.2) args s 1 6 (rC_A ad gh s.heap.size)
set_option maxRecDepth 100000 in
theorem bx11_takeSet {p : Program} {l : Launch} {e : Env} {s : State} {m : MethodId} {args : Array Value} {below : List Frame} {meth : Method} {c : Code} {D : va_G} {cI cZ cO : ClassId} {ad : Nat → Nat} {gh : rC_gh} {de : Nat} (E : rC_X D cI cZ cO ad gh RX11 cX11_takeSet 5 (some .int) p l s m args meth c) (M : rv_Mem) (a1 : Int32) (a2 : Int32) : rv_M (rC_G D cI cZ cO ad gh de) (rC_A ad gh s.heap.size) p l e rmx11_takeSet s m args below meth c 0 0 (qy11_takeSet D cI cZ cO ad gh de below args s) (f11_takeSet gh M a1 a2) 0 [some (.ref (ad 0)), some (.int a1), some (.int a2), none, none] [] M := by
  unfold f11_takeSet
  refine rv_aload_n (q := 1) E.1.x dX11_takeSet_0 rfl rfl ?_
  refine rv_iload_n (q := 2) E.1.x dX11_takeSet_1 rfl rfl ?_
  refine rv_x2r (fun r2 e1 => ?_) (fun w3 e4 => rC_yVrX11 E ⟨rfl, rfl⟩ (fun _ => c11_needChange_x E.2.1 E.1.2.2.1 e4) rfl gX11_91 hX11_needChange ⟨rfl, rfl⟩ ⟨Nat.le_of_ble_eq_true rfl, Nat.le_of_ble_eq_true rfl⟩ ⟨Nat.le_of_ble_eq_true rfl, Nat.le_of_ble_eq_true rfl⟩ rfl rfl rfl (Nat.le_of_ble_eq_true rfl) dX11_takeSet_2 ⟨Nat.le_of_ble_eq_true rfl, Nat.le_of_ble_eq_true rfl⟩)
  refine rC_xVrX11 (q := 5) E ⟨rfl, rfl⟩ (fun _ => c11_needChange E.2.1 E.1.2.2.1 e1) gX11_91 hX11_needChange ⟨rfl, rfl⟩ ⟨Nat.le_of_ble_eq_true rfl, Nat.le_of_ble_eq_true rfl⟩ ⟨Nat.le_of_ble_eq_true rfl, Nat.le_of_ble_eq_true rfl⟩ rfl rfl rfl (Nat.le_of_ble_eq_true rfl) dX11_takeSet_2 rfl ?_
  refine rv_iload_n (q := 6) E.1.x dX11_takeSet_5 rfl rfl ?_
  refine rv_x2r (fun r6 e5 => ?_) (fun w7 e8 => rC_ySi E (fun _ => c11_needSet_x E.2.1 E.1.2.2.1 e8) rfl gX11_95 hX11_needSet ⟨rfl, rfl⟩ ⟨Nat.le_of_ble_eq_true rfl, Nat.le_of_ble_eq_true rfl⟩ ⟨Nat.le_of_ble_eq_true rfl, Nat.le_of_ble_eq_true rfl⟩ rfl rfl rfl (Nat.le_of_ble_eq_true rfl) dX11_takeSet_6 ⟨Nat.le_of_ble_eq_true rfl, Nat.le_of_ble_eq_true rfl⟩)
  refine rC_xSi (q := 9) E (fun _ => c11_needSet E.2.1 E.1.2.2.1 e5) gX11_95 hX11_needSet ⟨rfl, rfl⟩ ⟨Nat.le_of_ble_eq_true rfl, Nat.le_of_ble_eq_true rfl⟩ ⟨Nat.le_of_ble_eq_true rfl, Nat.le_of_ble_eq_true rfl⟩ rfl rfl rfl (Nat.le_of_ble_eq_true rfl) dX11_takeSet_6 rfl ?_
  refine rv_istore_n (q := 10) (lv' := [_, _, _, _, _]) E.1.x dX11_takeSet_9 (Nat.le_of_ble_eq_true rfl) rfl rfl rfl ?_
  refine rv_aload_n (q := 11) E.1.x dX11_takeSet_10 rfl rfl ?_
  refine rC_getX11 (q := 14) E.1 0 0 wfX11_10 rfl (Nat.le_of_ble_eq_true rfl) ⟨rfl, rfl⟩ rfl dX11_takeSet_11 rfl ?_
  refine rv_iload_n (q := 15) E.1.x dX11_takeSet_14 rfl rfl ?_
  refine rv_bipush (q := 17) E.1.x dX11_takeSet_15 rv_kb80 rfl ?_
  refine rv_b1 (fun M10 e9 => ?_)
  refine rC_callvX9 (q := 20) E.1 ⟨rfl, rfl⟩ (c9_copyFiles E.1.2.2.1 e9) gX11_83 hX9_copyFiles ⟨rfl, rfl⟩ ⟨Nat.le_of_ble_eq_true rfl, Nat.le_of_ble_eq_true rfl⟩ ⟨Nat.le_of_ble_eq_true rfl, Nat.le_of_ble_eq_true rfl⟩ rfl rfl rfl (Nat.le_of_ble_eq_true rfl) dX11_takeSet_17 rfl ?_
  refine rv_aload_n (q := 21) E.1.x dX11_takeSet_20 rfl rfl ?_
  refine rC_getX11 (q := 24) E.1 0 0 wfX11_10 rfl (Nat.le_of_ble_eq_true rfl) ⟨rfl, rfl⟩ rfl dX11_takeSet_21 rfl ?_
  refine rv_iload_n (q := 25) E.1.x dX11_takeSet_24 rfl rfl ?_
  refine rv_b1 (fun r12 e11 => ?_)
  refine rC_calliX9 (q := 28) E.1 ⟨rfl, rfl⟩ (c9_baseOf E.1.2.2.1 e11) gX11_99 hX9_baseOf ⟨rfl, rfl⟩ ⟨Nat.le_of_ble_eq_true rfl, Nat.le_of_ble_eq_true rfl⟩ ⟨Nat.le_of_ble_eq_true rfl, Nat.le_of_ble_eq_true rfl⟩ rfl rfl rfl (Nat.le_of_ble_eq_true rfl) dX11_takeSet_25 rfl ?_
  refine rv_istore (q := 30) (lv' := [_, _, _, _, _]) E.1.x dX11_takeSet_28 (Nat.le_of_ble_eq_true rfl) rfl rfl rfl ?_
  refine rv_aload_n (q := 31) E.1.x dX11_takeSet_30 rfl rfl ?_
  refine rv_iload (q := 33) E.1.x dX11_takeSet_31 rfl rfl ?_
  refine rv_b2 (fun r14 M15 e13 => ?_)
  refine rC_calliX11 (q := 36) E.1 ⟨rfl, rfl⟩ (c11_moveDesk E.1.2.2.1 e13) gX11_87 hX11_moveDesk ⟨rfl, rfl⟩ ⟨Nat.le_of_ble_eq_true rfl, Nat.le_of_ble_eq_true rfl⟩ ⟨Nat.le_of_ble_eq_true rfl, Nat.le_of_ble_eq_true rfl⟩ rfl rfl rfl (Nat.le_of_ble_eq_true rfl) dX11_takeSet_33 rfl ?_
  refine rv_pop (q := 37) E.1.x dX11_takeSet_36 rfl rfl ?_
  refine rv_iload (q := 39) E.1.x dX11_takeSet_37 rfl rfl ?_
  exact rv_tr (fun _ => trivial)
theorem c11_takeSet_x {l : Launch} {D : va_G} {cI cZ cO : ClassId} {ad : Nat → Nat} {gh : rC_gh} {de : Nat} (hfl : l.stackTraces = false) (hI : rC_I ad gh) {sz : Nat} {M : rv_Mem} {a1 : Int32} {a2 : Int32} {x : Nat} {M1 : rv_Mem} (h : f11_takeSet gh M a1 a2 = some (.inr (x, M1))) : vx_Met l yX11_takeSet (rv_ws yX11_takeSet cX11_takeSet 5 (some .int)) rmx11_takeSet (rC_Px D cI cZ cO ad gh de sz [.ref (ad 0), .int a1, .int a2] M) (rC_fi (rC_A ad gh sz)) (rC_xc D cI cZ cO ad gh de (rC_A ad gh sz) x M1) 1 6 (rC_A ad gh sz) := rC_xmet (Qc := fun A => rC_fi A) (XC := fun A => rC_xc D cI cZ cO ad gh de A x M1) hfl hI rfl (by decide) (Nat.le_of_ble_eq_true rfl) (fun p e s m args below meth c E => ⟨(qy11_takeSet D cI cZ cO ad gh de below args s), rfl, bx11_takeSet E M a1 a2⟩) h
abbrev rm11_needFile : Room := { frames := 6, cells := 0, slots := 0, locals := 100 }
def qx11_needFile (D : va_G) (cI cZ cO : ClassId) (ad : Nat → Nat) (gh : rC_gh) (de : Nat) (below : List Frame) (args : Array Value) (s : State) (M : rv_Mem) : Unit ⊕ Nat → State → Prop := fun r => match r with
  | .inl r => vx_MQ below (rC_qv D cI cZ cO ad gh de (rC_A ad gh s.heap.size) M) (rC_fx (rC_A ad gh s.heap.size)) args s 0 0 (rC_A ad gh s.heap.size)
  | .inr _ => fun _ => True
set_option maxRecDepth 100000 in
theorem b11_needFile {p : Program} {l : Launch} {e : Env} {s : State} {m : MethodId} {args : Array Value} {below : List Frame} {meth : Method} {c : Code} {D : va_G} {cI cZ cO : ClassId} {ad : Nat → Nat} {gh : rC_gh} {de : Nat} (E : rC_X D cI cZ cO ad gh RX11 cX11_needFile 1 none p l s m args meth c) (M : rv_Mem) (a1 : Int32) : rv_M (rC_G D cI cZ cO ad gh de) (rC_A ad gh s.heap.size) p l e rm11_needFile s m args below meth c 0 0 (qx11_needFile D cI cZ cO ad gh de below args s M) (f11_needFile gh M a1) 0 [some (.int a1)] [] M := by
  unfold f11_needFile
  refine rv_iload_n (q := 1) E.1.x dX11_needFile_0 rfl rfl ?_
  refine rv_if_lt (q := 4) (tgt := 9) E.1.x dX11_needFile_1 (by decide) rfl ?_ ?_
  · refine rv_iload_n (q := 5) E.1.x dX11_needFile_4 rfl rfl ?_
    refine rv_iconst (q := 6) E.1.x dX11_needFile_5 rv_ki4 rfl ?_
    refine rv_icmp_lt (q := 9) (tgt := 20) E.1.x dX11_needFile_6 (by decide) rfl ?_ ?_
    · exact rv_tr (fun _ => trivial)
    · exact rC_xvret E rfl ⟨Nat.le_of_ble_eq_true rfl, Nat.le_of_ble_eq_true rfl⟩ dX11_needFile_20
  · exact rv_tr (fun _ => trivial)
theorem c11_needFile {l : Launch} {D : va_G} {cI cZ cO : ClassId} {ad : Nat → Nat} {gh : rC_gh} {de : Nat} (hfl : l.stackTraces = false) (hI : rC_I ad gh) {sz : Nat} {M : rv_Mem} {a1 : Int32} {r : Unit} (h : f11_needFile gh M a1 = some (.inl r)) : vx_Met l yX11_needFile (rv_ws yX11_needFile cX11_needFile 1 none) rm11_needFile (rC_Px D cI cZ cO ad gh de sz [.int a1] M) (rC_qv D cI cZ cO ad gh de (rC_A ad gh sz) M) (rC_fx (rC_A ad gh sz)) 0 0 (rC_A ad gh sz) := rC_xmet (Qc := fun A => rC_qv D cI cZ cO ad gh de A M) (XC := fun A => rC_fx A) hfl hI rfl (by decide) (Nat.le_of_ble_eq_true rfl) (fun p e s m args below meth c E => ⟨(qx11_needFile D cI cZ cO ad gh de below args s M), rfl, b11_needFile E M a1⟩) h
abbrev rmx11_needFile : Room := { frames := 6, cells := 1, slots := 6, locals := 100 }
def qy11_needFile (D : va_G) (cI cZ cO : ClassId) (ad : Nat → Nat) (gh : rC_gh) (de : Nat) (below : List Frame) (args : Array Value) (s : State) (M : rv_Mem) : Unit ⊕ Nat → State → Prop := fun r => match r with
  | .inl _ => fun _ => True
  | .inr r => vx_MQ below (rC_fvv (rC_A ad gh s.heap.size)) (rC_xc D cI cZ cO ad gh de (rC_A ad gh s.heap.size) r M) args s 1 6 (rC_A ad gh s.heap.size)
set_option maxRecDepth 100000 in
theorem bx11_needFile {p : Program} {l : Launch} {e : Env} {s : State} {m : MethodId} {args : Array Value} {below : List Frame} {meth : Method} {c : Code} {D : va_G} {cI cZ cO : ClassId} {ad : Nat → Nat} {gh : rC_gh} {de : Nat} (E : rC_X D cI cZ cO ad gh RX11 cX11_needFile 1 none p l s m args meth c) (M : rv_Mem) (a1 : Int32) : rv_M (rC_G D cI cZ cO ad gh de) (rC_A ad gh s.heap.size) p l e rmx11_needFile s m args below meth c 0 0 (qy11_needFile D cI cZ cO ad gh de below args s M) (f11_needFile gh M a1) 0 [some (.int a1)] [] M := by
  unfold f11_needFile
  refine rv_iload_n (q := 1) E.1.x dX11_needFile_0 rfl rfl ?_
  refine rv_if_lt (q := 4) (tgt := 9) E.1.x dX11_needFile_1 (by decide) rfl ?_ ?_
  · refine rv_iload_n (q := 5) E.1.x dX11_needFile_4 rfl rfl ?_
    refine rv_iconst (q := 6) E.1.x dX11_needFile_5 rv_ki4 rfl ?_
    refine rv_icmp_lt (q := 9) (tgt := 20) E.1.x dX11_needFile_6 (by decide) rfl ?_ ?_
    · exact rC_throwW (x := 1) E rfl (by decide +kernel) rC_xk1 rC_xi1 rC_xg1 rC_xn1 rC_xo1 E.2.2.2.2.2.2.1 (is := 489) (text := "no such file") (by decide +kernel) rfl rfl dX11_needFile_9 dX11_needFile_12 dX11_needFile_13 dX11_needFile_16 dX11_needFile_19 (Nat.le_of_ble_eq_true rfl) (Nat.le_of_ble_eq_true rfl) ⟨Nat.le_of_ble_eq_true rfl, Nat.le_of_ble_eq_true rfl⟩ ⟨Nat.le_of_ble_eq_true rfl, Nat.le_of_ble_eq_true rfl⟩
    · exact rv_tr (fun _ => trivial)
  · exact rC_throwW (x := 1) E rfl (by decide +kernel) rC_xk1 rC_xi1 rC_xg1 rC_xn1 rC_xo1 E.2.2.2.2.2.2.1 (is := 489) (text := "no such file") (by decide +kernel) rfl rfl dX11_needFile_9 dX11_needFile_12 dX11_needFile_13 dX11_needFile_16 dX11_needFile_19 (Nat.le_of_ble_eq_true rfl) (Nat.le_of_ble_eq_true rfl) ⟨Nat.le_of_ble_eq_true rfl, Nat.le_of_ble_eq_true rfl⟩ ⟨Nat.le_of_ble_eq_true rfl, Nat.le_of_ble_eq_true rfl⟩
theorem c11_needFile_x {l : Launch} {D : va_G} {cI cZ cO : ClassId} {ad : Nat → Nat} {gh : rC_gh} {de : Nat} (hfl : l.stackTraces = false) (hI : rC_I ad gh) {sz : Nat} {M : rv_Mem} {a1 : Int32} {x : Nat} (h : f11_needFile gh M a1 = some (.inr x)) : vx_Met l yX11_needFile (rv_ws yX11_needFile cX11_needFile 1 none) rmx11_needFile (rC_Px D cI cZ cO ad gh de sz [.int a1] M) (rC_fvv (rC_A ad gh sz)) (rC_xc D cI cZ cO ad gh de (rC_A ad gh sz) x M) 1 6 (rC_A ad gh sz) := rC_xmet (Qc := fun A => rC_fvv A) (XC := fun A => rC_xc D cI cZ cO ad gh de A x M) hfl hI rfl (by decide) (Nat.le_of_ble_eq_true rfl) (fun p e s m args below meth c E => ⟨(qy11_needFile D cI cZ cO ad gh de below args s M), rfl, bx11_needFile E M a1⟩) h
abbrev rm11_put : Room := { frames := 7, cells := 0, slots := 0, locals := 120 }
def qx11_put (D : va_G) (cI cZ cO : ClassId) (ad : Nat → Nat) (gh : rC_gh) (de : Nat) (below : List Frame) (args : Array Value) (s : State) : (Int32 × rv_Mem) ⊕ (Nat × rv_Mem) → State → Prop := fun r => match r with
  | .inl r => vx_MQ below (rC_qi D cI cZ cO ad gh de (rC_A ad gh s.heap.size) r.1 r.2) (rC_fx (rC_A ad gh s.heap.size)) args s 0 0 (rC_A ad gh s.heap.size)
  | .inr _ => fun _ => True
set_option maxRecDepth 100000 in
theorem b11_put {p : Program} {l : Launch} {e : Env} {s : State} {m : MethodId} {args : Array Value} {below : List Frame} {meth : Method} {c : Code} {D : va_G} {cI cZ cO : ClassId} {ad : Nat → Nat} {gh : rC_gh} {de : Nat} (E : rC_X D cI cZ cO ad gh RX11 cX11_put 5 (some .int) p l s m args meth c) (M : rv_Mem) (a1 : Int32) (a2 : Int32) (a3 : Int32) : rv_M (rC_G D cI cZ cO ad gh de) (rC_A ad gh s.heap.size) p l e rm11_put s m args below meth c 0 0 (qx11_put D cI cZ cO ad gh de below args s) (f11_put gh M a1 a2 a3) 0 [some (.ref (ad 0)), some (.int a1), some (.int a2), some (.int a3), none] [] M := by
  unfold f11_put
  refine rv_iload_n (q := 1) E.1.x dX11_put_0 rfl rfl ?_
  refine rv_x2r (fun r2 e1 => ?_) (fun w3 e4 => rv_tr (fun _ => trivial))
  refine rC_xSv (q := 4) E (fun _ => c11_needFile E.2.1 E.1.2.2.1 e1) gX11_102 hX11_needFile ⟨rfl, rfl⟩ ⟨Nat.le_of_ble_eq_true rfl, Nat.le_of_ble_eq_true rfl⟩ ⟨Nat.le_of_ble_eq_true rfl, Nat.le_of_ble_eq_true rfl⟩ rfl rfl rfl (Nat.le_of_ble_eq_true rfl) dX11_put_1 rfl ?_
  refine rv_aload_n (q := 5) E.1.x dX11_put_4 rfl rfl ?_
  refine rC_getX11 (q := 8) E.1 0 0 wfX11_10 rfl (Nat.le_of_ble_eq_true rfl) ⟨rfl, rfl⟩ rfl dX11_put_5 rfl ?_
  refine rv_bipush (q := 10) E.1.x dX11_put_8 rv_kb80 rfl ?_
  refine rv_iload_n (q := 11) E.1.x dX11_put_10 rfl rfl ?_
  refine rv_b1 (fun r6 e5 => ?_)
  refine rC_calliX9 (q := 14) E.1 ⟨rfl, rfl⟩ (c9_sizeOf E.1.2.2.1 e5) gX11_105 hX9_sizeOf ⟨rfl, rfl⟩ ⟨Nat.le_of_ble_eq_true rfl, Nat.le_of_ble_eq_true rfl⟩ ⟨Nat.le_of_ble_eq_true rfl, Nat.le_of_ble_eq_true rfl⟩ rfl rfl rfl (Nat.le_of_ble_eq_true rfl) dX11_put_11 rfl ?_
  refine rv_istore (q := 16) (lv' := [_, _, _, _, _]) E.1.x dX11_put_14 (Nat.le_of_ble_eq_true rfl) rfl rfl rfl ?_
  refine rv_iload_n (q := 17) E.1.x dX11_put_16 rfl rfl ?_
  refine rv_if_lt (q := 20) (tgt := 26) E.1.x dX11_put_17 (by decide) rfl ?_ ?_
  · refine rv_iload_n (q := 21) E.1.x dX11_put_20 rfl rfl ?_
    refine rv_iload (q := 23) E.1.x dX11_put_21 rfl rfl ?_
    refine rv_icmp_le (q := 26) (tgt := 36) E.1.x dX11_put_23 (by decide) rfl ?_ ?_
    · exact rv_tr (fun _ => trivial)
    · refine rv_iload_n (q := 37) E.1.x dX11_put_36 rfl rfl ?_
      refine rv_if_lt (q := 40) (tgt := 47) E.1.x dX11_put_37 (by decide) rfl ?_ ?_
      · refine rv_iload_n (q := 41) E.1.x dX11_put_40 rfl rfl ?_
        refine rv_sipush (q := 44) E.1.x dX11_put_41 rv_ks400 rfl ?_
        refine rv_icmp_lt (q := 47) (tgt := 57) E.1.x dX11_put_44 (by decide) rfl ?_ ?_
        · exact rv_tr (fun _ => trivial)
        · refine rv_iload (q := 59) E.1.x dX11_put_57 rfl rfl ?_
          refine rv_bipush (q := 61) E.1.x dX11_put_59 rv_kb10 rfl ?_
          refine rv_icmp_lt (q := 64) (tgt := 74) E.1.x dX11_put_61 (by decide) rfl ?_ ?_
          · exact rv_tr (fun _ => trivial)
          · refine rv_aload_n (q := 75) E.1.x dX11_put_74 rfl rfl ?_
            refine rC_getX11 (q := 78) E.1 0 0 wfX11_10 rfl (Nat.le_of_ble_eq_true rfl) ⟨rfl, rfl⟩ rfl dX11_put_75 rfl ?_
            refine rv_iload_n (q := 79) E.1.x dX11_put_78 rfl rfl ?_
            refine rv_iload_n (q := 80) E.1.x dX11_put_79 rfl rfl ?_
            refine rv_iload_n (q := 81) E.1.x dX11_put_80 rfl rfl ?_
            refine rv_b1 (fun M8 e7 => ?_)
            refine rC_callvX9 (q := 84) E.1 ⟨rfl, rfl⟩ (c9_insertOnDesk E.1.2.2.1 e7) gX11_126 hX9_insertOnDesk ⟨rfl, rfl⟩ ⟨Nat.le_of_ble_eq_true rfl, Nat.le_of_ble_eq_true rfl⟩ ⟨Nat.le_of_ble_eq_true rfl, Nat.le_of_ble_eq_true rfl⟩ rfl rfl rfl (Nat.le_of_ble_eq_true rfl) dX11_put_81 rfl ?_
            refine rv_iload (q := 86) E.1.x dX11_put_84 rfl rfl ?_
            refine rv_iconst (q := 87) E.1.x dX11_put_86 rv_ki1 rfl ?_
            refine rv_iadd (q := 88) E.1.x dX11_put_87 rfl ?_
            exact rC_xiret E rfl ⟨Nat.le_of_ble_eq_true rfl, Nat.le_of_ble_eq_true rfl⟩ dX11_put_88
      · exact rv_tr (fun _ => trivial)
  · exact rv_tr (fun _ => trivial)
theorem c11_put {l : Launch} {D : va_G} {cI cZ cO : ClassId} {ad : Nat → Nat} {gh : rC_gh} {de : Nat} (hfl : l.stackTraces = false) (hI : rC_I ad gh) {sz : Nat} {M : rv_Mem} {a1 : Int32} {a2 : Int32} {a3 : Int32} {r : Int32} {M1 : rv_Mem} (h : f11_put gh M a1 a2 a3 = some (.inl (r, M1))) : vx_Met l yX11_put (rv_ws yX11_put cX11_put 5 (some .int)) rm11_put (rC_Px D cI cZ cO ad gh de sz [.ref (ad 0), .int a1, .int a2, .int a3] M) (rC_qi D cI cZ cO ad gh de (rC_A ad gh sz) r M1) (rC_fx (rC_A ad gh sz)) 0 0 (rC_A ad gh sz) := rC_xmet (Qc := fun A => rC_qi D cI cZ cO ad gh de A r M1) (XC := fun A => rC_fx A) hfl hI rfl (by decide) (Nat.le_of_ble_eq_true rfl) (fun p e s m args below meth c E => ⟨(qx11_put D cI cZ cO ad gh de below args s), rfl, b11_put E M a1 a2 a3⟩) h
abbrev rmx11_put : Room := { frames := 7, cells := 1, slots := 6, locals := 120 }
def qy11_put (D : va_G) (cI cZ cO : ClassId) (ad : Nat → Nat) (gh : rC_gh) (de : Nat) (below : List Frame) (args : Array Value) (s : State) : (Int32 × rv_Mem) ⊕ (Nat × rv_Mem) → State → Prop := fun r => match r with
  | .inl _ => fun _ => True
  | .inr r => vx_MQ below (rC_fi (rC_A ad gh s.heap.size)) (rC_xc D cI cZ cO ad gh de (rC_A ad gh s.heap.size) r.1 r.2) args s 1 6 (rC_A ad gh s.heap.size)
set_option maxRecDepth 100000 in
theorem bx11_put {p : Program} {l : Launch} {e : Env} {s : State} {m : MethodId} {args : Array Value} {below : List Frame} {meth : Method} {c : Code} {D : va_G} {cI cZ cO : ClassId} {ad : Nat → Nat} {gh : rC_gh} {de : Nat} (E : rC_X D cI cZ cO ad gh RX11 cX11_put 5 (some .int) p l s m args meth c) (M : rv_Mem) (a1 : Int32) (a2 : Int32) (a3 : Int32) : rv_M (rC_G D cI cZ cO ad gh de) (rC_A ad gh s.heap.size) p l e rmx11_put s m args below meth c 0 0 (qy11_put D cI cZ cO ad gh de below args s) (f11_put gh M a1 a2 a3) 0 [some (.ref (ad 0)), some (.int a1), some (.int a2), some (.int a3), none] [] M := by
  unfold f11_put
  refine rv_iload_n (q := 1) E.1.x dX11_put_0 rfl rfl ?_
  refine rv_x2r (fun r2 e1 => ?_) (fun w3 e4 => rC_ySv E (fun _ => c11_needFile_x E.2.1 E.1.2.2.1 e4) rfl gX11_102 hX11_needFile ⟨rfl, rfl⟩ ⟨Nat.le_of_ble_eq_true rfl, Nat.le_of_ble_eq_true rfl⟩ ⟨Nat.le_of_ble_eq_true rfl, Nat.le_of_ble_eq_true rfl⟩ rfl rfl rfl (Nat.le_of_ble_eq_true rfl) dX11_put_1 ⟨Nat.le_of_ble_eq_true rfl, Nat.le_of_ble_eq_true rfl⟩)
  refine rC_xSv (q := 4) E (fun _ => c11_needFile E.2.1 E.1.2.2.1 e1) gX11_102 hX11_needFile ⟨rfl, rfl⟩ ⟨Nat.le_of_ble_eq_true rfl, Nat.le_of_ble_eq_true rfl⟩ ⟨Nat.le_of_ble_eq_true rfl, Nat.le_of_ble_eq_true rfl⟩ rfl rfl rfl (Nat.le_of_ble_eq_true rfl) dX11_put_1 rfl ?_
  refine rv_aload_n (q := 5) E.1.x dX11_put_4 rfl rfl ?_
  refine rC_getX11 (q := 8) E.1 0 0 wfX11_10 rfl (Nat.le_of_ble_eq_true rfl) ⟨rfl, rfl⟩ rfl dX11_put_5 rfl ?_
  refine rv_bipush (q := 10) E.1.x dX11_put_8 rv_kb80 rfl ?_
  refine rv_iload_n (q := 11) E.1.x dX11_put_10 rfl rfl ?_
  refine rv_b1 (fun r6 e5 => ?_)
  refine rC_calliX9 (q := 14) E.1 ⟨rfl, rfl⟩ (c9_sizeOf E.1.2.2.1 e5) gX11_105 hX9_sizeOf ⟨rfl, rfl⟩ ⟨Nat.le_of_ble_eq_true rfl, Nat.le_of_ble_eq_true rfl⟩ ⟨Nat.le_of_ble_eq_true rfl, Nat.le_of_ble_eq_true rfl⟩ rfl rfl rfl (Nat.le_of_ble_eq_true rfl) dX11_put_11 rfl ?_
  refine rv_istore (q := 16) (lv' := [_, _, _, _, _]) E.1.x dX11_put_14 (Nat.le_of_ble_eq_true rfl) rfl rfl rfl ?_
  refine rv_iload_n (q := 17) E.1.x dX11_put_16 rfl rfl ?_
  refine rv_if_lt (q := 20) (tgt := 26) E.1.x dX11_put_17 (by decide) rfl ?_ ?_
  · refine rv_iload_n (q := 21) E.1.x dX11_put_20 rfl rfl ?_
    refine rv_iload (q := 23) E.1.x dX11_put_21 rfl rfl ?_
    refine rv_icmp_le (q := 26) (tgt := 36) E.1.x dX11_put_23 (by decide) rfl ?_ ?_
    · exact rC_throw (x := 1) E rfl (by decide +kernel) rC_xk1 rC_xi1 rC_xg1 rC_xn1 rC_xo1 E.2.2.2.2.2.2.1 (is := 111) (text := "no such place") (by decide +kernel) rfl rfl dX11_put_26 dX11_put_29 dX11_put_30 dX11_put_32 dX11_put_35 (Nat.le_of_ble_eq_true rfl) (Nat.le_of_ble_eq_true rfl) ⟨Nat.le_of_ble_eq_true rfl, Nat.le_of_ble_eq_true rfl⟩ ⟨Nat.le_of_ble_eq_true rfl, Nat.le_of_ble_eq_true rfl⟩
    · refine rv_iload_n (q := 37) E.1.x dX11_put_36 rfl rfl ?_
      refine rv_if_lt (q := 40) (tgt := 47) E.1.x dX11_put_37 (by decide) rfl ?_ ?_
      · refine rv_iload_n (q := 41) E.1.x dX11_put_40 rfl rfl ?_
        refine rv_sipush (q := 44) E.1.x dX11_put_41 rv_ks400 rfl ?_
        refine rv_icmp_lt (q := 47) (tgt := 57) E.1.x dX11_put_44 (by decide) rfl ?_ ?_
        · exact rC_throw (x := 2) E rfl (by decide +kernel) rC_xk2 rC_xi2 rC_xg2 rC_xn2 rC_xo2 E.2.2.2.2.2.2.2.1 (is := 118) (text := "no such line") (by decide +kernel) rfl rfl dX11_put_47 dX11_put_50 dX11_put_51 dX11_put_53 dX11_put_56 (Nat.le_of_ble_eq_true rfl) (Nat.le_of_ble_eq_true rfl) ⟨Nat.le_of_ble_eq_true rfl, Nat.le_of_ble_eq_true rfl⟩ ⟨Nat.le_of_ble_eq_true rfl, Nat.le_of_ble_eq_true rfl⟩
        · refine rv_iload (q := 59) E.1.x dX11_put_57 rfl rfl ?_
          refine rv_bipush (q := 61) E.1.x dX11_put_59 rv_kb10 rfl ?_
          refine rv_icmp_lt (q := 64) (tgt := 74) E.1.x dX11_put_61 (by decide) rfl ?_ ?_
          · exact rC_throw (x := 3) E rfl (by decide +kernel) rC_xk3 rC_xi3 rC_xg3 rC_xn3 rC_xo3 E.2.2.2.2.2.2.2.2.1 (is := 123) (text := "the file is full") (by decide +kernel) rfl rfl dX11_put_64 dX11_put_67 dX11_put_68 dX11_put_70 dX11_put_73 (Nat.le_of_ble_eq_true rfl) (Nat.le_of_ble_eq_true rfl) ⟨Nat.le_of_ble_eq_true rfl, Nat.le_of_ble_eq_true rfl⟩ ⟨Nat.le_of_ble_eq_true rfl, Nat.le_of_ble_eq_true rfl⟩
          · refine rv_aload_n (q := 75) E.1.x dX11_put_74 rfl rfl ?_
            refine rC_getX11 (q := 78) E.1 0 0 wfX11_10 rfl (Nat.le_of_ble_eq_true rfl) ⟨rfl, rfl⟩ rfl dX11_put_75 rfl ?_
            refine rv_iload_n (q := 79) E.1.x dX11_put_78 rfl rfl ?_
            refine rv_iload_n (q := 80) E.1.x dX11_put_79 rfl rfl ?_
            refine rv_iload_n (q := 81) E.1.x dX11_put_80 rfl rfl ?_
            refine rv_b1 (fun M8 e7 => ?_)
            refine rC_callvX9 (q := 84) E.1 ⟨rfl, rfl⟩ (c9_insertOnDesk E.1.2.2.1 e7) gX11_126 hX9_insertOnDesk ⟨rfl, rfl⟩ ⟨Nat.le_of_ble_eq_true rfl, Nat.le_of_ble_eq_true rfl⟩ ⟨Nat.le_of_ble_eq_true rfl, Nat.le_of_ble_eq_true rfl⟩ rfl rfl rfl (Nat.le_of_ble_eq_true rfl) dX11_put_81 rfl ?_
            refine rv_iload (q := 86) E.1.x dX11_put_84 rfl rfl ?_
            refine rv_iconst (q := 87) E.1.x dX11_put_86 rv_ki1 rfl ?_
            refine rv_iadd (q := 88) E.1.x dX11_put_87 rfl ?_
            exact rv_tr (fun _ => trivial)
      · exact rC_throw (x := 2) E rfl (by decide +kernel) rC_xk2 rC_xi2 rC_xg2 rC_xn2 rC_xo2 E.2.2.2.2.2.2.2.1 (is := 118) (text := "no such line") (by decide +kernel) rfl rfl dX11_put_47 dX11_put_50 dX11_put_51 dX11_put_53 dX11_put_56 (Nat.le_of_ble_eq_true rfl) (Nat.le_of_ble_eq_true rfl) ⟨Nat.le_of_ble_eq_true rfl, Nat.le_of_ble_eq_true rfl⟩ ⟨Nat.le_of_ble_eq_true rfl, Nat.le_of_ble_eq_true rfl⟩
  · exact rC_throw (x := 1) E rfl (by decide +kernel) rC_xk1 rC_xi1 rC_xg1 rC_xn1 rC_xo1 E.2.2.2.2.2.2.1 (is := 111) (text := "no such place") (by decide +kernel) rfl rfl dX11_put_26 dX11_put_29 dX11_put_30 dX11_put_32 dX11_put_35 (Nat.le_of_ble_eq_true rfl) (Nat.le_of_ble_eq_true rfl) ⟨Nat.le_of_ble_eq_true rfl, Nat.le_of_ble_eq_true rfl⟩ ⟨Nat.le_of_ble_eq_true rfl, Nat.le_of_ble_eq_true rfl⟩
theorem c11_put_x {l : Launch} {D : va_G} {cI cZ cO : ClassId} {ad : Nat → Nat} {gh : rC_gh} {de : Nat} (hfl : l.stackTraces = false) (hI : rC_I ad gh) {sz : Nat} {M : rv_Mem} {a1 : Int32} {a2 : Int32} {a3 : Int32} {x : Nat} {M1 : rv_Mem} (h : f11_put gh M a1 a2 a3 = some (.inr (x, M1))) : vx_Met l yX11_put (rv_ws yX11_put cX11_put 5 (some .int)) rmx11_put (rC_Px D cI cZ cO ad gh de sz [.ref (ad 0), .int a1, .int a2, .int a3] M) (rC_fi (rC_A ad gh sz)) (rC_xc D cI cZ cO ad gh de (rC_A ad gh sz) x M1) 1 6 (rC_A ad gh sz) := rC_xmet (Qc := fun A => rC_fi A) (XC := fun A => rC_xc D cI cZ cO ad gh de A x M1) hfl hI rfl (by decide) (Nat.le_of_ble_eq_true rfl) (fun p e s m args below meth c E => ⟨(qy11_put D cI cZ cO ad gh de below args s), rfl, bx11_put E M a1 a2 a3⟩) h
abbrev rm11_cut : Room := { frames := 7, cells := 0, slots := 0, locals := 120 }
def qx11_cut (D : va_G) (cI cZ cO : ClassId) (ad : Nat → Nat) (gh : rC_gh) (de : Nat) (below : List Frame) (args : Array Value) (s : State) : (Int32 × rv_Mem) ⊕ (Nat × rv_Mem) → State → Prop := fun r => match r with
  | .inl r => vx_MQ below (rC_qi D cI cZ cO ad gh de (rC_A ad gh s.heap.size) r.1 r.2) (rC_fx (rC_A ad gh s.heap.size)) args s 0 0 (rC_A ad gh s.heap.size)
  | .inr _ => fun _ => True
set_option maxRecDepth 100000 in
theorem b11_cut {p : Program} {l : Launch} {e : Env} {s : State} {m : MethodId} {args : Array Value} {below : List Frame} {meth : Method} {c : Code} {D : va_G} {cI cZ cO : ClassId} {ad : Nat → Nat} {gh : rC_gh} {de : Nat} (E : rC_X D cI cZ cO ad gh RX11 cX11_cut 4 (some .int) p l s m args meth c) (M : rv_Mem) (a1 : Int32) (a2 : Int32) : rv_M (rC_G D cI cZ cO ad gh de) (rC_A ad gh s.heap.size) p l e rm11_cut s m args below meth c 0 0 (qx11_cut D cI cZ cO ad gh de below args s) (f11_cut gh M a1 a2) 0 [some (.ref (ad 0)), some (.int a1), some (.int a2), none] [] M := by
  unfold f11_cut
  refine rv_iload_n (q := 1) E.1.x dX11_cut_0 rfl rfl ?_
  refine rv_x2r (fun r2 e1 => ?_) (fun w3 e4 => rv_tr (fun _ => trivial))
  refine rC_xSv (q := 4) E (fun _ => c11_needFile E.2.1 E.1.2.2.1 e1) gX11_102 hX11_needFile ⟨rfl, rfl⟩ ⟨Nat.le_of_ble_eq_true rfl, Nat.le_of_ble_eq_true rfl⟩ ⟨Nat.le_of_ble_eq_true rfl, Nat.le_of_ble_eq_true rfl⟩ rfl rfl rfl (Nat.le_of_ble_eq_true rfl) dX11_cut_1 rfl ?_
  refine rv_iload_n (q := 5) E.1.x dX11_cut_4 rfl rfl ?_
  refine rv_if_lt (q := 8) (tgt := 22) E.1.x dX11_cut_5 (by decide) rfl ?_ ?_
  · refine rv_iload_n (q := 9) E.1.x dX11_cut_8 rfl rfl ?_
    refine rv_aload_n (q := 10) E.1.x dX11_cut_9 rfl rfl ?_
    refine rC_getX11 (q := 13) E.1 0 0 wfX11_10 rfl (Nat.le_of_ble_eq_true rfl) ⟨rfl, rfl⟩ rfl dX11_cut_10 rfl ?_
    refine rv_bipush (q := 15) E.1.x dX11_cut_13 rv_kb80 rfl ?_
    refine rv_iload_n (q := 16) E.1.x dX11_cut_15 rfl rfl ?_
    refine rv_b1 (fun r6 e5 => ?_)
    refine rC_calliX9 (q := 19) E.1 ⟨rfl, rfl⟩ (c9_sizeOf E.1.2.2.1 e5) gX11_105 hX9_sizeOf ⟨rfl, rfl⟩ ⟨Nat.le_of_ble_eq_true rfl, Nat.le_of_ble_eq_true rfl⟩ ⟨Nat.le_of_ble_eq_true rfl, Nat.le_of_ble_eq_true rfl⟩ rfl rfl rfl (Nat.le_of_ble_eq_true rfl) dX11_cut_16 rfl ?_
    refine rv_icmp_lt (q := 22) (tgt := 32) E.1.x dX11_cut_19 (by decide) rfl ?_ ?_
    · exact rv_tr (fun _ => trivial)
    · refine rv_aload_n (q := 33) E.1.x dX11_cut_32 rfl rfl ?_
      refine rC_getX11 (q := 36) E.1 0 0 wfX11_10 rfl (Nat.le_of_ble_eq_true rfl) ⟨rfl, rfl⟩ rfl dX11_cut_33 rfl ?_
      refine rv_bipush (q := 38) E.1.x dX11_cut_36 rv_kb80 rfl ?_
      refine rv_iload_n (q := 39) E.1.x dX11_cut_38 rfl rfl ?_
      refine rv_iload_n (q := 40) E.1.x dX11_cut_39 rfl rfl ?_
      refine rv_b1 (fun r8 e7 => ?_)
      refine rC_calliX9 (q := 43) E.1 ⟨rfl, rfl⟩ (c9_lineAt E.1.2.2.1 e7) gX11_130 hX9_lineAt ⟨rfl, rfl⟩ ⟨Nat.le_of_ble_eq_true rfl, Nat.le_of_ble_eq_true rfl⟩ ⟨Nat.le_of_ble_eq_true rfl, Nat.le_of_ble_eq_true rfl⟩ rfl rfl rfl (Nat.le_of_ble_eq_true rfl) dX11_cut_40 rfl ?_
      refine rv_istore_n (q := 44) (lv' := [_, _, _, _]) E.1.x dX11_cut_43 (Nat.le_of_ble_eq_true rfl) rfl rfl rfl ?_
      refine rv_aload_n (q := 45) E.1.x dX11_cut_44 rfl rfl ?_
      refine rC_getX11 (q := 48) E.1 0 0 wfX11_10 rfl (Nat.le_of_ble_eq_true rfl) ⟨rfl, rfl⟩ rfl dX11_cut_45 rfl ?_
      refine rv_iload_n (q := 49) E.1.x dX11_cut_48 rfl rfl ?_
      refine rv_iload_n (q := 50) E.1.x dX11_cut_49 rfl rfl ?_
      refine rv_b1 (fun M10 e9 => ?_)
      refine rC_callvX9 (q := 53) E.1 ⟨rfl, rfl⟩ (c9_removeFromDesk E.1.2.2.1 e9) gX11_134 hX9_removeFromDesk ⟨rfl, rfl⟩ ⟨Nat.le_of_ble_eq_true rfl, Nat.le_of_ble_eq_true rfl⟩ ⟨Nat.le_of_ble_eq_true rfl, Nat.le_of_ble_eq_true rfl⟩ rfl rfl rfl (Nat.le_of_ble_eq_true rfl) dX11_cut_50 rfl ?_
      refine rv_iload_n (q := 54) E.1.x dX11_cut_53 rfl rfl ?_
      exact rC_xiret E rfl ⟨Nat.le_of_ble_eq_true rfl, Nat.le_of_ble_eq_true rfl⟩ dX11_cut_54
  · exact rv_tr (fun _ => trivial)
theorem c11_cut {l : Launch} {D : va_G} {cI cZ cO : ClassId} {ad : Nat → Nat} {gh : rC_gh} {de : Nat} (hfl : l.stackTraces = false) (hI : rC_I ad gh) {sz : Nat} {M : rv_Mem} {a1 : Int32} {a2 : Int32} {r : Int32} {M1 : rv_Mem} (h : f11_cut gh M a1 a2 = some (.inl (r, M1))) : vx_Met l yX11_cut (rv_ws yX11_cut cX11_cut 4 (some .int)) rm11_cut (rC_Px D cI cZ cO ad gh de sz [.ref (ad 0), .int a1, .int a2] M) (rC_qi D cI cZ cO ad gh de (rC_A ad gh sz) r M1) (rC_fx (rC_A ad gh sz)) 0 0 (rC_A ad gh sz) := rC_xmet (Qc := fun A => rC_qi D cI cZ cO ad gh de A r M1) (XC := fun A => rC_fx A) hfl hI rfl (by decide) (Nat.le_of_ble_eq_true rfl) (fun p e s m args below meth c E => ⟨(qx11_cut D cI cZ cO ad gh de below args s), rfl, b11_cut E M a1 a2⟩) h
