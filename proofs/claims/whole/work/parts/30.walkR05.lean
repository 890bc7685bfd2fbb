abbrev rm12_areApart : Room := { frames := 0, cells := 0, slots := 0, locals := 0 }
set_option maxRecDepth 100000 in
theorem b12_areApart_69 {p : Program} {l : Launch} {e : Env} {s : State} {m : MethodId} {args : Array Value} {below : List Frame} {meth : Method} {c : Code} {D : va_G} {cI cZ : ClassId} {ad : Nat → Nat} (E : rR_E D cI cZ ad cX12_areApart 4 (some .boolean) p s m args meth c) (M : rv_Mem)   : rv_M (rR_G D cI cZ ad) (rR_A ad) p l e rm12_areApart s m args below meth c 0 0 (rR_qZ D cI cZ ad below args s M) (f12_areApart_69 M) 69 [some (.ref (ad 67)), none, none, none] [] M := by
  unfold f12_areApart_69
  refine rv_iconst (q := 70) E.x dX12_areApart_69 rv_ki1 rfl ?_
  refine rv_goto (q := 74) E.x dX12_areApart_70 (by decide) ?_
  exact rR_zret E true rfl dX12_areApart_74
set_option maxRecDepth 100000 in
theorem b12_areApart_49 {p : Program} {l : Launch} {e : Env} {s : State} {m : MethodId} {args : Array Value} {below : List Frame} {meth : Method} {c : Code} {D : va_G} {cI cZ : ClassId} {ad : Nat → Nat} (E : rR_E D cI cZ ad cX12_areApart 4 (some .boolean) p s m args meth c) (M : rv_Mem)   : ∀ (x1 : Int32) (x2 : Int32) (s0 : Bool), rv_M (rR_G D cI cZ ad) (rR_A ad) p l e rm12_areApart s m args below meth c 0 0 (rR_qZ D cI cZ ad below args s M) (f12_areApart_49 M x1 x2 s0) 49 [some (.ref (ad 67)), some (.int x1), some (.int x2), none] [.int (rv_i s0)] M := by
  intro x1 x2 s0
  unfold f12_areApart_49
  refine rv_istore_n (q := 50) (lv' := [_, _, _, _]) E.x dX12_areApart_49 (Nat.le_of_ble_eq_true rfl) rfl rfl rfl ?_
  refine rv_aload_n (q := 51) E.x dX12_areApart_50 rfl rfl ?_
  refine rR_get (q := 54) E 37 wf12_37 rfl (Nat.le_of_ble_eq_true rfl) rfl dX12_areApart_51 rfl ?_
  refine rv_iload_n (q := 55) E.x dX12_areApart_54 rfl rfl ?_
  refine rR_iald (q := 56) (n := 40) E (Nat.le_of_ble_eq_true rfl) rfl rfl dX12_areApart_55 rfl ?_
  refine rv_aload_n (q := 57) E.x dX12_areApart_56 rfl rfl ?_
  refine rR_get (q := 60) E 37 wf12_37 rfl (Nat.le_of_ble_eq_true rfl) rfl dX12_areApart_57 rfl ?_
  refine rv_iload_n (q := 61) E.x dX12_areApart_60 rfl rfl ?_
  refine rR_iald (q := 62) (n := 40) E (Nat.le_of_ble_eq_true rfl) rfl rfl dX12_areApart_61 rfl ?_
  refine rv_icmp_ne (q := 65) (tgt := 69) E.x dX12_areApart_62 (by decide) rfl ?_ ?_
  · refine rv_iload_n (q := 66) E.x dX12_areApart_65 rfl rfl ?_
    refine rv_ifz_ne (q := 69) (tgt := 73) E.x dX12_areApart_66 (by decide) rfl ?_ ?_
    · refine rv_wk [true, false, false, false] ?_
      exact b12_areApart_69 E M
    · refine rv_iconst (q := 74) E.x dX12_areApart_73 rv_ki0 rfl ?_
      exact rR_zret E false rfl dX12_areApart_74
  · refine rv_wk [true, false, false, false] ?_
    exact b12_areApart_69 E M
set_option maxRecDepth 100000 in
theorem b12_areApart_48 {p : Program} {l : Launch} {e : Env} {s : State} {m : MethodId} {args : Array Value} {below : List Frame} {meth : Method} {c : Code} {D : va_G} {cI cZ : ClassId} {ad : Nat → Nat} (E : rR_E D cI cZ ad cX12_areApart 4 (some .boolean) p s m args meth c) (M : rv_Mem)   : ∀ (x1 : Int32) (x2 : Int32), rv_M (rR_G D cI cZ ad) (rR_A ad) p l e rm12_areApart s m args below meth c 0 0 (rR_qZ D cI cZ ad below args s M) (f12_areApart_48 M x1 x2) 48 [some (.ref (ad 67)), some (.int x1), some (.int x2), none] [] M := by
  intro x1 x2
  unfold f12_areApart_48
  refine rv_iconst (q := 49) E.x dX12_areApart_48 rv_ki0 rfl ?_
  refine rv_wk [true, true, true, false] ?_
  exact b12_areApart_49 E M x1 x2 false
set_option maxRecDepth 100000 in
theorem b12_areApart {p : Program} {l : Launch} {e : Env} {s : State} {m : MethodId} {args : Array Value} {below : List Frame} {meth : Method} {c : Code} {D : va_G} {cI cZ : ClassId} {ad : Nat → Nat} (E : rR_E D cI cZ ad cX12_areApart 4 (some .boolean) p s m args meth c) (M : rv_Mem) (a1 : Int32) (a2 : Int32) : rv_M (rR_G D cI cZ ad) (rR_A ad) p l e rm12_areApart s m args below meth c 0 0  (rR_qZ D cI cZ ad below args s M) (f12_areApart M a1 a2) 0 [some (.ref (ad 67)), some (.int a1), some (.int a2), none] [] M := by
  unfold f12_areApart
  refine rv_aload_n (q := 1) E.x dX12_areApart_0 rfl rfl ?_
  refine rR_get (q := 4) E 38 wf12_38 rfl (Nat.le_of_ble_eq_true rfl) rfl dX12_areApart_1 rfl ?_
  refine rv_iload_n (q := 5) E.x dX12_areApart_4 rfl rfl ?_
  refine rR_iald (q := 6) (n := 40) E (Nat.le_of_ble_eq_true rfl) rfl rfl dX12_areApart_5 rfl ?_
  refine rv_aload_n (q := 7) E.x dX12_areApart_6 rfl rfl ?_
  refine rR_get (q := 10) E 38 wf12_38 rfl (Nat.le_of_ble_eq_true rfl) rfl dX12_areApart_7 rfl ?_
  refine rv_iload_n (q := 11) E.x dX12_areApart_10 rfl rfl ?_
  refine rR_iald (q := 12) (n := 40) E (Nat.le_of_ble_eq_true rfl) rfl rfl dX12_areApart_11 rfl ?_
  refine rv_aload_n (q := 13) E.x dX12_areApart_12 rfl rfl ?_
  refine rR_get (q := 16) E 39 wf12_39 rfl (Nat.le_of_ble_eq_true rfl) rfl dX12_areApart_13 rfl ?_
  refine rv_iload_n (q := 17) E.x dX12_areApart_16 rfl rfl ?_
  refine rR_iald (q := 18) (n := 40) E (Nat.le_of_ble_eq_true rfl) rfl rfl dX12_areApart_17 rfl ?_
  refine rv_iadd (q := 19) E.x dX12_areApart_18 rfl ?_
  refine rv_icmp_gt (q := 22) (tgt := 48) E.x dX12_areApart_19 (by decide) rfl ?_ ?_
  · refine rv_aload_n (q := 23) E.x dX12_areApart_22 rfl rfl ?_
    refine rR_get (q := 26) E 38 wf12_38 rfl (Nat.le_of_ble_eq_true rfl) rfl dX12_areApart_23 rfl ?_
    refine rv_iload_n (q := 27) E.x dX12_areApart_26 rfl rfl ?_
    refine rR_iald (q := 28) (n := 40) E (Nat.le_of_ble_eq_true rfl) rfl rfl dX12_areApart_27 rfl ?_
    refine rv_aload_n (q := 29) E.x dX12_areApart_28 rfl rfl ?_
    refine rR_get (q := 32) E 38 wf12_38 rfl (Nat.le_of_ble_eq_true rfl) rfl dX12_areApart_29 rfl ?_
    refine rv_iload_n (q := 33) E.x dX12_areApart_32 rfl rfl ?_
    refine rR_iald (q := 34) (n := 40) E (Nat.le_of_ble_eq_true rfl) rfl rfl dX12_areApart_33 rfl ?_
    refine rv_aload_n (q := 35) E.x dX12_areApart_34 rfl rfl ?_
    refine rR_get (q := 38) E 39 wf12_39 rfl (Nat.le_of_ble_eq_true rfl) rfl dX12_areApart_35 rfl ?_
    refine rv_iload_n (q := 39) E.x dX12_areApart_38 rfl rfl ?_
    refine rR_iald (q := 40) (n := 40) E (Nat.le_of_ble_eq_true rfl) rfl rfl dX12_areApart_39 rfl ?_
    refine rv_iadd (q := 41) E.x dX12_areApart_40 rfl ?_
    refine rv_icmp_gt (q := 44) (tgt := 48) E.x dX12_areApart_41 (by decide) rfl ?_ ?_
    · refine rv_iconst (q := 45) E.x dX12_areApart_44 rv_ki1 rfl ?_
      refine rv_goto (q := 49) E.x dX12_areApart_45 (by decide) ?_
      refine rv_wk [true, true, true, false] ?_
      exact b12_areApart_49 E M a1 a2 true
    · refine rv_wk [true, true, true, false] ?_
      exact b12_areApart_48 E M a1 a2
  · refine rv_wk [true, true, true, false] ?_
    exact b12_areApart_48 E M a1 a2
theorem c12_areApart {l : Launch} {D : va_G} {cI cZ : ClassId} {ad : Nat → Nat} (hI : rR_I ad) {M : rv_Mem} {a1 : Int32} {a2 : Int32} {r : Bool} (h : f12_areApart M a1 a2 = some r) : Met l yX12_areApart (rv_ws yX12_areApart cX12_areApart 4 (some .boolean)) rm12_areApart (rR_Pc D cI cZ ad [.ref (ad 67), .int a1, .int a2] M) (rR_QI D cI cZ ad (rv_i r) M) 0 0 (rR_A ad) := rR_met hI rfl (rv_cat rfl) (Nat.le_of_ble_eq_true rfl) (fun p e s m args below meth c E => ⟨(rR_qZ D cI cZ ad below args s M), rfl, b12_areApart E M a1 a2⟩) h
abbrev rm12_areAllApart : Room := { frames := 1, cells := 0, slots := 0, locals := 26 }
set_option maxRecDepth 100000 in
theorem b12_areAllApart_72 {p : Program} {l : Launch} {e : Env} {s : State} {m : MethodId} {args : Array Value} {below : List Frame} {meth : Method} {c : Code} {D : va_G} {cI cZ : ClassId} {ad : Nat → Nat} (E : rR_E D cI cZ ad cX12_areAllApart 6 (some .boolean) p s m args meth c) (M : rv_Mem) (k5 : Int32 → Int32 → Bool → Int32 → Option (Bool)) (k15 : Int32 → Int32 → Bool → Int32 → Int32 → Option (Bool)) (h5 : ∀ (x1 : Int32) (x2 : Int32) (x3 : Bool) (x4 : Int32), rv_M (rR_G D cI cZ ad) (rR_A ad) p l e rm12_areAllApart s m args below meth c 0 0 (rR_qZ D cI cZ ad below args s M) (k5 x1 x2 x3 x4) 5 [some (.ref (ad 67)), some (.int x1), some (.int x2), some (.int (rv_i x3)), some (.int x4), none] [] M) (h15 : ∀ (x1 : Int32) (x2 : Int32) (x3 : Bool) (x4 : Int32) (x5 : Int32), rv_M (rR_G D cI cZ ad) (rR_A ad) p l e rm12_areAllApart s m args below meth c 0 0 (rR_qZ D cI cZ ad below args s M) (k15 x1 x2 x3 x4 x5) 15 [some (.ref (ad 67)), some (.int x1), some (.int x2), some (.int (rv_i x3)), some (.int x4), some (.int x5)] [] M) : ∀ (x1 : Int32) (x2 : Int32) (x4 : Int32) (x5 : Int32) (s0 : Bool), rv_M (rR_G D cI cZ ad) (rR_A ad) p l e rm12_areAllApart s m args below meth c 0 0 (rR_qZ D cI cZ ad below args s M) (f12_areAllApart_72 M k5 k15 x1 x2 x4 x5 s0) 72 [some (.ref (ad 67)), some (.int x1), some (.int x2), none, some (.int x4), some (.int x5)] [.int (rv_i s0)] M := by
  intro x1 x2 x4 x5 s0
  unfold f12_areAllApart_72
  refine rv_istore_n (q := 73) (lv' := [_, _, _, _, _, _]) E.x dX12_areAllApart_72 (Nat.le_of_ble_eq_true rfl) rfl rfl rfl ?_
  refine rv_iinc (q := 76) (lv' := [_, _, _, _, _, _]) E.x dX12_areAllApart_73 rv_ki1 rfl rfl rfl rfl ?_
  refine rv_goto (q := 15) E.x dX12_areAllApart_76 (by decide) ?_
  refine rv_wk [true, true, true, true, true, true] ?_
  exact h15 x1 x2 s0 x4 (x5 + 1)
set_option maxRecDepth 100000 in
theorem b12_areAllApart_67 {p : Program} {l : Launch} {e : Env} {s : State} {m : MethodId} {args : Array Value} {below : List Frame} {meth : Method} {c : Code} {D : va_G} {cI cZ : ClassId} {ad : Nat → Nat} (E : rR_E D cI cZ ad cX12_areAllApart 6 (some .boolean) p s m args meth c) (M : rv_Mem) (k5 : Int32 → Int32 → Bool → Int32 → Option (Bool)) (k15 : Int32 → Int32 → Bool → Int32 → Int32 → Option (Bool)) (h5 : ∀ (x1 : Int32) (x2 : Int32) (x3 : Bool) (x4 : Int32), rv_M (rR_G D cI cZ ad) (rR_A ad) p l e rm12_areAllApart s m args below meth c 0 0 (rR_qZ D cI cZ ad below args s M) (k5 x1 x2 x3 x4) 5 [some (.ref (ad 67)), some (.int x1), some (.int x2), some (.int (rv_i x3)), some (.int x4), none] [] M) (h15 : ∀ (x1 : Int32) (x2 : Int32) (x3 : Bool) (x4 : Int32) (x5 : Int32), rv_M (rR_G D cI cZ ad) (rR_A ad) p l e rm12_areAllApart s m args below meth c 0 0 (rR_qZ D cI cZ ad below args s M) (k15 x1 x2 x3 x4 x5) 15 [some (.ref (ad 67)), some (.int x1), some (.int x2), some (.int (rv_i x3)), some (.int x4), some (.int x5)] [] M) : ∀ (x1 : Int32) (x2 : Int32) (x4 : Int32) (x5 : Int32), rv_M (rR_G D cI cZ ad) (rR_A ad) p l e rm12_areAllApart s m args below meth c 0 0 (rR_qZ D cI cZ ad below args s M) (f12_areAllApart_67 M k5 k15 x1 x2 x4 x5) 67 [some (.ref (ad 67)), some (.int x1), some (.int x2), none, some (.int x4), some (.int x5)] [] M := by
  intro x1 x2 x4 x5
  unfold f12_areAllApart_67
  refine rv_iconst (q := 68) E.x dX12_areAllApart_67 rv_ki1 rfl ?_
  refine rv_goto (q := 72) E.x dX12_areAllApart_68 (by decide) ?_
  refine rv_wk [true, true, true, false, true, true] ?_
  exact b12_areAllApart_72 E M k5 k15 h5 h15 x1 x2 x4 x5 true
set_option maxRecDepth 100000 in
theorem b12_areAllApart_71 {p : Program} {l : Launch} {e : Env} {s : State} {m : MethodId} {args : Array Value} {below : List Frame} {meth : Method} {c : Code} {D : va_G} {cI cZ : ClassId} {ad : Nat → Nat} (E : rR_E D cI cZ ad cX12_areAllApart 6 (some .boolean) p s m args meth c) (M : rv_Mem) (k5 : Int32 → Int32 → Bool → Int32 → Option (Bool)) (k15 : Int32 → Int32 → Bool → Int32 → Int32 → Option (Bool)) (h5 : ∀ (x1 : Int32) (x2 : Int32) (x3 : Bool) (x4 : Int32), rv_M (rR_G D cI cZ ad) (rR_A ad) p l e rm12_areAllApart s m args below meth c 0 0 (rR_qZ D cI cZ ad below args s M) (k5 x1 x2 x3 x4) 5 [some (.ref (ad 67)), some (.int x1), some (.int x2), some (.int (rv_i x3)), some (.int x4), none] [] M) (h15 : ∀ (x1 : Int32) (x2 : Int32) (x3 : Bool) (x4 : Int32) (x5 : Int32), rv_M (rR_G D cI cZ ad) (rR_A ad) p l e rm12_areAllApart s m args below meth c 0 0 (rR_qZ D cI cZ ad below args s M) (k15 x1 x2 x3 x4 x5) 15 [some (.ref (ad 67)), some (.int x1), some (.int x2), some (.int (rv_i x3)), some (.int x4), some (.int x5)] [] M) : ∀ (x1 : Int32) (x2 : Int32) (x4 : Int32) (x5 : Int32), rv_M (rR_G D cI cZ ad) (rR_A ad) p l e rm12_areAllApart s m args below meth c 0 0 (rR_qZ D cI cZ ad below args s M) (f12_areAllApart_71 M k5 k15 x1 x2 x4 x5) 71 [some (.ref (ad 67)), some (.int x1), some (.int x2), none, some (.int x4), some (.int x5)] [] M := by
  intro x1 x2 x4 x5
  unfold f12_areAllApart_71
  refine rv_iconst (q := 72) E.x dX12_areAllApart_71 rv_ki0 rfl ?_
  refine rv_wk [true, true, true, false, true, true] ?_
  exact b12_areAllApart_72 E M k5 k15 h5 h15 x1 x2 x4 x5 false
set_option maxRecDepth 100000 in
theorem b12_areAllApart_15_s {p : Program} {l : Launch} {e : Env} {s : State} {m : MethodId} {args : Array Value} {below : List Frame} {meth : Method} {c : Code} {D : va_G} {cI cZ : ClassId} {ad : Nat → Nat} (E : rR_E D cI cZ ad cX12_areAllApart 6 (some .boolean) p s m args meth c) (M : rv_Mem) (k5 : Int32 → Int32 → Bool → Int32 → Option (Bool)) (h5 : ∀ (x1 : Int32) (x2 : Int32) (x3 : Bool) (x4 : Int32), rv_M (rR_G D cI cZ ad) (rR_A ad) p l e rm12_areAllApart s m args below meth c 0 0 (rR_qZ D cI cZ ad below args s M) (k5 x1 x2 x3 x4) 5 [some (.ref (ad 67)), some (.int x1), some (.int x2), some (.int (rv_i x3)), some (.int x4), none] [] M) (k15 : Int32 → Int32 → Bool → Int32 → Int32 → Option (Bool)) (h15 : ∀ (x1 : Int32) (x2 : Int32) (x3 : Bool) (x4 : Int32) (x5 : Int32), rv_M (rR_G D cI cZ ad) (rR_A ad) p l e rm12_areAllApart s m args below meth c 0 0 (rR_qZ D cI cZ ad below args s M) (k15 x1 x2 x3 x4 x5) 15 [some (.ref (ad 67)), some (.int x1), some (.int x2), some (.int (rv_i x3)), some (.int x4), some (.int x5)] [] M) : ∀ (x1 : Int32) (x2 : Int32) (x3 : Bool) (x4 : Int32) (x5 : Int32), rv_M (rR_G D cI cZ ad) (rR_A ad) p l e rm12_areAllApart s m args below meth c 0 0 (rR_qZ D cI cZ ad below args s M) (f12_areAllApart_15_s M k5 k15 x1 x2 x3 x4 x5) 15 [some (.ref (ad 67)), some (.int x1), some (.int x2), some (.int (rv_i x3)), some (.int x4), some (.int x5)] [] M := by
  intro x1 x2 x3 x4 x5
  unfold f12_areAllApart_15_s
  refine rv_iload (q := 17) E.x dX12_areAllApart_15 rfl rfl ?_
  refine rv_iload (q := 19) E.x dX12_areAllApart_17 rfl rfl ?_
  refine rv_icmp_ge (q := 22) (tgt := 79) E.x dX12_areAllApart_19 (by decide) rfl ?_ ?_
  · refine rv_iload_n (q := 23) E.x dX12_areAllApart_22 rfl rfl ?_
    refine rv_ifz_eq (q := 26) (tgt := 71) E.x dX12_areAllApart_23 (by decide) rfl ?_ ?_
    · refine rv_aload_n (q := 27) E.x dX12_areAllApart_26 rfl rfl ?_
      refine rv_iload_n (q := 28) E.x dX12_areAllApart_27 rfl rfl ?_
      refine rv_iload (q := 30) E.x dX12_areAllApart_28 rfl rfl ?_
      refine rv_b1 (fun r2 e1 => ?_)
      refine rR_calli (q := 33) E (c12_isTaken E.2.2.1 e1) gX12_isTaken hX12_isTaken ⟨rfl, rfl⟩ ⟨Nat.le_of_ble_eq_true rfl, Nat.le_of_ble_eq_true rfl⟩ rfl rfl rfl (Nat.le_of_ble_eq_true rfl) dX12_areAllApart_30 rfl ?_
      refine rv_ifz_eq (q := 36) (tgt := 67) E.x dX12_areAllApart_33 (by decide) rfl ?_ ?_
      · refine rv_aload_n (q := 37) E.x dX12_areAllApart_36 rfl rfl ?_
        refine rv_iload_n (q := 38) E.x dX12_areAllApart_37 rfl rfl ?_
        refine rv_iload (q := 40) E.x dX12_areAllApart_38 rfl rfl ?_
        refine rv_b1 (fun r4 e3 => ?_)
        refine rR_calli (q := 43) E (c12_isTaken E.2.2.1 e3) gX12_isTaken hX12_isTaken ⟨rfl, rfl⟩ ⟨Nat.le_of_ble_eq_true rfl, Nat.le_of_ble_eq_true rfl⟩ rfl rfl rfl (Nat.le_of_ble_eq_true rfl) dX12_areAllApart_40 rfl ?_
        refine rv_ifz_eq (q := 46) (tgt := 67) E.x dX12_areAllApart_43 (by decide) rfl ?_ ?_
        · refine rv_aload_n (q := 47) E.x dX12_areAllApart_46 rfl rfl ?_
          refine rv_aload_n (q := 48) E.x dX12_areAllApart_47 rfl rfl ?_
          refine rv_iload_n (q := 49) E.x dX12_areAllApart_48 rfl rfl ?_
          refine rv_iload (q := 51) E.x dX12_areAllApart_49 rfl rfl ?_
          refine rv_b1 (fun r6 e5 => ?_)
          refine rR_calli (q := 54) E (c12_findingAt E.2.2.1 e5) gX12_findingAt hX12_findingAt ⟨rfl, rfl⟩ ⟨Nat.le_of_ble_eq_true rfl, Nat.le_of_ble_eq_true rfl⟩ rfl rfl rfl (Nat.le_of_ble_eq_true rfl) dX12_areAllApart_51 rfl ?_
          refine rv_aload_n (q := 55) E.x dX12_areAllApart_54 rfl rfl ?_
          refine rv_iload_n (q := 56) E.x dX12_areAllApart_55 rfl rfl ?_
          refine rv_iload (q := 58) E.x dX12_areAllApart_56 rfl rfl ?_
          refine rv_b1 (fun r8 e7 => ?_)
          refine rR_calli (q := 61) E (c12_findingAt E.2.2.1 e7) gX12_findingAt hX12_findingAt ⟨rfl, rfl⟩ ⟨Nat.le_of_ble_eq_true rfl, Nat.le_of_ble_eq_true rfl⟩ rfl rfl rfl (Nat.le_of_ble_eq_true rfl) dX12_areAllApart_58 rfl ?_
          refine rv_b1 (fun r10 e9 => ?_)
          refine rR_calli (q := 64) E (c12_areApart E.2.2.1 e9) gX12_areApart hX12_areApart ⟨rfl, rfl⟩ ⟨Nat.le_of_ble_eq_true rfl, Nat.le_of_ble_eq_true rfl⟩ rfl rfl rfl (Nat.le_of_ble_eq_true rfl) dX12_areAllApart_61 rfl ?_
          refine rv_ifz_eq (q := 67) (tgt := 71) E.x dX12_areAllApart_64 (by decide) rfl ?_ ?_
          · refine rv_wk [true, true, true, false, true, true] ?_
            exact b12_areAllApart_67 E M k5 k15 h5 h15 x1 x2 x4 x5
          · refine rv_wk [true, true, true, false, true, true] ?_
            exact b12_areAllApart_71 E M k5 k15 h5 h15 x1 x2 x4 x5
        · refine rv_wk [true, true, true, false, true, true] ?_
          exact b12_areAllApart_67 E M k5 k15 h5 h15 x1 x2 x4 x5
      · refine rv_wk [true, true, true, false, true, true] ?_
        exact b12_areAllApart_67 E M k5 k15 h5 h15 x1 x2 x4 x5
    · refine rv_wk [true, true, true, false, true, true] ?_
      exact b12_areAllApart_71 E M k5 k15 h5 h15 x1 x2 x4 x5
  · refine rv_iinc (q := 82) (lv' := [_, _, _, _, _, _]) E.x dX12_areAllApart_79 rv_ki1 rfl rfl rfl rfl ?_
    refine rv_goto (q := 5) E.x dX12_areAllApart_82 (by decide) ?_
    refine rv_wk [true, true, true, true, true, false] ?_
    exact h5 x1 x2 x3 (x4 + 1)
theorem b12_areAllApart_15 {p : Program} {l : Launch} {e : Env} {s : State} {m : MethodId} {args : Array Value} {below : List Frame} {meth : Method} {c : Code} {D : va_G} {cI cZ : ClassId} {ad : Nat → Nat} (E : rR_E D cI cZ ad cX12_areAllApart 6 (some .boolean) p s m args meth c) (M : rv_Mem) (k5 : Int32 → Int32 → Bool → Int32 → Option (Bool)) (h5 : ∀ (x1 : Int32) (x2 : Int32) (x3 : Bool) (x4 : Int32), rv_M (rR_G D cI cZ ad) (rR_A ad) p l e rm12_areAllApart s m args below meth c 0 0 (rR_qZ D cI cZ ad below args s M) (k5 x1 x2 x3 x4) 5 [some (.ref (ad 67)), some (.int x1), some (.int x2), some (.int (rv_i x3)), some (.int x4), none] [] M) : ∀ (n : Nat), ∀ (x1 : Int32) (x2 : Int32) (x3 : Bool) (x4 : Int32) (x5 : Int32), rv_M (rR_G D cI cZ ad) (rR_A ad) p l e rm12_areAllApart s m args below meth c 0 0 (rR_qZ D cI cZ ad below args s M) (f12_areAllApart_15 M k5 n x1 x2 x3 x4 x5) 15 [some (.ref (ad 67)), some (.int x1), some (.int x2), some (.int (rv_i x3)), some (.int x4), some (.int x5)] [] M := by
  intro n
  induction n with
  | zero => exact fun _ _ _ _ _ => rv_stuck
  | succ n ih => exact b12_areAllApart_15_s E M k5 h5 (f12_areAllApart_15 M k5 n) ih
set_option maxRecDepth 100000 in
theorem b12_areAllApart_5_s {p : Program} {l : Launch} {e : Env} {s : State} {m : MethodId} {args : Array Value} {below : List Frame} {meth : Method} {c : Code} {D : va_G} {cI cZ : ClassId} {ad : Nat → Nat} (E : rR_E D cI cZ ad cX12_areAllApart 6 (some .boolean) p s m args meth c) (M : rv_Mem)   (k5 : Int32 → Int32 → Bool → Int32 → Option (Bool)) (h5 : ∀ (x1 : Int32) (x2 : Int32) (x3 : Bool) (x4 : Int32), rv_M (rR_G D cI cZ ad) (rR_A ad) p l e rm12_areAllApart s m args below meth c 0 0 (rR_qZ D cI cZ ad below args s M) (k5 x1 x2 x3 x4) 5 [some (.ref (ad 67)), some (.int x1), some (.int x2), some (.int (rv_i x3)), some (.int x4), none] [] M) : ∀ (x1 : Int32) (x2 : Int32) (x3 : Bool) (x4 : Int32), rv_M (rR_G D cI cZ ad) (rR_A ad) p l e rm12_areAllApart s m args below meth c 0 0 (rR_qZ D cI cZ ad below args s M) (f12_areAllApart_5_s M k5 x1 x2 x3 x4) 5 [some (.ref (ad 67)), some (.int x1), some (.int x2), some (.int (rv_i x3)), some (.int x4), none] [] M := by
  intro x1 x2 x3 x4
  unfold f12_areAllApart_5_s
  refine rv_iload (q := 7) E.x dX12_areAllApart_5 rfl rfl ?_
  refine rv_bipush (q := 9) E.x dX12_areAllApart_7 rv_kb31 rfl ?_
  refine rv_icmp_ge (q := 12) (tgt := 85) E.x dX12_areAllApart_9 (by decide) rfl ?_ ?_
  · refine rv_iconst (q := 13) E.x dX12_areAllApart_12 rv_ki0 rfl ?_
    refine rv_istore (q := 15) (lv' := [_, _, _, _, _, _]) E.x dX12_areAllApart_13 (Nat.le_of_ble_eq_true rfl) rfl rfl rfl ?_
    refine rv_wk [true, true, true, true, true, true] ?_
    exact b12_areAllApart_15 E M k5 h5 rv_FU x1 x2 x3 x4 0
  · refine rv_iload_n (q := 86) E.x dX12_areAllApart_85 rfl rfl ?_
    exact rR_zret E x3 rfl dX12_areAllApart_86
theorem b12_areAllApart_5 {p : Program} {l : Launch} {e : Env} {s : State} {m : MethodId} {args : Array Value} {below : List Frame} {meth : Method} {c : Code} {D : va_G} {cI cZ : ClassId} {ad : Nat → Nat} (E : rR_E D cI cZ ad cX12_areAllApart 6 (some .boolean) p s m args meth c) (M : rv_Mem)   : ∀ (n : Nat), ∀ (x1 : Int32) (x2 : Int32) (x3 : Bool) (x4 : Int32), rv_M (rR_G D cI cZ ad) (rR_A ad) p l e rm12_areAllApart s m args below meth c 0 0 (rR_qZ D cI cZ ad below args s M) (f12_areAllApart_5 M n x1 x2 x3 x4) 5 [some (.ref (ad 67)), some (.int x1), some (.int x2), some (.int (rv_i x3)), some (.int x4), none] [] M := by
  intro n
  induction n with
  | zero => exact fun _ _ _ _ => rv_stuck
  | succ n ih => exact b12_areAllApart_5_s E M (f12_areAllApart_5 M n) ih
set_option maxRecDepth 100000 in
theorem b12_areAllApart {p : Program} {l : Launch} {e : Env} {s : State} {m : MethodId} {args : Array Value} {below : List Frame} {meth : Method} {c : Code} {D : va_G} {cI cZ : ClassId} {ad : Nat → Nat} (E : rR_E D cI cZ ad cX12_areAllApart 6 (some .boolean) p s m args meth c) (M : rv_Mem) (a1 : Int32) (a2 : Int32) : rv_M (rR_G D cI cZ ad) (rR_A ad) p l e rm12_areAllApart s m args below meth c 0 0  (rR_qZ D cI cZ ad below args s M) (f12_areAllApart M a1 a2) 0 [some (.ref (ad 67)), some (.int a1), some (.int a2), none, none, none] [] M := by
  unfold f12_areAllApart
  refine rv_iconst (q := 1) E.x dX12_areAllApart_0 rv_ki1 rfl ?_
  refine rv_istore_n (q := 2) (lv' := [_, _, _, _, _, _]) E.x dX12_areAllApart_1 (Nat.le_of_ble_eq_true rfl) rfl rfl rfl ?_
  refine rv_iconst (q := 3) E.x dX12_areAllApart_2 rv_ki0 rfl ?_
  refine rv_istore (q := 5) (lv' := [_, _, _, _, _, _]) E.x dX12_areAllApart_3 (Nat.le_of_ble_eq_true rfl) rfl rfl rfl ?_
  refine rv_wk [true, true, true, true, true, false] ?_
  exact b12_areAllApart_5 E M rv_FU a1 a2 true 0
theorem c12_areAllApart {l : Launch} {D : va_G} {cI cZ : ClassId} {ad : Nat → Nat} (hI : rR_I ad) {M : rv_Mem} {a1 : Int32} {a2 : Int32} {r : Bool} (h : f12_areAllApart M a1 a2 = some r) : Met l yX12_areAllApart (rv_ws yX12_areAllApart cX12_areAllApart 6 (some .boolean)) rm12_areAllApart (rR_Pc D cI cZ ad [.ref (ad 67), .int a1, .int a2] M) (rR_QI D cI cZ ad (rv_i r) M) 0 0 (rR_A ad) := rR_met hI rfl (rv_cat rfl) (Nat.le_of_ble_eq_true rfl) (fun p e s m args below meth c E => ⟨(rR_qZ D cI cZ ad below args s M), rfl, b12_areAllApart E M a1 a2⟩) h
abbrev rm12_fixAt : Room := { frames := 1, cells := 0, slots := 0, locals := 26 }
set_option maxRecDepth 100000 in
theorem b12_fixAt_72 {p : Program} {l : Launch} {e : Env} {s : State} {m : MethodId} {args : Array Value} {below : List Frame} {meth : Method} {c : Code} {D : va_G} {cI cZ : ClassId} {ad : Nat → Nat} (E : rR_E D cI cZ ad cX12_fixAt 8 (some .int) p s m args meth c) (M : rv_Mem) (k6 : Int32 → Int32 → Int32 → Int32 → Int32 → Int32 → Option (Int32)) (h6 : ∀ (x1 : Int32) (x2 : Int32) (x3 : Int32) (x4 : Int32) (x5 : Int32) (x6 : Int32), rv_M (rR_G D cI cZ ad) (rR_A ad) p l e rm12_fixAt s m args below meth c 0 0 (rR_qI D cI cZ ad below args s M) (k6 x1 x2 x3 x4 x5 x6) 6 [some (.ref (ad 67)), some (.int x1), some (.int x2), some (.int x3), some (.int x4), some (.int x5), some (.int x6), none] [] M) : ∀ (x1 : Int32) (x2 : Int32) (x3 : Int32) (x4 : Int32) (x6 : Int32) (s0 : Int32), rv_M (rR_G D cI cZ ad) (rR_A ad) p l e rm12_fixAt s m args below meth c 0 0 (rR_qI D cI cZ ad below args s M) (f12_fixAt_72 M k6 x1 x2 x3 x4 x6 s0) 72 [some (.ref (ad 67)), some (.int x1), some (.int x2), some (.int x3), some (.int x4), none, some (.int x6), none] [.int s0] M := by
  intro x1 x2 x3 x4 x6 s0
  unfold f12_fixAt_72
  refine rv_istore (q := 74) (lv' := [_, _, _, _, _, _, _, _]) E.x dX12_fixAt_72 (Nat.le_of_ble_eq_true rfl) rfl rfl rfl ?_
  refine rv_iinc (q := 77) (lv' := [_, _, _, _, _, _, _, _]) E.x dX12_fixAt_74 rv_ki1 rfl rfl rfl rfl ?_
  refine rv_goto (q := 6) E.x dX12_fixAt_77 (by decide) ?_
  refine rv_wk [true, true, true, true, true, true, true, false] ?_
  exact h6 x1 x2 x3 x4 s0 (x6 + 1)
set_option maxRecDepth 100000 in
theorem b12_fixAt_70 {p : Program} {l : Launch} {e : Env} {s : State} {m : MethodId} {args : Array Value} {below : List Frame} {meth : Method} {c : Code} {D : va_G} {cI cZ : ClassId} {ad : Nat → Nat} (E : rR_E D cI cZ ad cX12_fixAt 8 (some .int) p s m args meth c) (M : rv_Mem) (k6 : Int32 → Int32 → Int32 → Int32 → Int32 → Int32 → Option (Int32)) (h6 : ∀ (x1 : Int32) (x2 : Int32) (x3 : Int32) (x4 : Int32) (x5 : Int32) (x6 : Int32), rv_M (rR_G D cI cZ ad) (rR_A ad) p l e rm12_fixAt s m args below meth c 0 0 (rR_qI D cI cZ ad below args s M) (k6 x1 x2 x3 x4 x5 x6) 6 [some (.ref (ad 67)), some (.int x1), some (.int x2), some (.int x3), some (.int x4), some (.int x5), some (.int x6), none] [] M) : ∀ (x1 : Int32) (x2 : Int32) (x3 : Int32) (x4 : Int32) (x5 : Int32) (x6 : Int32), rv_M (rR_G D cI cZ ad) (rR_A ad) p l e rm12_fixAt s m args below meth c 0 0 (rR_qI D cI cZ ad below args s M) (f12_fixAt_70 M k6 x1 x2 x3 x4 x5 x6) 70 [some (.ref (ad 67)), some (.int x1), some (.int x2), some (.int x3), some (.int x4), some (.int x5), some (.int x6), none] [] M := by
  intro x1 x2 x3 x4 x5 x6
  unfold f12_fixAt_70
  refine rv_iload (q := 72) E.x dX12_fixAt_70 rfl rfl ?_
  refine rv_wk [true, true, true, true, true, false, true, false] ?_
  exact b12_fixAt_72 E M k6 h6 x1 x2 x3 x4 x6 x5
set_option maxRecDepth 100000 in
theorem b12_fixAt_34 {p : Program} {l : Launch} {e : Env} {s : State} {m : MethodId} {args : Array Value} {below : List Frame} {meth : Method} {c : Code} {D : va_G} {cI cZ : ClassId} {ad : Nat → Nat} (E : rR_E D cI cZ ad cX12_fixAt 8 (some .int) p s m args meth c) (M : rv_Mem) (k6 : Int32 → Int32 → Int32 → Int32 → Int32 → Int32 → Option (Int32)) (h6 : ∀ (x1 : Int32) (x2 : Int32) (x3 : Int32) (x4 : Int32) (x5 : Int32) (x6 : Int32), rv_M (rR_G D cI cZ ad) (rR_A ad) p l e rm12_fixAt s m args below meth c 0 0 (rR_qI D cI cZ ad below args s M) (k6 x1 x2 x3 x4 x5 x6) 6 [some (.ref (ad 67)), some (.int x1), some (.int x2), some (.int x3), some (.int x4), some (.int x5), some (.int x6), none] [] M) : ∀ (x1 : Int32) (x2 : Int32) (x3 : Int32) (x4 : Int32) (x5 : Int32) (x6 : Int32) (s0 : Int32), rv_M (rR_G D cI cZ ad) (rR_A ad) p l e rm12_fixAt s m args below meth c 0 0 (rR_qI D cI cZ ad below args s M) (f12_fixAt_34 M k6 x1 x2 x3 x4 x5 x6 s0) 34 [some (.ref (ad 67)), some (.int x1), some (.int x2), some (.int x3), some (.int x4), some (.int x5), some (.int x6), none] [.int s0] M := by
  intro x1 x2 x3 x4 x5 x6 s0
  unfold f12_fixAt_34
  refine rv_istore (q := 36) (lv' := [_, _, _, _, _, _, _, _]) E.x dX12_fixAt_34 (Nat.le_of_ble_eq_true rfl) rfl rfl rfl ?_
  refine rv_iload (q := 38) E.x dX12_fixAt_36 rfl rfl ?_
  refine rv_iconst (q := 39) E.x dX12_fixAt_38 rv_kim1 rfl ?_
  refine rv_icmp_eq (q := 42) (tgt := 70) E.x dX12_fixAt_39 (by decide) rfl ?_ ?_
  · refine rv_aload_n (q := 43) E.x dX12_fixAt_42 rfl rfl ?_
    refine rR_get (q := 46) E 37 wf12_37 rfl (Nat.le_of_ble_eq_true rfl) rfl dX12_fixAt_43 rfl ?_
    refine rv_iload (q := 48) E.x dX12_fixAt_46 rfl rfl ?_
    refine rR_iald (q := 49) (n := 40) E (Nat.le_of_ble_eq_true rfl) rfl rfl dX12_fixAt_48 rfl ?_
    refine rv_iload_n (q := 50) E.x dX12_fixAt_49 rfl rfl ?_
    refine rv_icmp_ne (q := 53) (tgt := 70) E.x dX12_fixAt_50 (by decide) rfl ?_ ?_
    · refine rv_aload_n (q := 54) E.x dX12_fixAt_53 rfl rfl ?_
      refine rR_get (q := 57) E 38 wf12_38 rfl (Nat.le_of_ble_eq_true rfl) rfl dX12_fixAt_54 rfl ?_
      refine rv_iload (q := 59) E.x dX12_fixAt_57 rfl rfl ?_
      refine rR_iald (q := 60) (n := 40) E (Nat.le_of_ble_eq_true rfl) rfl rfl dX12_fixAt_59 rfl ?_
      refine rv_iload (q := 62) E.x dX12_fixAt_60 rfl rfl ?_
      refine rv_icmp_ne (q := 65) (tgt := 70) E.x dX12_fixAt_62 (by decide) rfl ?_ ?_
      · refine rv_iload (q := 67) E.x dX12_fixAt_65 rfl rfl ?_
        refine rv_goto (q := 72) E.x dX12_fixAt_67 (by decide) ?_
        refine rv_wk [true, true, true, true, true, false, true, false] ?_
        exact b12_fixAt_72 E M k6 h6 x1 x2 x3 x4 x6 s0
      · refine rv_wk [true, true, true, true, true, true, true, false] ?_
        exact b12_fixAt_70 E M k6 h6 x1 x2 x3 x4 x5 x6
    · refine rv_wk [true, true, true, true, true, true, true, false] ?_
      exact b12_fixAt_70 E M k6 h6 x1 x2 x3 x4 x5 x6
  · refine rv_wk [true, true, true, true, true, true, true, false] ?_
    exact b12_fixAt_70 E M k6 h6 x1 x2 x3 x4 x5 x6
set_option maxRecDepth 100000 in
theorem b12_fixAt_6_s {p : Program} {l : Launch} {e : Env} {s : State} {m : MethodId} {args : Array Value} {below : List Frame} {meth : Method} {c : Code} {D : va_G} {cI cZ : ClassId} {ad : Nat → Nat} (E : rR_E D cI cZ ad cX12_fixAt 8 (some .int) p s m args meth c) (M : rv_Mem)   (k6 : Int32 → Int32 → Int32 → Int32 → Int32 → Int32 → Option (Int32)) (h6 : ∀ (x1 : Int32) (x2 : Int32) (x3 : Int32) (x4 : Int32) (x5 : Int32) (x6 : Int32), rv_M (rR_G D cI cZ ad) (rR_A ad) p l e rm12_fixAt s m args below meth c 0 0 (rR_qI D cI cZ ad below args s M) (k6 x1 x2 x3 x4 x5 x6) 6 [some (.ref (ad 67)), some (.int x1), some (.int x2), some (.int x3), some (.int x4), some (.int x5), some (.int x6), none] [] M) : ∀ (x1 : Int32) (x2 : Int32) (x3 : Int32) (x4 : Int32) (x5 : Int32) (x6 : Int32), rv_M (rR_G D cI cZ ad) (rR_A ad) p l e rm12_fixAt s m args below meth c 0 0 (rR_qI D cI cZ ad below args s M) (f12_fixAt_6_s M k6 x1 x2 x3 x4 x5 x6) 6 [some (.ref (ad 67)), some (.int x1), some (.int x2), some (.int x3), some (.int x4), some (.int x5), some (.int x6), none] [] M := by
  intro x1 x2 x3 x4 x5 x6
  unfold f12_fixAt_6_s
  refine rv_iload (q := 8) E.x dX12_fixAt_6 rfl rfl ?_
  refine rv_bipush (q := 10) E.x dX12_fixAt_8 rv_kb31 rfl ?_
  refine rv_icmp_ge (q := 13) (tgt := 80) E.x dX12_fixAt_10 (by decide) rfl ?_ ?_
  · refine rv_aload_n (q := 14) E.x dX12_fixAt_13 rfl rfl ?_
    refine rv_iload_n (q := 15) E.x dX12_fixAt_14 rfl rfl ?_
    refine rv_iload (q := 17) E.x dX12_fixAt_15 rfl rfl ?_
    refine rv_b1 (fun r2 e1 => ?_)
    refine rR_calli (q := 20) E (c12_isTaken E.2.2.1 e1) gX12_isTaken hX12_isTaken ⟨rfl, rfl⟩ ⟨Nat.le_of_ble_eq_true rfl, Nat.le_of_ble_eq_true rfl⟩ rfl rfl rfl (Nat.le_of_ble_eq_true rfl) dX12_fixAt_17 rfl ?_
    refine rv_ifz_eq (q := 23) (tgt := 33) E.x dX12_fixAt_20 (by decide) rfl ?_ ?_
    · refine rv_aload_n (q := 24) E.x dX12_fixAt_23 rfl rfl ?_
      refine rv_iload_n (q := 25) E.x dX12_fixAt_24 rfl rfl ?_
      refine rv_iload (q := 27) E.x dX12_fixAt_25 rfl rfl ?_
      refine rv_b1 (fun r4 e3 => ?_)
      refine rR_calli (q := 30) E (c12_findingAt E.2.2.1 e3) gX12_findingAt hX12_findingAt ⟨rfl, rfl⟩ ⟨Nat.le_of_ble_eq_true rfl, Nat.le_of_ble_eq_true rfl⟩ rfl rfl rfl (Nat.le_of_ble_eq_true rfl) dX12_fixAt_27 rfl ?_
      refine rv_goto (q := 34) E.x dX12_fixAt_30 (by decide) ?_
      refine rv_wk [true, true, true, true, true, true, true, false] ?_
      exact b12_fixAt_34 E M k6 h6 x1 x2 x3 x4 x5 x6 r4
    · refine rv_iconst (q := 34) E.x dX12_fixAt_33 rv_kim1 rfl ?_
      refine rv_wk [true, true, true, true, true, true, true, false] ?_
      exact b12_fixAt_34 E M k6 h6 x1 x2 x3 x4 x5 x6 (-1)
  · refine rv_iload (q := 82) E.x dX12_fixAt_80 rfl rfl ?_
    exact rR_iret E rfl dX12_fixAt_82
theorem b12_fixAt_6 {p : Program} {l : Launch} {e : Env} {s : State} {m : MethodId} {args : Array Value} {below : List Frame} {meth : Method} {c : Code} {D : va_G} {cI cZ : ClassId} {ad : Nat → Nat} (E : rR_E D cI cZ ad cX12_fixAt 8 (some .int) p s m args meth c) (M : rv_Mem)   : ∀ (n : Nat), ∀ (x1 : Int32) (x2 : Int32) (x3 : Int32) (x4 : Int32) (x5 : Int32) (x6 : Int32), rv_M (rR_G D cI cZ ad) (rR_A ad) p l e rm12_fixAt s m args below meth c 0 0 (rR_qI D cI cZ ad below args s M) (f12_fixAt_6 M n x1 x2 x3 x4 x5 x6) 6 [some (.ref (ad 67)), some (.int x1), some (.int x2), some (.int x3), some (.int x4), some (.int x5), some (.int x6), none] [] M := by
  intro n
  induction n with
  | zero => exact fun _ _ _ _ _ _ => rv_stuck
  | succ n ih => exact b12_fixAt_6_s E M (f12_fixAt_6 M n) ih
set_option maxRecDepth 100000 in
theorem b12_fixAt {p : Program} {l : Launch} {e : Env} {s : State} {m : MethodId} {args : Array Value} {below : List Frame} {meth : Method} {c : Code} {D : va_G} {cI cZ : ClassId} {ad : Nat → Nat} (E : rR_E D cI cZ ad cX12_fixAt 8 (some .int) p s m args meth c) (M : rv_Mem) (a1 : Int32) (a2 : Int32) (a3 : Int32) (a4 : Int32) : rv_M (rR_G D cI cZ ad) (rR_A ad) p l e rm12_fixAt s m args below meth c 0 0  (rR_qI D cI cZ ad below args s M) (f12_fixAt M a1 a2 a3 a4) 0 [some (.ref (ad 67)), some (.int a1), some (.int a2), some (.int a3), some (.int a4), none, none, none] [] M := by
  unfold f12_fixAt
  refine rv_iconst (q := 1) E.x dX12_fixAt_0 rv_kim1 rfl ?_
  refine rv_istore (q := 3) (lv' := [_, _, _, _, _, _, _, _]) E.x dX12_fixAt_1 (Nat.le_of_ble_eq_true rfl) rfl rfl rfl ?_
  refine rv_iconst (q := 4) E.x dX12_fixAt_3 rv_ki0 rfl ?_
  refine rv_istore (q := 6) (lv' := [_, _, _, _, _, _, _, _]) E.x dX12_fixAt_4 (Nat.le_of_ble_eq_true rfl) rfl rfl rfl ?_
  refine rv_wk [true, true, true, true, true, true, true, false] ?_
  exact b12_fixAt_6 E M rv_FU a1 a2 a3 a4 (-1) 0
theorem c12_fixAt {l : Launch} {D : va_G} {cI cZ : ClassId} {ad : Nat → Nat} (hI : rR_I ad) {M : rv_Mem} {a1 : Int32} {a2 : Int32} {a3 : Int32} {a4 : Int32} {r : Int32} (h : f12_fixAt M a1 a2 a3 a4 = some r) : Met l yX12_fixAt (rv_ws yX12_fixAt cX12_fixAt 8 (some .int)) rm12_fixAt (rR_Pc D cI cZ ad [.ref (ad 67), .int a1, .int a2, .int a3, .int a4] M) (rR_QI D cI cZ ad r M) 0 0 (rR_A ad) := rR_met hI rfl (rv_cat rfl) (Nat.le_of_ble_eq_true rfl) (fun p e s m args below meth c E => ⟨(rR_qI D cI cZ ad below args s M), rfl, b12_fixAt E M a1 a2 a3 a4⟩) h
abbrev rm12_fixes : Room := { frames := 2, cells := 0, slots := 0, locals := 53 }
set_option maxRecDepth 100000 in
theorem b12_fixes_140 {p : Program} {l : Launch} {e : Env} {s : State} {m : MethodId} {args : Array Value} {below : List Frame} {meth : Method} {c : Code} {D : va_G} {cI cZ : ClassId} {ad : Nat → Nat} (E : rR_E D cI cZ ad cX12_fixes 8 (some .int) p s m args meth c) (k15 : rv_Mem → Int32 → Int32 → Int32 → Int32 → Int32 → Option (Int32 × rv_Mem)) (h15 : ∀ (M : rv_Mem) (x1 : Int32) (x2 : Int32) (x3 : Int32) (x4 : Int32) (x5 : Int32), rv_M (rR_G D cI cZ ad) (rR_A ad) p l e rm12_fixes s m args below meth c 0 0 (rR_qIW D cI cZ ad below args s) (k15 M x1 x2 x3 x4 x5) 15 [some (.ref (ad 67)), some (.int x1), some (.int x2), some (.int x3), some (.int x4), some (.int x5), none, none] [] M) : ∀ (M : rv_Mem) (x1 : Int32) (x2 : Int32) (x3 : Int32) (x4 : Int32) (s0 : Int32) (s1 : Int32), rv_M (rR_G D cI cZ ad) (rR_A ad) p l e rm12_fixes s m args below meth c 0 0 (rR_qIW D cI cZ ad below args s) (f12_fixes_140 k15 M x1 x2 x3 x4 s0 s1) 140 [some (.ref (ad 67)), some (.int x1), some (.int x2), some (.int x3), some (.int x4), none, none, none] [.int s1, .int s0] M := by
  intro M x1 x2 x3 x4 s0 s1
  unfold f12_fixes_140
  refine rv_iadd (q := 141) E.x dX12_fixes_140 rfl ?_
  refine rv_istore (q := 143) (lv' := [_, _, _, _, _, _, _, _]) E.x dX12_fixes_141 (Nat.le_of_ble_eq_true rfl) rfl rfl rfl ?_
  refine rv_goto (q := 15) E.x dX12_fixes_143 (by decide) ?_
  refine rv_wk [true, true, true, true, true, true, false, false] ?_
  exact h15 M x1 x2 x3 x4 (s0 + s1)
set_option maxRecDepth 100000 in
theorem b12_fixes_127 {p : Program} {l : Launch} {e : Env} {s : State} {m : MethodId} {args : Array Value} {below : List Frame} {meth : Method} {c : Code} {D : va_G} {cI cZ : ClassId} {ad : Nat → Nat} (E : rR_E D cI cZ ad cX12_fixes 8 (some .int) p s m args meth c) (k15 : rv_Mem → Int32 → Int32 → Int32 → Int32 → Int32 → Option (Int32 × rv_Mem)) (h15 : ∀ (M : rv_Mem) (x1 : Int32) (x2 : Int32) (x3 : Int32) (x4 : Int32) (x5 : Int32), rv_M (rR_G D cI cZ ad) (rR_A ad) p l e rm12_fixes s m args below meth c 0 0 (rR_qIW D cI cZ ad below args s) (k15 M x1 x2 x3 x4 x5) 15 [some (.ref (ad 67)), some (.int x1), some (.int x2), some (.int x3), some (.int x4), some (.int x5), none, none] [] M) : ∀ (M : rv_Mem) (x1 : Int32) (x2 : Int32) (x3 : Int32) (x4 : Int32) (x5 : Int32) (x7 : Int32), rv_M (rR_G D cI cZ ad) (rR_A ad) p l e rm12_fixes s m args below meth c 0 0 (rR_qIW D cI cZ ad below args s) (f12_fixes_127 k15 M x1 x2 x3 x4 x5 x7) 127 [some (.ref (ad 67)), some (.int x1), some (.int x2), some (.int x3), some (.int x4), some (.int x5), none, some (.int x7)] [] M := by
  intro M x1 x2 x3 x4 x5 x7
  unfold f12_fixes_127
  refine rv_iload (q := 129) E.x dX12_fixes_127 rfl rfl ?_
  refine rv_iload (q := 131) E.x dX12_fixes_129 rfl rfl ?_
  refine rv_if_ne (q := 134) (tgt := 138) E.x dX12_fixes_131 (by decide) rfl ?_ ?_
  · refine rv_iconst (q := 135) E.x dX12_fixes_134 rv_ki1 rfl ?_
    refine rv_goto (q := 140) E.x dX12_fixes_135 (by decide) ?_
    refine rv_wk [true, true, true, true, true, false, false, false] ?_
    exact b12_fixes_140 E k15 h15 M x1 x2 x3 x4 x5 1
  · refine rv_iload (q := 140) E.x dX12_fixes_138 rfl rfl ?_
    refine rv_wk [true, true, true, true, true, false, false, false] ?_
    exact b12_fixes_140 E k15 h15 M x1 x2 x3 x4 x5 x7
set_option maxRecDepth 100000 in
theorem b12_fixes_100 {p : Program} {l : Launch} {e : Env} {s : State} {m : MethodId} {args : Array Value} {below : List Frame} {meth : Method} {c : Code} {D : va_G} {cI cZ : ClassId} {ad : Nat → Nat} (E : rR_E D cI cZ ad cX12_fixes 8 (some .int) p s m args meth c) (k15 : rv_Mem → Int32 → Int32 → Int32 → Int32 → Int32 → Option (Int32 × rv_Mem)) (h15 : ∀ (M : rv_Mem) (x1 : Int32) (x2 : Int32) (x3 : Int32) (x4 : Int32) (x5 : Int32), rv_M (rR_G D cI cZ ad) (rR_A ad) p l e rm12_fixes s m args below meth c 0 0 (rR_qIW D cI cZ ad below args s) (k15 M x1 x2 x3 x4 x5) 15 [some (.ref (ad 67)), some (.int x1), some (.int x2), some (.int x3), some (.int x4), some (.int x5), none, none] [] M) : ∀ (M : rv_Mem) (x1 : Int32) (x2 : Int32) (x3 : Int32) (x4 : Int32) (x5 : Int32) (x7 : Int32), rv_M (rR_G D cI cZ ad) (rR_A ad) p l e rm12_fixes s m args below meth c 0 0 (rR_qIW D cI cZ ad below args s) (f12_fixes_100 k15 M x1 x2 x3 x4 x5 x7) 100 [some (.ref (ad 67)), some (.int x1), some (.int x2), some (.int x3), some (.int x4), some (.int x5), none, some (.int x7)] [] M := by
  intro M x1 x2 x3 x4 x5 x7
  unfold f12_fixes_100
  refine rv_iload (q := 102) E.x dX12_fixes_100 rfl rfl ?_
  refine rv_if_ne (q := 105) (tgt := 127) E.x dX12_fixes_102 (by decide) rfl ?_ ?_
  · refine rv_iload (q := 107) E.x dX12_fixes_105 rfl rfl ?_
    refine rv_aload_n (q := 108) E.x dX12_fixes_107 rfl rfl ?_
    refine rv_iload (q := 110) E.x dX12_fixes_108 rfl rfl ?_
    refine rv_iload_n (q := 111) E.x dX12_fixes_110 rfl rfl ?_
    refine rv_b1 (fun r2 e1 => ?_)
    refine rR_calli (q := 114) E (c12_sizeOf E.2.2.1 e1) gX12_sizeOf hX12_sizeOf ⟨rfl, rfl⟩ ⟨Nat.le_of_ble_eq_true rfl, Nat.le_of_ble_eq_true rfl⟩ rfl rfl rfl (Nat.le_of_ble_eq_true rfl) dX12_fixes_111 rfl ?_
    refine rv_icmp_ge (q := 117) (tgt := 127) E.x dX12_fixes_114 (by decide) rfl ?_ ?_
    · refine rv_aload_n (q := 118) E.x dX12_fixes_117 rfl rfl ?_
      refine rv_iload (q := 120) E.x dX12_fixes_118 rfl rfl ?_
      refine rv_iload_n (q := 121) E.x dX12_fixes_120 rfl rfl ?_
      refine rv_iload (q := 123) E.x dX12_fixes_121 rfl rfl ?_
      refine rv_iconst (q := 124) E.x dX12_fixes_123 rv_ki1 rfl ?_
      refine rv_b1 (fun M4 e3 => ?_)
      refine rR_callv (q := 127) E (c12_fills E.2.2.1 e3) gX12_fills hX12_fills ⟨rfl, rfl⟩ ⟨Nat.le_of_ble_eq_true rfl, Nat.le_of_ble_eq_true rfl⟩ rfl rfl rfl (Nat.le_of_ble_eq_true rfl) dX12_fixes_124 rfl ?_
      refine rv_wk [true, true, true, true, true, true, false, true] ?_
      exact b12_fixes_127 E k15 h15 M4 x1 x2 x3 x4 x5 x7
    · refine rv_wk [true, true, true, true, true, true, false, true] ?_
      exact b12_fixes_127 E k15 h15 M x1 x2 x3 x4 x5 x7
  · refine rv_wk [true, true, true, true, true, true, false, true] ?_
    exact b12_fixes_127 E k15 h15 M x1 x2 x3 x4 x5 x7
set_option maxRecDepth 100000 in
theorem b12_fixes_55 {p : Program} {l : Launch} {e : Env} {s : State} {m : MethodId} {args : Array Value} {below : List Frame} {meth : Method} {c : Code} {D : va_G} {cI cZ : ClassId} {ad : Nat → Nat} (E : rR_E D cI cZ ad cX12_fixes 8 (some .int) p s m args meth c) (k15 : rv_Mem → Int32 → Int32 → Int32 → Int32 → Int32 → Option (Int32 × rv_Mem)) (h15 : ∀ (M : rv_Mem) (x1 : Int32) (x2 : Int32) (x3 : Int32) (x4 : Int32) (x5 : Int32), rv_M (rR_G D cI cZ ad) (rR_A ad) p l e rm12_fixes s m args below meth c 0 0 (rR_qIW D cI cZ ad below args s) (k15 M x1 x2 x3 x4 x5) 15 [some (.ref (ad 67)), some (.int x1), some (.int x2), some (.int x3), some (.int x4), some (.int x5), none, none] [] M) : ∀ (M : rv_Mem) (x1 : Int32) (x2 : Int32) (x3 : Int32) (x4 : Int32) (x5 : Int32) (x6 : Int32) (s0 : Int32), rv_M (rR_G D cI cZ ad) (rR_A ad) p l e rm12_fixes s m args below meth c 0 0 (rR_qIW D cI cZ ad below args s) (f12_fixes_55 k15 M x1 x2 x3 x4 x5 x6 s0) 55 [some (.ref (ad 67)), some (.int x1), some (.int x2), some (.int x3), some (.int x4), some (.int x5), some (.int x6), none] [.int s0] M := by
  intro M x1 x2 x3 x4 x5 x6 s0
  unfold f12_fixes_55
  refine rv_istore (q := 57) (lv' := [_, _, _, _, _, _, _, _]) E.x dX12_fixes_55 (Nat.le_of_ble_eq_true rfl) rfl rfl rfl ?_
  refine rv_iload (q := 59) E.x dX12_fixes_57 rfl rfl ?_
  refine rv_iconst (q := 60) E.x dX12_fixes_59 rv_kim1 rfl ?_
  refine rv_icmp_eq (q := 63) (tgt := 100) E.x dX12_fixes_60 (by decide) rfl ?_ ?_
  · refine rv_aload_n (q := 64) E.x dX12_fixes_63 rfl rfl ?_
    refine rR_get (q := 67) E 40 wf12_40 rfl (Nat.le_of_ble_eq_true rfl) rfl dX12_fixes_64 rfl ?_
    refine rv_iload (q := 69) E.x dX12_fixes_67 rfl rfl ?_
    refine rR_iald (q := 70) (n := 40) E (Nat.le_of_ble_eq_true rfl) rfl rfl dX12_fixes_69 rfl ?_
    refine rv_iconst (q := 71) E.x dX12_fixes_70 rv_kim1 rfl ?_
    refine rv_icmp_eq (q := 74) (tgt := 100) E.x dX12_fixes_71 (by decide) rfl ?_ ?_
    · refine rv_aload_n (q := 75) E.x dX12_fixes_74 rfl rfl ?_
      refine rR_get (q := 78) E 62 wf12_62 rfl (Nat.le_of_ble_eq_true rfl) rfl dX12_fixes_75 rfl ?_
      refine rv_aload_n (q := 79) E.x dX12_fixes_78 rfl rfl ?_
      refine rR_get (q := 82) E 63 wf12_63 rfl (Nat.le_of_ble_eq_true rfl) rfl dX12_fixes_79 rfl ?_
      refine rv_aload_n (q := 83) E.x dX12_fixes_82 rfl rfl ?_
      refine rR_get (q := 86) E 40 wf12_40 rfl (Nat.le_of_ble_eq_true rfl) rfl dX12_fixes_83 rfl ?_
      refine rv_iload (q := 88) E.x dX12_fixes_86 rfl rfl ?_
      refine rR_iald (q := 89) (n := 40) E (Nat.le_of_ble_eq_true rfl) rfl rfl dX12_fixes_88 rfl ?_
      refine rR_iast (q := 90) (n := 24) E (Nat.le_of_ble_eq_true rfl) rfl rfl dX12_fixes_89 rfl ?_
      refine rv_ltm (fun M1 => ?_)
      refine rv_aload_n (q := 91) E.x dX12_fixes_90 rfl rfl ?_
      refine rv_dup (q := 92) E.x dX12_fixes_91 rfl rfl ?_
      refine rR_get (q := 95) E 63 wf12_63 rfl (Nat.le_of_ble_eq_true rfl) rfl dX12_fixes_92 rfl ?_
      refine rv_iconst (q := 96) E.x dX12_fixes_95 rv_ki1 rfl ?_
      refine rv_iadd (q := 97) E.x dX12_fixes_96 rfl ?_
      refine rR_put (q := 100) E 63 wf12_63 rfl (Nat.le_of_ble_eq_true rfl) rfl rfl rfl dX12_fixes_97 rfl ?_
      refine rv_ltm (fun M2 => ?_)
      refine rv_wk [true, true, true, true, true, true, false, true] ?_
      exact b12_fixes_100 E k15 h15 M2 x1 x2 x3 x4 x5 s0
    · refine rv_wk [true, true, true, true, true, true, false, true] ?_
      exact b12_fixes_100 E k15 h15 M x1 x2 x3 x4 x5 s0
  · refine rv_wk [true, true, true, true, true, true, false, true] ?_
    exact b12_fixes_100 E k15 h15 M x1 x2 x3 x4 x5 s0
set_option maxRecDepth 100000 in
theorem b12_fixes_15_s {p : Program} {l : Launch} {e : Env} {s : State} {m : MethodId} {args : Array Value} {below : List Frame} {meth : Method} {c : Code} {D : va_G} {cI cZ : ClassId} {ad : Nat → Nat} (E : rR_E D cI cZ ad cX12_fixes 8 (some .int) p s m args meth c)   (k15 : rv_Mem → Int32 → Int32 → Int32 → Int32 → Int32 → Option (Int32 × rv_Mem)) (h15 : ∀ (M : rv_Mem) (x1 : Int32) (x2 : Int32) (x3 : Int32) (x4 : Int32) (x5 : Int32), rv_M (rR_G D cI cZ ad) (rR_A ad) p l e rm12_fixes s m args below meth c 0 0 (rR_qIW D cI cZ ad below args s) (k15 M x1 x2 x3 x4 x5) 15 [some (.ref (ad 67)), some (.int x1), some (.int x2), some (.int x3), some (.int x4), some (.int x5), none, none] [] M) : ∀ (M : rv_Mem) (x1 : Int32) (x2 : Int32) (x3 : Int32) (x4 : Int32) (x5 : Int32), rv_M (rR_G D cI cZ ad) (rR_A ad) p l e rm12_fixes s m args below meth c 0 0 (rR_qIW D cI cZ ad below args s) (f12_fixes_15_s k15 M x1 x2 x3 x4 x5) 15 [some (.ref (ad 67)), some (.int x1), some (.int x2), some (.int x3), some (.int x4), some (.int x5), none, none] [] M := by
  intro M x1 x2 x3 x4 x5
  unfold f12_fixes_15_s
  refine rv_iload (q := 17) E.x dX12_fixes_15 rfl rfl ?_
  refine rv_aload_n (q := 18) E.x dX12_fixes_17 rfl rfl ?_
  refine rv_iload (q := 20) E.x dX12_fixes_18 rfl rfl ?_
  refine rv_iload_n (q := 21) E.x dX12_fixes_20 rfl rfl ?_
  refine rv_b1 (fun r2 e1 => ?_)
  refine rR_calli (q := 24) E (c12_sizeOf E.2.2.1 e1) gX12_sizeOf hX12_sizeOf ⟨rfl, rfl⟩ ⟨Nat.le_of_ble_eq_true rfl, Nat.le_of_ble_eq_true rfl⟩ rfl rfl rfl (Nat.le_of_ble_eq_true rfl) dX12_fixes_21 rfl ?_
  refine rv_icmp_gt (q := 27) (tgt := 146) E.x dX12_fixes_24 (by decide) rfl ?_ ?_
  · refine rv_aload_n (q := 28) E.x dX12_fixes_27 rfl rfl ?_
    refine rv_iload_n (q := 29) E.x dX12_fixes_28 rfl rfl ?_
    refine rv_iload_n (q := 30) E.x dX12_fixes_29 rfl rfl ?_
    refine rv_iload_n (q := 31) E.x dX12_fixes_30 rfl rfl ?_
    refine rv_iload (q := 33) E.x dX12_fixes_31 rfl rfl ?_
    refine rv_b1 (fun r4 e3 => ?_)
    refine rR_calli (q := 36) E (c12_fixAt E.2.2.1 e3) gX12_fixAt hX12_fixAt ⟨rfl, rfl⟩ ⟨Nat.le_of_ble_eq_true rfl, Nat.le_of_ble_eq_true rfl⟩ rfl rfl rfl (Nat.le_of_ble_eq_true rfl) dX12_fixes_33 rfl ?_
    refine rv_istore (q := 38) (lv' := [_, _, _, _, _, _, _, _]) E.x dX12_fixes_36 (Nat.le_of_ble_eq_true rfl) rfl rfl rfl ?_
    refine rv_iload (q := 40) E.x dX12_fixes_38 rfl rfl ?_
    refine rv_iconst (q := 41) E.x dX12_fixes_40 rv_kim1 rfl ?_
    refine rv_icmp_ne (q := 44) (tgt := 48) E.x dX12_fixes_41 (by decide) rfl ?_ ?_
    · refine rv_iconst (q := 45) E.x dX12_fixes_44 rv_ki0 rfl ?_
      refine rv_goto (q := 55) E.x dX12_fixes_45 (by decide) ?_
      refine rv_wk [true, true, true, true, true, true, true, false] ?_
      exact b12_fixes_55 E k15 h15 M x1 x2 x3 x4 x5 r4 0
    · refine rv_aload_n (q := 49) E.x dX12_fixes_48 rfl rfl ?_
      refine rR_get (q := 52) E 39 wf12_39 rfl (Nat.le_of_ble_eq_true rfl) rfl dX12_fixes_49 rfl ?_
      refine rv_iload (q := 54) E.x dX12_fixes_52 rfl rfl ?_
      refine rR_iald (q := 55) (n := 40) E (Nat.le_of_ble_eq_true rfl) rfl rfl dX12_fixes_54 rfl ?_
      refine rv_wk [true, true, true, true, true, true, true, false] ?_
      exact b12_fixes_55 E k15 h15 M x1 x2 x3 x4 x5 r4 (M 39 (r4).toNatClampNeg)
  · refine rv_aload_n (q := 147) E.x dX12_fixes_146 rfl rfl ?_
    refine rR_get (q := 150) E 63 wf12_63 rfl (Nat.le_of_ble_eq_true rfl) rfl dX12_fixes_147 rfl ?_
    exact rR_iret E rfl dX12_fixes_150
theorem b12_fixes_15 {p : Program} {l : Launch} {e : Env} {s : State} {m : MethodId} {args : Array Value} {below : List Frame} {meth : Method} {c : Code} {D : va_G} {cI cZ : ClassId} {ad : Nat → Nat} (E : rR_E D cI cZ ad cX12_fixes 8 (some .int) p s m args meth c)   : ∀ (n : Nat), ∀ (M : rv_Mem) (x1 : Int32) (x2 : Int32) (x3 : Int32) (x4 : Int32) (x5 : Int32), rv_M (rR_G D cI cZ ad) (rR_A ad) p l e rm12_fixes s m args below meth c 0 0 (rR_qIW D cI cZ ad below args s) (f12_fixes_15 n M x1 x2 x3 x4 x5) 15 [some (.ref (ad 67)), some (.int x1), some (.int x2), some (.int x3), some (.int x4), some (.int x5), none, none] [] M := by
  intro n
  induction n with
  | zero => exact fun _ _ _ _ _ _ => rv_stuck
  | succ n ih => exact b12_fixes_15_s E  (f12_fixes_15 n) ih
set_option maxRecDepth 100000 in
theorem b12_fixes {p : Program} {l : Launch} {e : Env} {s : State} {m : MethodId} {args : Array Value} {below : List Frame} {meth : Method} {c : Code} {D : va_G} {cI cZ : ClassId} {ad : Nat → Nat} (E : rR_E D cI cZ ad cX12_fixes 8 (some .int) p s m args meth c) (M : rv_Mem) (a1 : Int32) (a2 : Int32) (a3 : Int32) : rv_M (rR_G D cI cZ ad) (rR_A ad) p l e rm12_fixes s m args below meth c 0 0  (rR_qIW D cI cZ ad below args s) (f12_fixes M a1 a2 a3) 0 [some (.ref (ad 67)), some (.int a1), some (.int a2), some (.int a3), none, none, none, none] [] M := by
  unfold f12_fixes
  refine rv_aload_n (q := 1) E.x dX12_fixes_0 rfl rfl ?_
  refine rv_iload_n (q := 2) E.x dX12_fixes_1 rfl rfl ?_
  refine rv_b1 (fun r2 e1 => ?_)
  refine rR_calli (q := 5) E (c12_current E.2.2.1 e1) gX12_current hX12_current ⟨rfl, rfl⟩ ⟨Nat.le_of_ble_eq_true rfl, Nat.le_of_ble_eq_true rfl⟩ rfl rfl rfl (Nat.le_of_ble_eq_true rfl) dX12_fixes_2 rfl ?_
  refine rv_istore (q := 7) (lv' := [_, _, _, _, _, _, _, _]) E.x dX12_fixes_5 (Nat.le_of_ble_eq_true rfl) rfl rfl rfl ?_
  refine rv_iconst (q := 8) E.x dX12_fixes_7 rv_ki0 rfl ?_
  refine rv_istore (q := 10) (lv' := [_, _, _, _, _, _, _, _]) E.x dX12_fixes_8 (Nat.le_of_ble_eq_true rfl) rfl rfl rfl ?_
  refine rv_aload_n (q := 11) E.x dX12_fixes_10 rfl rfl ?_
  refine rv_iconst (q := 12) E.x dX12_fixes_11 rv_ki0 rfl ?_
  refine rR_put (q := 15) E 63 wf12_63 rfl (Nat.le_of_ble_eq_true rfl) rfl rfl rfl dX12_fixes_12 rfl ?_
  refine rv_ltm (fun M3 => ?_)
  refine rv_wk [true, true, true, true, true, true, false, false] ?_
  exact b12_fixes_15 E rv_FU M3 a1 a2 a3 r2 0
theorem c12_fixes {l : Launch} {D : va_G} {cI cZ : ClassId} {ad : Nat → Nat} (hI : rR_I ad) {M : rv_Mem} {a1 : Int32} {a2 : Int32} {a3 : Int32} {r : Int32} {M1 : rv_Mem} (h : f12_fixes M a1 a2 a3 = some (r, M1)) : Met l yX12_fixes (rv_ws yX12_fixes cX12_fixes 8 (some .int)) rm12_fixes (rR_Pc D cI cZ ad [.ref (ad 67), .int a1, .int a2, .int a3] M) (rR_QI D cI cZ ad r M1) 0 0 (rR_A ad) := rR_met hI rfl (rv_cat rfl) (Nat.le_of_ble_eq_true rfl) (fun p e s m args below meth c E => ⟨(rR_qIW D cI cZ ad below args s), rfl, b12_fixes E M a1 a2 a3⟩) h
abbrev rm12_hasTopic : Room := { frames := 1, cells := 0, slots := 0, locals := 21 }
set_option maxRecDepth 100000 in
theorem b12_hasTopic_43 {p : Program} {l : Launch} {e : Env} {s : State} {m : MethodId} {args : Array Value} {below : List Frame} {meth : Method} {c : Code} {D : va_G} {cI cZ : ClassId} {ad : Nat → Nat} (E : rR_E D cI cZ ad cX12_hasTopic 5 (some .boolean) p s m args meth c) (M : rv_Mem) (k5 : Int32 → Int32 → Bool → Int32 → Option (Bool)) (h5 : ∀ (x1 : Int32) (x2 : Int32) (x3 : Bool) (x4 : Int32), rv_M (rR_G D cI cZ ad) (rR_A ad) p l e rm12_hasTopic s m args below meth c 0 0 (rR_qZ D cI cZ ad below args s M) (k5 x1 x2 x3 x4) 5 [some (.ref (ad 67)), some (.int x1), some (.int x2), some (.int (rv_i x3)), some (.int x4)] [] M) : ∀ (x1 : Int32) (x2 : Int32) (x4 : Int32) (s0 : Bool), rv_M (rR_G D cI cZ ad) (rR_A ad) p l e rm12_hasTopic s m args below meth c 0 0 (rR_qZ D cI cZ ad below args s M) (f12_hasTopic_43 M k5 x1 x2 x4 s0) 43 [some (.ref (ad 67)), some (.int x1), some (.int x2), none, some (.int x4)] [.int (rv_i s0)] M := by
  intro x1 x2 x4 s0
  unfold f12_hasTopic_43
  refine rv_istore_n (q := 44) (lv' := [_, _, _, _, _]) E.x dX12_hasTopic_43 (Nat.le_of_ble_eq_true rfl) rfl rfl rfl ?_
  refine rv_iinc (q := 47) (lv' := [_, _, _, _, _]) E.x dX12_hasTopic_44 rv_ki1 rfl rfl rfl rfl ?_
  refine rv_goto (q := 5) E.x dX12_hasTopic_47 (by decide) ?_
  refine rv_wk [true, true, true, true, true] ?_
  exact h5 x1 x2 s0 (x4 + 1)
set_option maxRecDepth 100000 in
theorem b12_hasTopic_38 {p : Program} {l : Launch} {e : Env} {s : State} {m : MethodId} {args : Array Value} {below : List Frame} {meth : Method} {c : Code} {D : va_G} {cI cZ : ClassId} {ad : Nat → Nat} (E : rR_E D cI cZ ad cX12_hasTopic 5 (some .boolean) p s m args meth c) (M : rv_Mem) (k5 : Int32 → Int32 → Bool → Int32 → Option (Bool)) (h5 : ∀ (x1 : Int32) (x2 : Int32) (x3 : Bool) (x4 : Int32), rv_M (rR_G D cI cZ ad) (rR_A ad) p l e rm12_hasTopic s m args below meth c 0 0 (rR_qZ D cI cZ ad below args s M) (k5 x1 x2 x3 x4) 5 [some (.ref (ad 67)), some (.int x1), some (.int x2), some (.int (rv_i x3)), some (.int x4)] [] M) : ∀ (x1 : Int32) (x2 : Int32) (x4 : Int32), rv_M (rR_G D cI cZ ad) (rR_A ad) p l e rm12_hasTopic s m args below meth c 0 0 (rR_qZ D cI cZ ad below args s M) (f12_hasTopic_38 M k5 x1 x2 x4) 38 [some (.ref (ad 67)), some (.int x1), some (.int x2), none, some (.int x4)] [] M := by
  intro x1 x2 x4
  unfold f12_hasTopic_38
  refine rv_iconst (q := 39) E.x dX12_hasTopic_38 rv_ki1 rfl ?_
  refine rv_goto (q := 43) E.x dX12_hasTopic_39 (by decide) ?_
  refine rv_wk [true, true, true, false, true] ?_
  exact b12_hasTopic_43 E M k5 h5 x1 x2 x4 true
set_option maxRecDepth 100000 in
theorem b12_hasTopic_42 {p : Program} {l : Launch} {e : Env} {s : State} {m : MethodId} {args : Array Value} {below : List Frame} {meth : Method} {c : Code} {D : va_G} {cI cZ : ClassId} {ad : Nat → Nat} (E : rR_E D cI cZ ad cX12_hasTopic 5 (some .boolean) p s m args meth c) (M : rv_Mem) (k5 : Int32 → Int32 → Bool → Int32 → Option (Bool)) (h5 : ∀ (x1 : Int32) (x2 : Int32) (x3 : Bool) (x4 : Int32), rv_M (rR_G D cI cZ ad) (rR_A ad) p l e rm12_hasTopic s m args below meth c 0 0 (rR_qZ D cI cZ ad below args s M) (k5 x1 x2 x3 x4) 5 [some (.ref (ad 67)), some (.int x1), some (.int x2), some (.int (rv_i x3)), some (.int x4)] [] M) : ∀ (x1 : Int32) (x2 : Int32) (x4 : Int32), rv_M (rR_G D cI cZ ad) (rR_A ad) p l e rm12_hasTopic s m args below meth c 0 0 (rR_qZ D cI cZ ad below args s M) (f12_hasTopic_42 M k5 x1 x2 x4) 42 [some (.ref (ad 67)), some (.int x1), some (.int x2), none, some (.int x4)] [] M := by
  intro x1 x2 x4
  unfold f12_hasTopic_42
  refine rv_iconst (q := 43) E.x dX12_hasTopic_42 rv_ki0 rfl ?_
  refine rv_wk [true, true, true, false, true] ?_
  exact b12_hasTopic_43 E M k5 h5 x1 x2 x4 false
set_option maxRecDepth 100000 in
theorem b12_hasTopic_5_s {p : Program} {l : Launch} {e : Env} {s : State} {m : MethodId} {args : Array Value} {below : List Frame} {meth : Method} {c : Code} {D : va_G} {cI cZ : ClassId} {ad : Nat → Nat} (E : rR_E D cI cZ ad cX12_hasTopic 5 (some .boolean) p s m args meth c) (M : rv_Mem)   (k5 : Int32 → Int32 → Bool → Int32 → Option (Bool)) (h5 : ∀ (x1 : Int32) (x2 : Int32) (x3 : Bool) (x4 : Int32), rv_M (rR_G D cI cZ ad) (rR_A ad) p l e rm12_hasTopic s m args below meth c 0 0 (rR_qZ D cI cZ ad below args s M) (k5 x1 x2 x3 x4) 5 [some (.ref (ad 67)), some (.int x1), some (.int x2), some (.int (rv_i x3)), some (.int x4)] [] M) : ∀ (x1 : Int32) (x2 : Int32) (x3 : Bool) (x4 : Int32), rv_M (rR_G D cI cZ ad) (rR_A ad) p l e rm12_hasTopic s m args below meth c 0 0 (rR_qZ D cI cZ ad below args s M) (f12_hasTopic_5_s M k5 x1 x2 x3 x4) 5 [some (.ref (ad 67)), some (.int x1), some (.int x2), some (.int (rv_i x3)), some (.int x4)] [] M := by
  intro x1 x2 x3 x4
  unfold f12_hasTopic_5_s
  refine rv_iload (q := 7) E.x dX12_hasTopic_5 rfl rfl ?_
  refine rv_aload_n (q := 8) E.x dX12_hasTopic_7 rfl rfl ?_
  refine rR_get (q := 11) E 11 wf12_11 rfl (Nat.le_of_ble_eq_true rfl) rfl dX12_hasTopic_8 rfl ?_
  refine rv_icmp_ge (q := 14) (tgt := 50) E.x dX12_hasTopic_11 (by decide) rfl ?_ ?_
  · refine rv_iload_n (q := 15) E.x dX12_hasTopic_14 rfl rfl ?_
    refine rv_ifz_ne (q := 18) (tgt := 38) E.x dX12_hasTopic_15 (by decide) rfl ?_ ?_
    · refine rv_iload_n (q := 19) E.x dX12_hasTopic_18 rfl rfl ?_
      refine rv_iload (q := 21) E.x dX12_hasTopic_19 rfl rfl ?_
      refine rv_b1 (fun r2 e1 => ?_)
      refine rR_calls (q := 24) E (c12_isOf e1) gX12_isOf hX12_isOf ⟨rfl, rfl⟩ ⟨Nat.le_of_ble_eq_true rfl, Nat.le_of_ble_eq_true rfl⟩ rfl rfl rfl (Nat.le_of_ble_eq_true rfl) dX12_hasTopic_21 rfl ?_
      refine rv_ifz_eq (q := 27) (tgt := 42) E.x dX12_hasTopic_24 (by decide) rfl ?_ ?_
      · refine rv_aload_n (q := 28) E.x dX12_hasTopic_27 rfl rfl ?_
        refine rR_get (q := 31) E 17 wf12_17 rfl (Nat.le_of_ble_eq_true rfl) rfl dX12_hasTopic_28 rfl ?_
        refine rv_iload (q := 33) E.x dX12_hasTopic_31 rfl rfl ?_
        refine rR_iald (q := 34) (n := 20) E (Nat.le_of_ble_eq_true rfl) rfl rfl dX12_hasTopic_33 rfl ?_
        refine rv_iload_n (q := 35) E.x dX12_hasTopic_34 rfl rfl ?_
        refine rv_icmp_ne (q := 38) (tgt := 42) E.x dX12_hasTopic_35 (by decide) rfl ?_ ?_
        · refine rv_wk [true, true, true, false, true] ?_
          exact b12_hasTopic_38 E M k5 h5 x1 x2 x4
        · refine rv_wk [true, true, true, false, true] ?_
          exact b12_hasTopic_42 E M k5 h5 x1 x2 x4
      · refine rv_wk [true, true, true, false, true] ?_
        exact b12_hasTopic_42 E M k5 h5 x1 x2 x4
    · refine rv_wk [true, true, true, false, true] ?_
      exact b12_hasTopic_38 E M k5 h5 x1 x2 x4
  · refine rv_iload_n (q := 51) E.x dX12_hasTopic_50 rfl rfl ?_
    exact rR_zret E x3 rfl dX12_hasTopic_51
theorem b12_hasTopic_5 {p : Program} {l : Launch} {e : Env} {s : State} {m : MethodId} {args : Array Value} {below : List Frame} {meth : Method} {c : Code} {D : va_G} {cI cZ : ClassId} {ad : Nat → Nat} (E : rR_E D cI cZ ad cX12_hasTopic 5 (some .boolean) p s m args meth c) (M : rv_Mem)   : ∀ (n : Nat), ∀ (x1 : Int32) (x2 : Int32) (x3 : Bool) (x4 : Int32), rv_M (rR_G D cI cZ ad) (rR_A ad) p l e rm12_hasTopic s m args below meth c 0 0 (rR_qZ D cI cZ ad below args s M) (f12_hasTopic_5 M n x1 x2 x3 x4) 5 [some (.ref (ad 67)), some (.int x1), some (.int x2), some (.int (rv_i x3)), some (.int x4)] [] M := by
  intro n
  induction n with
  | zero => exact fun _ _ _ _ => rv_stuck
  | succ n ih => exact b12_hasTopic_5_s E M (f12_hasTopic_5 M n) ih
set_option maxRecDepth 100000 in
theorem b12_hasTopic {p : Program} {l : Launch} {e : Env} {s : State} {m : MethodId} {args : Array Value} {below : List Frame} {meth : Method} {c : Code} {D : va_G} {cI cZ : ClassId} {ad : Nat → Nat} (E : rR_E D cI cZ ad cX12_hasTopic 5 (some .boolean) p s m args meth c) (M : rv_Mem) (a1 : Int32) (a2 : Int32) : rv_M (rR_G D cI cZ ad) (rR_A ad) p l e rm12_hasTopic s m args below meth c 0 0  (rR_qZ D cI cZ ad below args s M) (f12_hasTopic M a1 a2) 0 [some (.ref (ad 67)), some (.int a1), some (.int a2), none, none] [] M := by
  unfold f12_hasTopic
  refine rv_iconst (q := 1) E.x dX12_hasTopic_0 rv_ki0 rfl ?_
  refine rv_istore_n (q := 2) (lv' := [_, _, _, _, _]) E.x dX12_hasTopic_1 (Nat.le_of_ble_eq_true rfl) rfl rfl rfl ?_
  refine rv_iconst (q := 3) E.x dX12_hasTopic_2 rv_ki0 rfl ?_
  refine rv_istore (q := 5) (lv' := [_, _, _, _, _]) E.x dX12_hasTopic_3 (Nat.le_of_ble_eq_true rfl) rfl rfl rfl ?_
  refine rv_wk [true, true, true, true, true] ?_
  exact b12_hasTopic_5 E M rv_FU a1 a2 false 0
theorem c12_hasTopic {l : Launch} {D : va_G} {cI cZ : ClassId} {ad : Nat → Nat} (hI : rR_I ad) {M : rv_Mem} {a1 : Int32} {a2 : Int32} {r : Bool} (h : f12_hasTopic M a1 a2 = some r) : Met l yX12_hasTopic (rv_ws yX12_hasTopic cX12_hasTopic 5 (some .boolean)) rm12_hasTopic (rR_Pc D cI cZ ad [.ref (ad 67), .int a1, .int a2] M) (rR_QI D cI cZ ad (rv_i r) M) 0 0 (rR_A ad) := rR_met hI rfl (rv_cat rfl) (Nat.le_of_ble_eq_true rfl) (fun p e s m args below meth c E => ⟨(rR_qZ D cI cZ ad below args s M), rfl, b12_hasTopic E M a1 a2⟩) h
abbrev rm12_groupOf : Room := { frames := 3, cells := 0, slots := 0, locals := 67 }
set_option maxRecDepth 100000 in
theorem b12_groupOf_118 {p : Program} {l : Launch} {e : Env} {s : State} {m : MethodId} {args : Array Value} {below : List Frame} {meth : Method} {c : Code} {D : va_G} {cI cZ : ClassId} {ad : Nat → Nat} (E : rR_E D cI cZ ad cX12_groupOf 6 (some .int) p s m args meth c) (M : rv_Mem) (k6 : Int32 → Int32 → Option (Int32)) (k16 : Int32 → Int32 → Int32 → Option (Int32)) (h6 : ∀ (x2 : Int32) (x3 : Int32), rv_M (rR_G D cI cZ ad) (rR_A ad) p l e rm12_groupOf s m args below meth c 0 0 (rR_qI D cI cZ ad below args s M) (k6 x2 x3) 6 [some (.ref (ad 67)), none, some (.int x2), some (.int x3), none, none] [] M) (h16 : ∀ (x2 : Int32) (x3 : Int32) (x4 : Int32), rv_M (rR_G D cI cZ ad) (rR_A ad) p l e rm12_groupOf s m args below meth c 0 0 (rR_qI D cI cZ ad below args s M) (k16 x2 x3 x4) 16 [some (.ref (ad 67)), none, some (.int x2), some (.int x3), some (.int x4), none] [] M) : ∀ (x3 : Int32) (x4 : Int32) (s0 : Int32) (s1 : Int32), rv_M (rR_G D cI cZ ad) (rR_A ad) p l e rm12_groupOf s m args below meth c 0 0 (rR_qI D cI cZ ad below args s M) (f12_groupOf_118 M k6 k16 x3 x4 s0 s1) 118 [some (.ref (ad 67)), none, none, some (.int x3), some (.int x4), none] [.int s1, .int s0] M := by
  intro x3 x4 s0 s1
  unfold f12_groupOf_118
  refine rv_ior (q := 119) E.x dX12_groupOf_118 rfl ?_
  refine rv_istore_n (q := 120) (lv' := [_, _, _, _, _, _]) E.x dX12_groupOf_119 (Nat.le_of_ble_eq_true rfl) rfl rfl rfl ?_
  refine rv_iinc (q := 123) (lv' := [_, _, _, _, _, _]) E.x dX12_groupOf_120 rv_ki1 rfl rfl rfl rfl ?_
  refine rv_goto (q := 16) E.x dX12_groupOf_123 (by decide) ?_
  refine rv_wk [true, false, true, true, true, false] ?_
  exact h16 (s0 ||| s1) x3 (x4 + 1)
set_option maxRecDepth 100000 in
theorem b12_groupOf_117 {p : Program} {l : Launch} {e : Env} {s : State} {m : MethodId} {args : Array Value} {below : List Frame} {meth : Method} {c : Code} {D : va_G} {cI cZ : ClassId} {ad : Nat → Nat} (E : rR_E D cI cZ ad cX12_groupOf 6 (some .int) p s m args meth c) (M : rv_Mem) (k6 : Int32 → Int32 → Option (Int32)) (k16 : Int32 → Int32 → Int32 → Option (Int32)) (h6 : ∀ (x2 : Int32) (x3 : Int32), rv_M (rR_G D cI cZ ad) (rR_A ad) p l e rm12_groupOf s m args below meth c 0 0 (rR_qI D cI cZ ad below args s M) (k6 x2 x3) 6 [some (.ref (ad 67)), none, some (.int x2), some (.int x3), none, none] [] M) (h16 : ∀ (x2 : Int32) (x3 : Int32) (x4 : Int32), rv_M (rR_G D cI cZ ad) (rR_A ad) p l e rm12_groupOf s m args below meth c 0 0 (rR_qI D cI cZ ad below args s M) (k16 x2 x3 x4) 16 [some (.ref (ad 67)), none, some (.int x2), some (.int x3), some (.int x4), none] [] M) : ∀ (x3 : Int32) (x4 : Int32) (s0 : Int32), rv_M (rR_G D cI cZ ad) (rR_A ad) p l e rm12_groupOf s m args below meth c 0 0 (rR_qI D cI cZ ad below args s M) (f12_groupOf_117 M k6 k16 x3 x4 s0) 117 [some (.ref (ad 67)), none, none, some (.int x3), some (.int x4), none] [.int s0] M := by
  intro x3 x4 s0
  unfold f12_groupOf_117
  refine rv_iconst (q := 118) E.x dX12_groupOf_117 rv_ki0 rfl ?_
  refine rv_wk [true, false, false, true, true, false] ?_
  exact b12_groupOf_118 E M k6 k16 h6 h16 x3 x4 s0 0
set_option maxRecDepth 100000 in
theorem b12_groupOf_71 {p : Program} {l : Launch} {e : Env} {s : State} {m : MethodId} {args : Array Value} {below : List Frame} {meth : Method} {c : Code} {D : va_G} {cI cZ : ClassId} {ad : Nat → Nat} (E : rR_E D cI cZ ad cX12_groupOf 6 (some .int) p s m args meth c) (M : rv_Mem) (k6 : Int32 → Int32 → Option (Int32)) (k16 : Int32 → Int32 → Int32 → Option (Int32)) (h6 : ∀ (x2 : Int32) (x3 : Int32), rv_M (rR_G D cI cZ ad) (rR_A ad) p l e rm12_groupOf s m args below meth c 0 0 (rR_qI D cI cZ ad below args s M) (k6 x2 x3) 6 [some (.ref (ad 67)), none, some (.int x2), some (.int x3), none, none] [] M) (h16 : ∀ (x2 : Int32) (x3 : Int32) (x4 : Int32), rv_M (rR_G D cI cZ ad) (rR_A ad) p l e rm12_groupOf s m args below meth c 0 0 (rR_qI D cI cZ ad below args s M) (k16 x2 x3 x4) 16 [some (.ref (ad 67)), none, some (.int x2), some (.int x3), some (.int x4), none] [] M) : ∀ (x3 : Int32) (x4 : Int32) (s0 : Int32) (s1 : Int32), rv_M (rR_G D cI cZ ad) (rR_A ad) p l e rm12_groupOf s m args below meth c 0 0 (rR_qI D cI cZ ad below args s M) (f12_groupOf_71 M k6 k16 x3 x4 s0 s1) 71 [some (.ref (ad 67)), none, none, some (.int x3), some (.int x4), none] [.int s1, .int s0] M := by
  intro x3 x4 s0 s1
  unfold f12_groupOf_71
  refine rv_ior (q := 72) E.x dX12_groupOf_71 rfl ?_
  refine rv_istore_n (q := 73) (lv' := [_, _, _, _, _, _]) E.x dX12_groupOf_72 (Nat.le_of_ble_eq_true rfl) rfl rfl rfl ?_
  refine rv_iload_n (q := 74) E.x dX12_groupOf_73 rfl rfl ?_
  refine rv_aload_n (q := 75) E.x dX12_groupOf_74 rfl rfl ?_
  refine rR_get (q := 78) E 13 wf12_13 rfl (Nat.le_of_ble_eq_true rfl) rfl dX12_groupOf_75 rfl ?_
  refine rv_iload (q := 80) E.x dX12_groupOf_78 rfl rfl ?_
  refine rR_iald (q := 81) (n := 20) E (Nat.le_of_ble_eq_true rfl) rfl rfl dX12_groupOf_80 rfl ?_
  refine rv_if_ne (q := 84) (tgt := 117) E.x dX12_groupOf_81 (by decide) rfl ?_ ?_
  · refine rv_aload_n (q := 85) E.x dX12_groupOf_84 rfl rfl ?_
    refine rR_get (q := 88) E 17 wf12_17 rfl (Nat.le_of_ble_eq_true rfl) rfl dX12_groupOf_85 rfl ?_
    refine rv_iload (q := 90) E.x dX12_groupOf_88 rfl rfl ?_
    refine rR_iald (q := 91) (n := 20) E (Nat.le_of_ble_eq_true rfl) rfl rfl dX12_groupOf_90 rfl ?_
    refine rv_iconst (q := 92) E.x dX12_groupOf_91 rv_kim1 rfl ?_
    refine rv_icmp_eq (q := 95) (tgt := 117) E.x dX12_groupOf_92 (by decide) rfl ?_ ?_
    · refine rv_aload_n (q := 96) E.x dX12_groupOf_95 rfl rfl ?_
      refine rv_iload_n (q := 97) E.x dX12_groupOf_96 rfl rfl ?_
      refine rv_aload_n (q := 98) E.x dX12_groupOf_97 rfl rfl ?_
      refine rR_get (q := 101) E 17 wf12_17 rfl (Nat.le_of_ble_eq_true rfl) rfl dX12_groupOf_98 rfl ?_
      refine rv_iload (q := 103) E.x dX12_groupOf_101 rfl rfl ?_
      refine rR_iald (q := 104) (n := 20) E (Nat.le_of_ble_eq_true rfl) rfl rfl dX12_groupOf_103 rfl ?_
      refine rv_b1 (fun r2 e1 => ?_)
      refine rR_calli (q := 107) E (c12_hasTopic E.2.2.1 e1) gX12_hasTopic hX12_hasTopic ⟨rfl, rfl⟩ ⟨Nat.le_of_ble_eq_true rfl, Nat.le_of_ble_eq_true rfl⟩ rfl rfl rfl (Nat.le_of_ble_eq_true rfl) dX12_groupOf_104 rfl ?_
      refine rv_ifz_eq (q := 110) (tgt := 117) E.x dX12_groupOf_107 (by decide) rfl ?_ ?_
      · refine rv_iconst (q := 111) E.x dX12_groupOf_110 rv_ki1 rfl ?_
        refine rv_iload (q := 113) E.x dX12_groupOf_111 rfl rfl ?_
        refine rv_ishl (q := 114) E.x dX12_groupOf_113 rfl ?_
        refine rv_goto (q := 118) E.x dX12_groupOf_114 (by decide) ?_
        refine rv_wk [true, false, false, true, true, false] ?_
        exact b12_groupOf_118 E M k6 k16 h6 h16 x3 x4 (s0 ||| s1) (1 <<< (x4 &&& 31))
      · refine rv_wk [true, false, false, true, true, false] ?_
        exact b12_groupOf_117 E M k6 k16 h6 h16 x3 x4 (s0 ||| s1)
    · refine rv_wk [true, false, false, true, true, false] ?_
      exact b12_groupOf_117 E M k6 k16 h6 h16 x3 x4 (s0 ||| s1)
  · refine rv_wk [true, false, false, true, true, false] ?_
    exact b12_groupOf_117 E M k6 k16 h6 h16 x3 x4 (s0 ||| s1)
set_option maxRecDepth 100000 in
theorem b12_groupOf_70 {p : Program} {l : Launch} {e : Env} {s : State} {m : MethodId} {args : Array Value} {below : List Frame} {meth : Method} {c : Code} {D : va_G} {cI cZ : ClassId} {ad : Nat → Nat} (E : rR_E D cI cZ ad cX12_groupOf 6 (some .int) p s m args meth c) (M : rv_Mem) (k6 : Int32 → Int32 → Option (Int32)) (k16 : Int32 → Int32 → Int32 → Option (Int32)) (h6 : ∀ (x2 : Int32) (x3 : Int32), rv_M (rR_G D cI cZ ad) (rR_A ad) p l e rm12_groupOf s m args below meth c 0 0 (rR_qI D cI cZ ad below args s M) (k6 x2 x3) 6 [some (.ref (ad 67)), none, some (.int x2), some (.int x3), none, none] [] M) (h16 : ∀ (x2 : Int32) (x3 : Int32) (x4 : Int32), rv_M (rR_G D cI cZ ad) (rR_A ad) p l e rm12_groupOf s m args below meth c 0 0 (rR_qI D cI cZ ad below args s M) (k16 x2 x3 x4) 16 [some (.ref (ad 67)), none, some (.int x2), some (.int x3), some (.int x4), none] [] M) : ∀ (x3 : Int32) (x4 : Int32) (s0 : Int32), rv_M (rR_G D cI cZ ad) (rR_A ad) p l e rm12_groupOf s m args below meth c 0 0 (rR_qI D cI cZ ad below args s M) (f12_groupOf_70 M k6 k16 x3 x4 s0) 70 [some (.ref (ad 67)), none, none, some (.int x3), some (.int x4), none] [.int s0] M := by
  intro x3 x4 s0
  unfold f12_groupOf_70
  refine rv_iconst (q := 71) E.x dX12_groupOf_70 rv_ki0 rfl ?_
  refine rv_wk [true, false, false, true, true, false] ?_
  exact b12_groupOf_71 E M k6 k16 h6 h16 x3 x4 s0 0
set_option maxRecDepth 100000 in
theorem b12_groupOf_44 {p : Program} {l : Launch} {e : Env} {s : State} {m : MethodId} {args : Array Value} {below : List Frame} {meth : Method} {c : Code} {D : va_G} {cI cZ : ClassId} {ad : Nat → Nat} (E : rR_E D cI cZ ad cX12_groupOf 6 (some .int) p s m args meth c) (M : rv_Mem) (k6 : Int32 → Int32 → Option (Int32)) (k16 : Int32 → Int32 → Int32 → Option (Int32)) (h6 : ∀ (x2 : Int32) (x3 : Int32), rv_M (rR_G D cI cZ ad) (rR_A ad) p l e rm12_groupOf s m args below meth c 0 0 (rR_qI D cI cZ ad below args s M) (k6 x2 x3) 6 [some (.ref (ad 67)), none, some (.int x2), some (.int x3), none, none] [] M) (h16 : ∀ (x2 : Int32) (x3 : Int32) (x4 : Int32), rv_M (rR_G D cI cZ ad) (rR_A ad) p l e rm12_groupOf s m args below meth c 0 0 (rR_qI D cI cZ ad below args s M) (k16 x2 x3 x4) 16 [some (.ref (ad 67)), none, some (.int x2), some (.int x3), some (.int x4), none] [] M) : ∀ (x2 : Int32) (x3 : Int32) (x4 : Int32) (s0 : Int32), rv_M (rR_G D cI cZ ad) (rR_A ad) p l e rm12_groupOf s m args below meth c 0 0 (rR_qI D cI cZ ad below args s M) (f12_groupOf_44 M k6 k16 x2 x3 x4 s0) 44 [some (.ref (ad 67)), none, some (.int x2), some (.int x3), some (.int x4), none] [.int s0] M := by
  intro x2 x3 x4 s0
  unfold f12_groupOf_44
  refine rv_istore (q := 46) (lv' := [_, _, _, _, _, _]) E.x dX12_groupOf_44 (Nat.le_of_ble_eq_true rfl) rfl rfl rfl ?_
  refine rv_iload_n (q := 47) E.x dX12_groupOf_46 rfl rfl ?_
  refine rv_iload (q := 49) E.x dX12_groupOf_47 rfl rfl ?_
  refine rv_iconst (q := 50) E.x dX12_groupOf_49 rv_kim1 rfl ?_
  refine rv_icmp_eq (q := 53) (tgt := 70) E.x dX12_groupOf_50 (by decide) rfl ?_ ?_
  · refine rv_aload_n (q := 54) E.x dX12_groupOf_53 rfl rfl ?_
    refine rR_get (q := 57) E 13 wf12_13 rfl (Nat.le_of_ble_eq_true rfl) rfl dX12_groupOf_54 rfl ?_
    refine rv_iload (q := 59) E.x dX12_groupOf_57 rfl rfl ?_
    refine rR_iald (q := 60) (n := 20) E (Nat.le_of_ble_eq_true rfl) rfl rfl dX12_groupOf_59 rfl ?_
    refine rv_if_ne (q := 63) (tgt := 70) E.x dX12_groupOf_60 (by decide) rfl ?_ ?_
    · refine rv_iconst (q := 64) E.x dX12_groupOf_63 rv_ki1 rfl ?_
      refine rv_iload (q := 66) E.x dX12_groupOf_64 rfl rfl ?_
      refine rv_ishl (q := 67) E.x dX12_groupOf_66 rfl ?_
      refine rv_goto (q := 71) E.x dX12_groupOf_67 (by decide) ?_
      refine rv_wk [true, false, false, true, true, false] ?_
      exact b12_groupOf_71 E M k6 k16 h6 h16 x3 x4 x2 (1 <<< (s0 &&& 31))
    · refine rv_wk [true, false, false, true, true, false] ?_
      exact b12_groupOf_70 E M k6 k16 h6 h16 x3 x4 x2
  · refine rv_wk [true, false, false, true, true, false] ?_
    exact b12_groupOf_70 E M k6 k16 h6 h16 x3 x4 x2
set_option maxRecDepth 100000 in
theorem b12_groupOf_16_s {p : Program} {l : Launch} {e : Env} {s : State} {m : MethodId} {args : Array Value} {below : List Frame} {meth : Method} {c : Code} {D : va_G} {cI cZ : ClassId} {ad : Nat → Nat} (E : rR_E D cI cZ ad cX12_groupOf 6 (some .int) p s m args meth c) (M : rv_Mem) (k6 : Int32 → Int32 → Option (Int32)) (h6 : ∀ (x2 : Int32) (x3 : Int32), rv_M (rR_G D cI cZ ad) (rR_A ad) p l e rm12_groupOf s m args below meth c 0 0 (rR_qI D cI cZ ad below args s M) (k6 x2 x3) 6 [some (.ref (ad 67)), none, some (.int x2), some (.int x3), none, none] [] M) (k16 : Int32 → Int32 → Int32 → Option (Int32)) (h16 : ∀ (x2 : Int32) (x3 : Int32) (x4 : Int32), rv_M (rR_G D cI cZ ad) (rR_A ad) p l e rm12_groupOf s m args below meth c 0 0 (rR_qI D cI cZ ad below args s M) (k16 x2 x3 x4) 16 [some (.ref (ad 67)), none, some (.int x2), some (.int x3), some (.int x4), none] [] M) : ∀ (x2 : Int32) (x3 : Int32) (x4 : Int32), rv_M (rR_G D cI cZ ad) (rR_A ad) p l e rm12_groupOf s m args below meth c 0 0 (rR_qI D cI cZ ad below args s M) (f12_groupOf_16_s M k6 k16 x2 x3 x4) 16 [some (.ref (ad 67)), none, some (.int x2), some (.int x3), some (.int x4), none] [] M := by
  intro x2 x3 x4
  unfold f12_groupOf_16_s
  refine rv_iload (q := 18) E.x dX12_groupOf_16 rfl rfl ?_
  refine rv_aload_n (q := 19) E.x dX12_groupOf_18 rfl rfl ?_
  refine rR_get (q := 22) E 11 wf12_11 rfl (Nat.le_of_ble_eq_true rfl) rfl dX12_groupOf_19 rfl ?_
  refine rv_icmp_ge (q := 25) (tgt := 126) E.x dX12_groupOf_22 (by decide) rfl ?_ ?_
  · refine rv_iload_n (q := 26) E.x dX12_groupOf_25 rfl rfl ?_
    refine rv_iload (q := 28) E.x dX12_groupOf_26 rfl rfl ?_
    refine rv_b1 (fun r2 e1 => ?_)
    refine rR_calls (q := 31) E (c12_isOf e1) gX12_isOf hX12_isOf ⟨rfl, rfl⟩ ⟨Nat.le_of_ble_eq_true rfl, Nat.le_of_ble_eq_true rfl⟩ rfl rfl rfl (Nat.le_of_ble_eq_true rfl) dX12_groupOf_28 rfl ?_
    refine rv_ifz_eq (q := 34) (tgt := 43) E.x dX12_groupOf_31 (by decide) rfl ?_ ?_
    · refine rv_aload_n (q := 35) E.x dX12_groupOf_34 rfl rfl ?_
      refine rv_iload (q := 37) E.x dX12_groupOf_35 rfl rfl ?_
      refine rv_b1 (fun r4 e3 => ?_)
      refine rR_calli (q := 40) E (c12_parent E.2.2.1 e3) gX12_parent hX12_parent ⟨rfl, rfl⟩ ⟨Nat.le_of_ble_eq_true rfl, Nat.le_of_ble_eq_true rfl⟩ rfl rfl rfl (Nat.le_of_ble_eq_true rfl) dX12_groupOf_37 rfl ?_
      refine rv_goto (q := 44) E.x dX12_groupOf_40 (by decide) ?_
      refine rv_wk [true, false, true, true, true, false] ?_
      exact b12_groupOf_44 E M k6 k16 h6 h16 x2 x3 x4 r4
    · refine rv_iconst (q := 44) E.x dX12_groupOf_43 rv_kim1 rfl ?_
      refine rv_wk [true, false, true, true, true, false] ?_
      exact b12_groupOf_44 E M k6 k16 h6 h16 x2 x3 x4 (-1)
  · refine rv_goto (q := 6) E.x dX12_groupOf_126 (by decide) ?_
    refine rv_wk [true, false, true, true, false, false] ?_
    exact h6 x2 x3
theorem b12_groupOf_16 {p : Program} {l : Launch} {e : Env} {s : State} {m : MethodId} {args : Array Value} {below : List Frame} {meth : Method} {c : Code} {D : va_G} {cI cZ : ClassId} {ad : Nat → Nat} (E : rR_E D cI cZ ad cX12_groupOf 6 (some .int) p s m args meth c) (M : rv_Mem) (k6 : Int32 → Int32 → Option (Int32)) (h6 : ∀ (x2 : Int32) (x3 : Int32), rv_M (rR_G D cI cZ ad) (rR_A ad) p l e rm12_groupOf s m args below meth c 0 0 (rR_qI D cI cZ ad below args s M) (k6 x2 x3) 6 [some (.ref (ad 67)), none, some (.int x2), some (.int x3), none, none] [] M) : ∀ (n : Nat), ∀ (x2 : Int32) (x3 : Int32) (x4 : Int32), rv_M (rR_G D cI cZ ad) (rR_A ad) p l e rm12_groupOf s m args below meth c 0 0 (rR_qI D cI cZ ad below args s M) (f12_groupOf_16 M k6 n x2 x3 x4) 16 [some (.ref (ad 67)), none, some (.int x2), some (.int x3), some (.int x4), none] [] M := by
  intro n
  induction n with
  | zero => exact fun _ _ _ => rv_stuck
  | succ n ih => exact b12_groupOf_16_s E M k6 h6 (f12_groupOf_16 M k6 n) ih
set_option maxRecDepth 100000 in
theorem b12_groupOf_6_s {p : Program} {l : Launch} {e : Env} {s : State} {m : MethodId} {args : Array Value} {below : List Frame} {meth : Method} {c : Code} {D : va_G} {cI cZ : ClassId} {ad : Nat → Nat} (E : rR_E D cI cZ ad cX12_groupOf 6 (some .int) p s m args meth c) (M : rv_Mem)   (k6 : Int32 → Int32 → Option (Int32)) (h6 : ∀ (x2 : Int32) (x3 : Int32), rv_M (rR_G D cI cZ ad) (rR_A ad) p l e rm12_groupOf s m args below meth c 0 0 (rR_qI D cI cZ ad below args s M) (k6 x2 x3) 6 [some (.ref (ad 67)), none, some (.int x2), some (.int x3), none, none] [] M) : ∀ (x2 : Int32) (x3 : Int32), rv_M (rR_G D cI cZ ad) (rR_A ad) p l e rm12_groupOf s m args below meth c 0 0 (rR_qI D cI cZ ad below args s M) (f12_groupOf_6_s M k6 x2 x3) 6 [some (.ref (ad 67)), none, some (.int x2), some (.int x3), none, none] [] M := by
  intro x2 x3
  unfold f12_groupOf_6_s
  refine rv_iload_n (q := 7) E.x dX12_groupOf_6 rfl rfl ?_
  refine rv_iload_n (q := 8) E.x dX12_groupOf_7 rfl rfl ?_
  refine rv_icmp_eq (q := 11) (tgt := 129) E.x dX12_groupOf_8 (by decide) rfl ?_ ?_
  · refine rv_iload_n (q := 12) E.x dX12_groupOf_11 rfl rfl ?_
    refine rv_istore_n (q := 13) (lv' := [_, _, _, _, _, _]) E.x dX12_groupOf_12 (Nat.le_of_ble_eq_true rfl) rfl rfl rfl ?_
    refine rv_iconst (q := 14) E.x dX12_groupOf_13 rv_ki0 rfl ?_
    refine rv_istore (q := 16) (lv' := [_, _, _, _, _, _]) E.x dX12_groupOf_14 (Nat.le_of_ble_eq_true rfl) rfl rfl rfl ?_
    refine rv_wk [true, false, true, true, true, false] ?_
    exact b12_groupOf_16 E M k6 h6 rv_FU x2 x2 0
  · refine rv_iload_n (q := 130) E.x dX12_groupOf_129 rfl rfl ?_
    exact rR_iret E rfl dX12_groupOf_130
theorem b12_groupOf_6 {p : Program} {l : Launch} {e : Env} {s : State} {m : MethodId} {args : Array Value} {below : List Frame} {meth : Method} {c : Code} {D : va_G} {cI cZ : ClassId} {ad : Nat → Nat} (E : rR_E D cI cZ ad cX12_groupOf 6 (some .int) p s m args meth c) (M : rv_Mem)   : ∀ (n : Nat), ∀ (x2 : Int32) (x3 : Int32), rv_M (rR_G D cI cZ ad) (rR_A ad) p l e rm12_groupOf s m args below meth c 0 0 (rR_qI D cI cZ ad below args s M) (f12_groupOf_6 M n x2 x3) 6 [some (.ref (ad 67)), none, some (.int x2), some (.int x3), none, none] [] M := by
  intro n
  induction n with
  | zero => exact fun _ _ => rv_stuck
  | succ n ih => exact b12_groupOf_6_s E M (f12_groupOf_6 M n) ih
set_option maxRecDepth 100000 in
theorem b12_groupOf {p : Program} {l : Launch} {e : Env} {s : State} {m : MethodId} {args : Array Value} {below : List Frame} {meth : Method} {c : Code} {D : va_G} {cI cZ : ClassId} {ad : Nat → Nat} (E : rR_E D cI cZ ad cX12_groupOf 6 (some .int) p s m args meth c) (M : rv_Mem) (a1 : Int32) : rv_M (rR_G D cI cZ ad) (rR_A ad) p l e rm12_groupOf s m args below meth c 0 0  (rR_qI D cI cZ ad below args s M) (f12_groupOf M a1) 0 [some (.ref (ad 67)), some (.int a1), none, none, none, none] [] M := by
  unfold f12_groupOf
  refine rv_iconst (q := 1) E.x dX12_groupOf_0 rv_ki1 rfl ?_
  refine rv_iload_n (q := 2) E.x dX12_groupOf_1 rfl rfl ?_
  refine rv_ishl (q := 3) E.x dX12_groupOf_2 rfl ?_
  refine rv_istore_n (q := 4) (lv' := [_, _, _, _, _, _]) E.x dX12_groupOf_3 (Nat.le_of_ble_eq_true rfl) rfl rfl rfl ?_
  refine rv_iconst (q := 5) E.x dX12_groupOf_4 rv_ki0 rfl ?_
  refine rv_istore_n (q := 6) (lv' := [_, _, _, _, _, _]) E.x dX12_groupOf_5 (Nat.le_of_ble_eq_true rfl) rfl rfl rfl ?_
  refine rv_wk [true, false, true, true, false, false] ?_
  exact b12_groupOf_6 E M rv_FU (1 <<< (a1 &&& 31)) 0
theorem c12_groupOf {l : Launch} {D : va_G} {cI cZ : ClassId} {ad : Nat → Nat} (hI : rR_I ad) {M : rv_Mem} {a1 : Int32} {r : Int32} (h : f12_groupOf M a1 = some r) : Met l yX12_groupOf (rv_ws yX12_groupOf cX12_groupOf 6 (some .int)) rm12_groupOf (rR_Pc D cI cZ ad [.ref (ad 67), .int a1] M) (rR_QI D cI cZ ad r M) 0 0 (rR_A ad) := rR_met hI rfl (rv_cat rfl) (Nat.le_of_ble_eq_true rfl) (fun p e s m args below meth c E => ⟨(rR_qI D cI cZ ad below args s M), rfl, b12_groupOf E M a1⟩) h
abbrev rm12_nextOf : Room := { frames := 3, cells := 0, slots := 0, locals := 67 }
set_option maxRecDepth 100000 in
theorem b12_nextOf_59 {p : Program} {l : Launch} {e : Env} {s : State} {m : MethodId} {args : Array Value} {below : List Frame} {meth : Method} {c : Code} {D : va_G} {cI cZ : ClassId} {ad : Nat → Nat} (E : rR_E D cI cZ ad cX12_nextOf 5 (some .int) p s m args meth c) (M : rv_Mem) (k9 : Int32 → Int32 → Int32 → Option (Int32)) (h9 : ∀ (x1 : Int32) (x2 : Int32) (x3 : Int32), rv_M (rR_G D cI cZ ad) (rR_A ad) p l e rm12_nextOf s m args below meth c 0 0 (rR_qI D cI cZ ad below args s M) (k9 x1 x2 x3) 9 [some (.ref (ad 67)), some (.int x1), some (.int x2), some (.int x3), none] [] M) : ∀ (x1 : Int32) (x3 : Int32) (s0 : Int32), rv_M (rR_G D cI cZ ad) (rR_A ad) p l e rm12_nextOf s m args below meth c 0 0 (rR_qI D cI cZ ad below args s M) (f12_nextOf_59 M k9 x1 x3 s0) 59 [some (.ref (ad 67)), some (.int x1), none, some (.int x3), none] [.int s0] M := by
  intro x1 x3 s0
  unfold f12_nextOf_59
  refine rv_istore_n (q := 60) (lv' := [_, _, _, _, _]) E.x dX12_nextOf_59 (Nat.le_of_ble_eq_true rfl) rfl rfl rfl ?_
  refine rv_iinc (q := 63) (lv' := [_, _, _, _, _]) E.x dX12_nextOf_60 rv_kim1 rfl rfl rfl rfl ?_
  refine rv_goto (q := 9) E.x dX12_nextOf_63 (by decide) ?_
  refine rv_wk [true, true, true, true, false] ?_
  exact h9 x1 s0 (x3 + (-1))
set_option maxRecDepth 100000 in
theorem b12_nextOf_47 {p : Program} {l : Launch} {e : Env} {s : State} {m : MethodId} {args : Array Value} {below : List Frame} {meth : Method} {c : Code} {D : va_G} {cI cZ : ClassId} {ad : Nat → Nat} (E : rR_E D cI cZ ad cX12_nextOf 5 (some .int) p s m args meth c) (M : rv_Mem) (k9 : Int32 → Int32 → Int32 → Option (Int32)) (h9 : ∀ (x1 : Int32) (x2 : Int32) (x3 : Int32), rv_M (rR_G D cI cZ ad) (rR_A ad) p l e rm12_nextOf s m args below meth c 0 0 (rR_qI D cI cZ ad below args s M) (k9 x1 x2 x3) 9 [some (.ref (ad 67)), some (.int x1), some (.int x2), some (.int x3), none] [] M) : ∀ (x1 : Int32) (x2 : Int32) (x3 : Int32) (s0 : Bool), rv_M (rR_G D cI cZ ad) (rR_A ad) p l e rm12_nextOf s m args below meth c 0 0 (rR_qI D cI cZ ad below args s M) (f12_nextOf_47 M k9 x1 x2 x3 s0) 47 [some (.ref (ad 67)), some (.int x1), some (.int x2), some (.int x3), none] [.int (rv_i s0)] M := by
  intro x1 x2 x3 s0
  unfold f12_nextOf_47
  refine rv_istore (q := 49) (lv' := [_, _, _, _, _]) E.x dX12_nextOf_47 (Nat.le_of_ble_eq_true rfl) rfl rfl rfl ?_
  refine rv_iload (q := 51) E.x dX12_nextOf_49 rfl rfl ?_
  refine rv_ifz_eq (q := 54) (tgt := 58) E.x dX12_nextOf_51 (by decide) rfl ?_ ?_
  · refine rv_iload_n (q := 55) E.x dX12_nextOf_54 rfl rfl ?_
    refine rv_goto (q := 59) E.x dX12_nextOf_55 (by decide) ?_
    refine rv_wk [true, true, false, true, false] ?_
    exact b12_nextOf_59 E M k9 h9 x1 x3 x3
  · refine rv_iload_n (q := 59) E.x dX12_nextOf_58 rfl rfl ?_
    refine rv_wk [true, true, false, true, false] ?_
    exact b12_nextOf_59 E M k9 h9 x1 x3 x2
set_option maxRecDepth 100000 in
theorem b12_nextOf_42 {p : Program} {l : Launch} {e : Env} {s : State} {m : MethodId} {args : Array Value} {below : List Frame} {meth : Method} {c : Code} {D : va_G} {cI cZ : ClassId} {ad : Nat → Nat} (E : rR_E D cI cZ ad cX12_nextOf 5 (some .int) p s m args meth c) (M : rv_Mem) (k9 : Int32 → Int32 → Int32 → Option (Int32)) (h9 : ∀ (x1 : Int32) (x2 : Int32) (x3 : Int32), rv_M (rR_G D cI cZ ad) (rR_A ad) p l e rm12_nextOf s m args below meth c 0 0 (rR_qI D cI cZ ad below args s M) (k9 x1 x2 x3) 9 [some (.ref (ad 67)), some (.int x1), some (.int x2), some (.int x3), none] [] M) : ∀ (x1 : Int32) (x2 : Int32) (x3 : Int32), rv_M (rR_G D cI cZ ad) (rR_A ad) p l e rm12_nextOf s m args below meth c 0 0 (rR_qI D cI cZ ad below args s M) (f12_nextOf_42 M k9 x1 x2 x3) 42 [some (.ref (ad 67)), some (.int x1), some (.int x2), some (.int x3), none] [] M := by
  intro x1 x2 x3
  unfold f12_nextOf_42
  refine rv_iconst (q := 43) E.x dX12_nextOf_42 rv_ki1 rfl ?_
  refine rv_goto (q := 47) E.x dX12_nextOf_43 (by decide) ?_
  refine rv_wk [true, true, true, true, false] ?_
  exact b12_nextOf_47 E M k9 h9 x1 x2 x3 true
set_option maxRecDepth 100000 in
theorem b12_nextOf_46 {p : Program} {l : Launch} {e : Env} {s : State} {m : MethodId} {args : Array Value} {below : List Frame} {meth : Method} {c : Code} {D : va_G} {cI cZ : ClassId} {ad : Nat → Nat} (E : rR_E D cI cZ ad cX12_nextOf 5 (some .int) p s m args meth c) (M : rv_Mem) (k9 : Int32 → Int32 → Int32 → Option (Int32)) (h9 : ∀ (x1 : Int32) (x2 : Int32) (x3 : Int32), rv_M (rR_G D cI cZ ad) (rR_A ad) p l e rm12_nextOf s m args below meth c 0 0 (rR_qI D cI cZ ad below args s M) (k9 x1 x2 x3) 9 [some (.ref (ad 67)), some (.int x1), some (.int x2), some (.int x3), none] [] M) : ∀ (x1 : Int32) (x2 : Int32) (x3 : Int32), rv_M (rR_G D cI cZ ad) (rR_A ad) p l e rm12_nextOf s m args below meth c 0 0 (rR_qI D cI cZ ad below args s M) (f12_nextOf_46 M k9 x1 x2 x3) 46 [some (.ref (ad 67)), some (.int x1), some (.int x2), some (.int x3), none] [] M := by
  intro x1 x2 x3
  unfold f12_nextOf_46
  refine rv_iconst (q := 47) E.x dX12_nextOf_46 rv_ki0 rfl ?_
  refine rv_wk [true, true, true, true, false] ?_
  exact b12_nextOf_47 E M k9 h9 x1 x2 x3 false
set_option maxRecDepth 100000 in
theorem b12_nextOf_9_s {p : Program} {l : Launch} {e : Env} {s : State} {m : MethodId} {args : Array Value} {below : List Frame} {meth : Method} {c : Code} {D : va_G} {cI cZ : ClassId} {ad : Nat → Nat} (E : rR_E D cI cZ ad cX12_nextOf 5 (some .int) p s m args meth c) (M : rv_Mem)   (k9 : Int32 → Int32 → Int32 → Option (Int32)) (h9 : ∀ (x1 : Int32) (x2 : Int32) (x3 : Int32), rv_M (rR_G D cI cZ ad) (rR_A ad) p l e rm12_nextOf s m args below meth c 0 0 (rR_qI D cI cZ ad below args s M) (k9 x1 x2 x3) 9 [some (.ref (ad 67)), some (.int x1), some (.int x2), some (.int x3), none] [] M) : ∀ (x1 : Int32) (x2 : Int32) (x3 : Int32), rv_M (rR_G D cI cZ ad) (rR_A ad) p l e rm12_nextOf s m args below meth c 0 0 (rR_qI D cI cZ ad below args s M) (f12_nextOf_9_s M k9 x1 x2 x3) 9 [some (.ref (ad 67)), some (.int x1), some (.int x2), some (.int x3), none] [] M := by
  intro x1 x2 x3
  unfold f12_nextOf_9_s
  refine rv_iload_n (q := 10) E.x dX12_nextOf_9 rfl rfl ?_
  refine rv_if_lt (q := 13) (tgt := 66) E.x dX12_nextOf_10 (by decide) rfl ?_ ?_
  · refine rv_iload_n (q := 14) E.x dX12_nextOf_13 rfl rfl ?_
    refine rv_iload_n (q := 15) E.x dX12_nextOf_14 rfl rfl ?_
    refine rv_b1 (fun r2 e1 => ?_)
    refine rR_calls (q := 18) E (c12_isOf e1) gX12_isOf hX12_isOf ⟨rfl, rfl⟩ ⟨Nat.le_of_ble_eq_true rfl, Nat.le_of_ble_eq_true rfl⟩ rfl rfl rfl (Nat.le_of_ble_eq_true rfl) dX12_nextOf_15 rfl ?_
    refine rv_ifz_eq (q := 21) (tgt := 46) E.x dX12_nextOf_18 (by decide) rfl ?_ ?_
    · refine rv_aload_n (q := 22) E.x dX12_nextOf_21 rfl rfl ?_
      refine rv_iload_n (q := 23) E.x dX12_nextOf_22 rfl rfl ?_
      refine rv_b1 (fun r4 e3 => ?_)
      refine rR_calli (q := 26) E (c12_parent E.2.2.1 e3) gX12_parent hX12_parent ⟨rfl, rfl⟩ ⟨Nat.le_of_ble_eq_true rfl, Nat.le_of_ble_eq_true rfl⟩ rfl rfl rfl (Nat.le_of_ble_eq_true rfl) dX12_nextOf_23 rfl ?_
      refine rv_iconst (q := 27) E.x dX12_nextOf_26 rv_kim1 rfl ?_
      refine rv_icmp_eq (q := 30) (tgt := 42) E.x dX12_nextOf_27 (by decide) rfl ?_ ?_
      · refine rv_iload_n (q := 31) E.x dX12_nextOf_30 rfl rfl ?_
        refine rv_aload_n (q := 32) E.x dX12_nextOf_31 rfl rfl ?_
        refine rv_iload_n (q := 33) E.x dX12_nextOf_32 rfl rfl ?_
        refine rv_b1 (fun r6 e5 => ?_)
        refine rR_calli (q := 36) E (c12_parent E.2.2.1 e5) gX12_parent hX12_parent ⟨rfl, rfl⟩ ⟨Nat.le_of_ble_eq_true rfl, Nat.le_of_ble_eq_true rfl⟩ rfl rfl rfl (Nat.le_of_ble_eq_true rfl) dX12_nextOf_33 rfl ?_
        refine rv_b1 (fun r8 e7 => ?_)
        refine rR_calls (q := 39) E (c12_isOf e7) gX12_isOf hX12_isOf ⟨rfl, rfl⟩ ⟨Nat.le_of_ble_eq_true rfl, Nat.le_of_ble_eq_true rfl⟩ rfl rfl rfl (Nat.le_of_ble_eq_true rfl) dX12_nextOf_36 rfl ?_
        refine rv_ifz_ne (q := 42) (tgt := 46) E.x dX12_nextOf_39 (by decide) rfl ?_ ?_
        · refine rv_wk [true, true, true, true, false] ?_
          exact b12_nextOf_42 E M k9 h9 x1 x2 x3
        · refine rv_wk [true, true, true, true, false] ?_
          exact b12_nextOf_46 E M k9 h9 x1 x2 x3
      · refine rv_wk [true, true, true, true, false] ?_
        exact b12_nextOf_42 E M k9 h9 x1 x2 x3
    · refine rv_wk [true, true, true, true, false] ?_
      exact b12_nextOf_46 E M k9 h9 x1 x2 x3
  · refine rv_iload_n (q := 67) E.x dX12_nextOf_66 rfl rfl ?_
    exact rR_iret E rfl dX12_nextOf_67
theorem b12_nextOf_9 {p : Program} {l : Launch} {e : Env} {s : State} {m : MethodId} {args : Array Value} {below : List Frame} {meth : Method} {c : Code} {D : va_G} {cI cZ : ClassId} {ad : Nat → Nat} (E : rR_E D cI cZ ad cX12_nextOf 5 (some .int) p s m args meth c) (M : rv_Mem)   : ∀ (n : Nat), ∀ (x1 : Int32) (x2 : Int32) (x3 : Int32), rv_M (rR_G D cI cZ ad) (rR_A ad) p l e rm12_nextOf s m args below meth c 0 0 (rR_qI D cI cZ ad below args s M) (f12_nextOf_9 M n x1 x2 x3) 9 [some (.ref (ad 67)), some (.int x1), some (.int x2), some (.int x3), none] [] M := by
  intro n
  induction n with
  | zero => exact fun _ _ _ => rv_stuck
  | succ n ih => exact b12_nextOf_9_s E M (f12_nextOf_9 M n) ih
set_option maxRecDepth 100000 in
theorem b12_nextOf {p : Program} {l : Launch} {e : Env} {s : State} {m : MethodId} {args : Array Value} {below : List Frame} {meth : Method} {c : Code} {D : va_G} {cI cZ : ClassId} {ad : Nat → Nat} (E : rR_E D cI cZ ad cX12_nextOf 5 (some .int) p s m args meth c) (M : rv_Mem) (a1 : Int32) : rv_M (rR_G D cI cZ ad) (rR_A ad) p l e rm12_nextOf s m args below meth c 0 0  (rR_qI D cI cZ ad below args s M) (f12_nextOf M a1) 0 [some (.ref (ad 67)), some (.int a1), none, none, none] [] M := by
  unfold f12_nextOf
  refine rv_iconst (q := 1) E.x dX12_nextOf_0 rv_kim1 rfl ?_
  refine rv_istore_n (q := 2) (lv' := [_, _, _, _, _]) E.x dX12_nextOf_1 (Nat.le_of_ble_eq_true rfl) rfl rfl rfl ?_
  refine rv_aload_n (q := 3) E.x dX12_nextOf_2 rfl rfl ?_
  refine rR_get (q := 6) E 11 wf12_11 rfl (Nat.le_of_ble_eq_true rfl) rfl dX12_nextOf_3 rfl ?_
  refine rv_iconst (q := 7) E.x dX12_nextOf_6 rv_ki1 rfl ?_
  refine rv_isub (q := 8) E.x dX12_nextOf_7 rfl ?_
  refine rv_istore_n (q := 9) (lv' := [_, _, _, _, _]) E.x dX12_nextOf_8 (Nat.le_of_ble_eq_true rfl) rfl rfl rfl ?_
  refine rv_wk [true, true, true, true, false] ?_
  exact b12_nextOf_9 E M rv_FU a1 (-1) ((M 11 0) - 1)
theorem c12_nextOf {l : Launch} {D : va_G} {cI cZ : ClassId} {ad : Nat → Nat} (hI : rR_I ad) {M : rv_Mem} {a1 : Int32} {r : Int32} (h : f12_nextOf M a1 = some r) : Met l yX12_nextOf (rv_ws yX12_nextOf cX12_nextOf 5 (some .int)) rm12_nextOf (rR_Pc D cI cZ ad [.ref (ad 67), .int a1] M) (rR_QI D cI cZ ad r M) 0 0 (rR_A ad) := rR_met hI rfl (rv_cat rfl) (Nat.le_of_ble_eq_true rfl) (fun p e s m args below meth c E => ⟨(rR_qI D cI cZ ad below args s M), rfl, b12_nextOf E M a1⟩) h
abbrev rm12_hasChild : Room := { frames := 3, cells := 0, slots := 0, locals := 67 }
set_option maxRecDepth 100000 in
theorem b12_hasChild_42 {p : Program} {l : Launch} {e : Env} {s : State} {m : MethodId} {args : Array Value} {below : List Frame} {meth : Method} {c : Code} {D : va_G} {cI cZ : ClassId} {ad : Nat → Nat} (E : rR_E D cI cZ ad cX12_hasChild 5 (some .boolean) p s m args meth c) (M : rv_Mem) (k5 : Int32 → Int32 → Bool → Int32 → Option (Bool)) (h5 : ∀ (x1 : Int32) (x2 : Int32) (x3 : Bool) (x4 : Int32), rv_M (rR_G D cI cZ ad) (rR_A ad) p l e rm12_hasChild s m args below meth c 0 0 (rR_qZ D cI cZ ad below args s M) (k5 x1 x2 x3 x4) 5 [some (.ref (ad 67)), some (.int x1), some (.int x2), some (.int (rv_i x3)), some (.int x4)] [] M) : ∀ (x1 : Int32) (x2 : Int32) (x4 : Int32) (s0 : Bool), rv_M (rR_G D cI cZ ad) (rR_A ad) p l e rm12_hasChild s m args below meth c 0 0 (rR_qZ D cI cZ ad below args s M) (f12_hasChild_42 M k5 x1 x2 x4 s0) 42 [some (.ref (ad 67)), some (.int x1), some (.int x2), none, some (.int x4)] [.int (rv_i s0)] M := by
  intro x1 x2 x4 s0
  unfold f12_hasChild_42
  refine rv_istore_n (q := 43) (lv' := [_, _, _, _, _]) E.x dX12_hasChild_42 (Nat.le_of_ble_eq_true rfl) rfl rfl rfl ?_
  refine rv_iinc (q := 46) (lv' := [_, _, _, _, _]) E.x dX12_hasChild_43 rv_ki1 rfl rfl rfl rfl ?_
  refine rv_goto (q := 5) E.x dX12_hasChild_46 (by decide) ?_
  refine rv_wk [true, true, true, true, true] ?_
  exact h5 x1 x2 s0 (x4 + 1)
set_option maxRecDepth 100000 in
theorem b12_hasChild_37 {p : Program} {l : Launch} {e : Env} {s : State} {m : MethodId} {args : Array Value} {below : List Frame} {meth : Method} {c : Code} {D : va_G} {cI cZ : ClassId} {ad : Nat → Nat} (E : rR_E D cI cZ ad cX12_hasChild 5 (some .boolean) p s m args meth c) (M : rv_Mem) (k5 : Int32 → Int32 → Bool → Int32 → Option (Bool)) (h5 : ∀ (x1 : Int32) (x2 : Int32) (x3 : Bool) (x4 : Int32), rv_M (rR_G D cI cZ ad) (rR_A ad) p l e rm12_hasChild s m args below meth c 0 0 (rR_qZ D cI cZ ad below args s M) (k5 x1 x2 x3 x4) 5 [some (.ref (ad 67)), some (.int x1), some (.int x2), some (.int (rv_i x3)), some (.int x4)] [] M) : ∀ (x1 : Int32) (x2 : Int32) (x4 : Int32), rv_M (rR_G D cI cZ ad) (rR_A ad) p l e rm12_hasChild s m args below meth c 0 0 (rR_qZ D cI cZ ad below args s M) (f12_hasChild_37 M k5 x1 x2 x4) 37 [some (.ref (ad 67)), some (.int x1), some (.int x2), none, some (.int x4)] [] M := by
  intro x1 x2 x4
  unfold f12_hasChild_37
  refine rv_iconst (q := 38) E.x dX12_hasChild_37 rv_ki1 rfl ?_
  refine rv_goto (q := 42) E.x dX12_hasChild_38 (by decide) ?_
  refine rv_wk [true, true, true, false, true] ?_
  exact b12_hasChild_42 E M k5 h5 x1 x2 x4 true
set_option maxRecDepth 100000 in
theorem b12_hasChild_41 {p : Program} {l : Launch} {e : Env} {s : State} {m : MethodId} {args : Array Value} {below : List Frame} {meth : Method} {c : Code} {D : va_G} {cI cZ : ClassId} {ad : Nat → Nat} (E : rR_E D cI cZ ad cX12_hasChild 5 (some .boolean) p s m args meth c) (M : rv_Mem) (k5 : Int32 → Int32 → Bool → Int32 → Option (Bool)) (h5 : ∀ (x1 : Int32) (x2 : Int32) (x3 : Bool) (x4 : Int32), rv_M (rR_G D cI cZ ad) (rR_A ad) p l e rm12_hasChild s m args below meth c 0 0 (rR_qZ D cI cZ ad below args s M) (k5 x1 x2 x3 x4) 5 [some (.ref (ad 67)), some (.int x1), some (.int x2), some (.int (rv_i x3)), some (.int x4)] [] M) : ∀ (x1 : Int32) (x2 : Int32) (x4 : Int32), rv_M (rR_G D cI cZ ad) (rR_A ad) p l e rm12_hasChild s m args below meth c 0 0 (rR_qZ D cI cZ ad below args s M) (f12_hasChild_41 M k5 x1 x2 x4) 41 [some (.ref (ad 67)), some (.int x1), some (.int x2), none, some (.int x4)] [] M := by
  intro x1 x2 x4
  unfold f12_hasChild_41
  refine rv_iconst (q := 42) E.x dX12_hasChild_41 rv_ki0 rfl ?_
  refine rv_wk [true, true, true, false, true] ?_
  exact b12_hasChild_42 E M k5 h5 x1 x2 x4 false
set_option maxRecDepth 100000 in
theorem b12_hasChild_5_s {p : Program} {l : Launch} {e : Env} {s : State} {m : MethodId} {args : Array Value} {below : List Frame} {meth : Method} {c : Code} {D : va_G} {cI cZ : ClassId} {ad : Nat → Nat} (E : rR_E D cI cZ ad cX12_hasChild 5 (some .boolean) p s m args meth c) (M : rv_Mem)   (k5 : Int32 → Int32 → Bool → Int32 → Option (Bool)) (h5 : ∀ (x1 : Int32) (x2 : Int32) (x3 : Bool) (x4 : Int32), rv_M (rR_G D cI cZ ad) (rR_A ad) p l e rm12_hasChild s m args below meth c 0 0 (rR_qZ D cI cZ ad below args s M) (k5 x1 x2 x3 x4) 5 [some (.ref (ad 67)), some (.int x1), some (.int x2), some (.int (rv_i x3)), some (.int x4)] [] M) : ∀ (x1 : Int32) (x2 : Int32) (x3 : Bool) (x4 : Int32), rv_M (rR_G D cI cZ ad) (rR_A ad) p l e rm12_hasChild s m args below meth c 0 0 (rR_qZ D cI cZ ad below args s M) (f12_hasChild_5_s M k5 x1 x2 x3 x4) 5 [some (.ref (ad 67)), some (.int x1), some (.int x2), some (.int (rv_i x3)), some (.int x4)] [] M := by
  intro x1 x2 x3 x4
  unfold f12_hasChild_5_s
  refine rv_iload (q := 7) E.x dX12_hasChild_5 rfl rfl ?_
  refine rv_aload_n (q := 8) E.x dX12_hasChild_7 rfl rfl ?_
  refine rR_get (q := 11) E 11 wf12_11 rfl (Nat.le_of_ble_eq_true rfl) rfl dX12_hasChild_8 rfl ?_
  refine rv_icmp_ge (q := 14) (tgt := 49) E.x dX12_hasChild_11 (by decide) rfl ?_ ?_
  · refine rv_iload_n (q := 15) E.x dX12_hasChild_14 rfl rfl ?_
    refine rv_ifz_ne (q := 18) (tgt := 37) E.x dX12_hasChild_15 (by decide) rfl ?_ ?_
    · refine rv_iload_n (q := 19) E.x dX12_hasChild_18 rfl rfl ?_
      refine rv_iload (q := 21) E.x dX12_hasChild_19 rfl rfl ?_
      refine rv_b1 (fun r2 e1 => ?_)
      refine rR_calls (q := 24) E (c12_isOf e1) gX12_isOf hX12_isOf ⟨rfl, rfl⟩ ⟨Nat.le_of_ble_eq_true rfl, Nat.le_of_ble_eq_true rfl⟩ rfl rfl rfl (Nat.le_of_ble_eq_true rfl) dX12_hasChild_21 rfl ?_
      refine rv_ifz_eq (q := 27) (tgt := 41) E.x dX12_hasChild_24 (by decide) rfl ?_ ?_
      · refine rv_aload_n (q := 28) E.x dX12_hasChild_27 rfl rfl ?_
        refine rv_iload (q := 30) E.x dX12_hasChild_28 rfl rfl ?_
        refine rv_b1 (fun r4 e3 => ?_)
        refine rR_calli (q := 33) E (c12_parent E.2.2.1 e3) gX12_parent hX12_parent ⟨rfl, rfl⟩ ⟨Nat.le_of_ble_eq_true rfl, Nat.le_of_ble_eq_true rfl⟩ rfl rfl rfl (Nat.le_of_ble_eq_true rfl) dX12_hasChild_30 rfl ?_
        refine rv_iload_n (q := 34) E.x dX12_hasChild_33 rfl rfl ?_
        refine rv_icmp_ne (q := 37) (tgt := 41) E.x dX12_hasChild_34 (by decide) rfl ?_ ?_
        · refine rv_wk [true, true, true, false, true] ?_
          exact b12_hasChild_37 E M k5 h5 x1 x2 x4
        · refine rv_wk [true, true, true, false, true] ?_
          exact b12_hasChild_41 E M k5 h5 x1 x2 x4
      · refine rv_wk [true, true, true, false, true] ?_
        exact b12_hasChild_41 E M k5 h5 x1 x2 x4
    · refine rv_wk [true, true, true, false, true] ?_
      exact b12_hasChild_37 E M k5 h5 x1 x2 x4
  · refine rv_iload_n (q := 50) E.x dX12_hasChild_49 rfl rfl ?_
    exact rR_zret E x3 rfl dX12_hasChild_50
theorem b12_hasChild_5 {p : Program} {l : Launch} {e : Env} {s : State} {m : MethodId} {args : Array Value} {below : List Frame} {meth : Method} {c : Code} {D : va_G} {cI cZ : ClassId} {ad : Nat → Nat} (E : rR_E D cI cZ ad cX12_hasChild 5 (some .boolean) p s m args meth c) (M : rv_Mem)   : ∀ (n : Nat), ∀ (x1 : Int32) (x2 : Int32) (x3 : Bool) (x4 : Int32), rv_M (rR_G D cI cZ ad) (rR_A ad) p l e rm12_hasChild s m args below meth c 0 0 (rR_qZ D cI cZ ad below args s M) (f12_hasChild_5 M n x1 x2 x3 x4) 5 [some (.ref (ad 67)), some (.int x1), some (.int x2), some (.int (rv_i x3)), some (.int x4)] [] M := by
  intro n
  induction n with
  | zero => exact fun _ _ _ _ => rv_stuck
  | succ n ih => exact b12_hasChild_5_s E M (f12_hasChild_5 M n) ih
set_option maxRecDepth 100000 in
theorem b12_hasChild {p : Program} {l : Launch} {e : Env} {s : State} {m : MethodId} {args : Array Value} {below : List Frame} {meth : Method} {c : Code} {D : va_G} {cI cZ : ClassId} {ad : Nat → Nat} (E : rR_E D cI cZ ad cX12_hasChild 5 (some .boolean) p s m args meth c) (M : rv_Mem) (a1 : Int32) (a2 : Int32) : rv_M (rR_G D cI cZ ad) (rR_A ad) p l e rm12_hasChild s m args below meth c 0 0  (rR_qZ D cI cZ ad below args s M) (f12_hasChild M a1 a2) 0 [some (.ref (ad 67)), some (.int a1), some (.int a2), none, none] [] M := by
  unfold f12_hasChild
  refine rv_iconst (q := 1) E.x dX12_hasChild_0 rv_ki0 rfl ?_
  refine rv_istore_n (q := 2) (lv' := [_, _, _, _, _]) E.x dX12_hasChild_1 (Nat.le_of_ble_eq_true rfl) rfl rfl rfl ?_
  refine rv_iconst (q := 3) E.x dX12_hasChild_2 rv_ki0 rfl ?_
  refine rv_istore (q := 5) (lv' := [_, _, _, _, _]) E.x dX12_hasChild_3 (Nat.le_of_ble_eq_true rfl) rfl rfl rfl ?_
  refine rv_wk [true, true, true, true, true] ?_
  exact b12_hasChild_5 E M rv_FU a1 a2 false 0
theorem c12_hasChild {l : Launch} {D : va_G} {cI cZ : ClassId} {ad : Nat → Nat} (hI : rR_I ad) {M : rv_Mem} {a1 : Int32} {a2 : Int32} {r : Bool} (h : f12_hasChild M a1 a2 = some r) : Met l yX12_hasChild (rv_ws yX12_hasChild cX12_hasChild 5 (some .boolean)) rm12_hasChild (rR_Pc D cI cZ ad [.ref (ad 67), .int a1, .int a2] M) (rR_QI D cI cZ ad (rv_i r) M) 0 0 (rR_A ad) := rR_met hI rfl (rv_cat rfl) (Nat.le_of_ble_eq_true rfl) (fun p e s m args below meth c E => ⟨(rR_qZ D cI cZ ad below args s M), rfl, b12_hasChild E M a1 a2⟩) h
abbrev rm12_makes : Room := { frames := 1, cells := 0, slots := 0, locals := 23 }
set_option maxRecDepth 100000 in
theorem b12_makes {p : Program} {l : Launch} {e : Env} {s : State} {m : MethodId} {args : Array Value} {below : List Frame} {meth : Method} {c : Code} {D : va_G} {cI cZ : ClassId} {ad : Nat → Nat} (E : rR_E D cI cZ ad cX12_makes 3 (some .int) p s m args meth c) (M : rv_Mem) (a1 : Int32) (a2 : Int32) : rv_M (rR_G D cI cZ ad) (rR_A ad) p l e rm12_makes s m args below meth c 0 0  (rR_qIW D cI cZ ad below args s) (f12_makes M a1 a2) 0 [some (.ref (ad 67)), some (.int a1), some (.int a2)] [] M := by
  unfold f12_makes
  refine rv_aload_n (q := 1) E.x dX12_makes_0 rfl rfl ?_
  refine rv_bipush (q := 3) E.x dX12_makes_1 rv_kb81 rfl ?_
  refine rv_aload_n (q := 4) E.x dX12_makes_3 rfl rfl ?_
  refine rR_get (q := 7) E 0 wf12_0 rfl (Nat.le_of_ble_eq_true rfl) rfl dX12_makes_4 rfl ?_
  refine rv_b1 (fun M2 e1 => ?_)
  refine rR_callv (q := 10) E (c12_copies E.2.2.1 e1) gX12_copies hX12_copies ⟨rfl, rfl⟩ ⟨Nat.le_of_ble_eq_true rfl, Nat.le_of_ble_eq_true rfl⟩ rfl rfl rfl (Nat.le_of_ble_eq_true rfl) dX12_makes_7 rfl ?_
  refine rv_aload_n (q := 11) E.x dX12_makes_10 rfl rfl ?_
  refine rR_get (q := 14) E 1 wf12_1 rfl (Nat.le_of_ble_eq_true rfl) rfl dX12_makes_11 rfl ?_
  refine rv_aload_n (q := 15) E.x dX12_makes_14 rfl rfl ?_
  refine rR_get (q := 18) E 0 wf12_0 rfl (Nat.le_of_ble_eq_true rfl) rfl dX12_makes_15 rfl ?_
  refine rv_iload_n (q := 19) E.x dX12_makes_18 rfl rfl ?_
  refine rR_iast (q := 20) (n := 82) E (Nat.le_of_ble_eq_true rfl) rfl rfl dX12_makes_19 rfl ?_
  refine rv_ltm (fun M3 => ?_)
  refine rv_aload_n (q := 21) E.x dX12_makes_20 rfl rfl ?_
  refine rR_get (q := 24) E 2 wf12_2 rfl (Nat.le_of_ble_eq_true rfl) rfl dX12_makes_21 rfl ?_
  refine rv_aload_n (q := 25) E.x dX12_makes_24 rfl rfl ?_
  refine rR_get (q := 28) E 0 wf12_0 rfl (Nat.le_of_ble_eq_true rfl) rfl dX12_makes_25 rfl ?_
  refine rv_iload_n (q := 29) E.x dX12_makes_28 rfl rfl ?_
  refine rR_iast (q := 30) (n := 82) E (Nat.le_of_ble_eq_true rfl) rfl rfl dX12_makes_29 rfl ?_
  refine rv_ltm (fun M4 => ?_)
  refine rv_aload_n (q := 31) E.x dX12_makes_30 rfl rfl ?_
  refine rR_get (q := 34) E 5 wf12_5 rfl (Nat.le_of_ble_eq_true rfl) rfl dX12_makes_31 rfl ?_
  refine rv_aload_n (q := 35) E.x dX12_makes_34 rfl rfl ?_
  refine rR_get (q := 38) E 0 wf12_0 rfl (Nat.le_of_ble_eq_true rfl) rfl dX12_makes_35 rfl ?_
  refine rv_iconst (q := 39) E.x dX12_makes_38 rv_kim1 rfl ?_
  refine rR_iast (q := 40) (n := 82) E (Nat.le_of_ble_eq_true rfl) rfl rfl dX12_makes_39 rfl ?_
  refine rv_ltm (fun M5 => ?_)
  refine rv_aload_n (q := 41) E.x dX12_makes_40 rfl rfl ?_
  refine rR_get (q := 44) E 8 wf12_8 rfl (Nat.le_of_ble_eq_true rfl) rfl dX12_makes_41 rfl ?_
  refine rv_aload_n (q := 45) E.x dX12_makes_44 rfl rfl ?_
  refine rR_get (q := 48) E 0 wf12_0 rfl (Nat.le_of_ble_eq_true rfl) rfl dX12_makes_45 rfl ?_
  refine rv_iconst (q := 49) E.x dX12_makes_48 rv_kim1 rfl ?_
  refine rR_iast (q := 50) (n := 82) E (Nat.le_of_ble_eq_true rfl) rfl rfl dX12_makes_49 rfl ?_
  refine rv_ltm (fun M6 => ?_)
  refine rv_aload_n (q := 51) E.x dX12_makes_50 rfl rfl ?_
  refine rv_dup (q := 52) E.x dX12_makes_51 rfl rfl ?_
  refine rR_get (q := 55) E 0 wf12_0 rfl (Nat.le_of_ble_eq_true rfl) rfl dX12_makes_52 rfl ?_
  refine rv_iconst (q := 56) E.x dX12_makes_55 rv_ki1 rfl ?_
  refine rv_iadd (q := 57) E.x dX12_makes_56 rfl ?_
  refine rR_put (q := 60) E 0 wf12_0 rfl (Nat.le_of_ble_eq_true rfl) rfl rfl rfl dX12_makes_57 rfl ?_
  refine rv_ltm (fun M7 => ?_)
  refine rv_aload_n (q := 61) E.x dX12_makes_60 rfl rfl ?_
  refine rR_get (q := 64) E 0 wf12_0 rfl (Nat.le_of_ble_eq_true rfl) rfl dX12_makes_61 rfl ?_
  refine rv_iconst (q := 65) E.x dX12_makes_64 rv_ki1 rfl ?_
  refine rv_isub (q := 66) E.x dX12_makes_65 rfl ?_
  exact rR_iret E rfl dX12_makes_66
theorem c12_makes {l : Launch} {D : va_G} {cI cZ : ClassId} {ad : Nat → Nat} (hI : rR_I ad) {M : rv_Mem} {a1 : Int32} {a2 : Int32} {r : Int32} {M1 : rv_Mem} (h : f12_makes M a1 a2 = some (r, M1)) : Met l yX12_makes (rv_ws yX12_makes cX12_makes 3 (some .int)) rm12_makes (rR_Pc D cI cZ ad [.ref (ad 67), .int a1, .int a2] M) (rR_QI D cI cZ ad r M1) 0 0 (rR_A ad) := rR_met hI rfl (rv_cat rfl) (Nat.le_of_ble_eq_true rfl) (fun p e s m args below meth c E => ⟨(rR_qIW D cI cZ ad below args s), rfl, b12_makes E M a1 a2⟩) h
abbrev rm12_landsOne : Room := { frames := 6, cells := 0, slots := 0, locals := 167 }
set_option maxRecDepth 100000 in
theorem b12_landsOne_54 {p : Program} {l : Launch} {e : Env} {s : State} {m : MethodId} {args : Array Value} {below : List Frame} {meth : Method} {c : Code} {D : va_G} {cI cZ : ClassId} {ad : Nat → Nat} (E : rR_E D cI cZ ad cX12_landsOne 8 (some .int) p s m args meth c)   : ∀ (M : rv_Mem) (x4 : Int32) (x5 : Int32) (s1 : Int32) (s2 : Int32), rv_M (rR_G D cI cZ ad) (rR_A ad) p l e rm12_landsOne s m args below meth c 0 0 (rR_qIW D cI cZ ad below args s) (f12_landsOne_54 M x4 x5 s1 s2) 54 [some (.ref (ad 67)), none, none, none, some (.int x4), some (.int x5), none, none] [.int s2, .int s1, .ref (ad 9)] M := by
  intro M x4 x5 s1 s2
  unfold f12_landsOne_54
  refine rR_iast (q := 55) (n := 2) E (Nat.le_of_ble_eq_true rfl) rfl rfl dX12_landsOne_54 rfl ?_
  refine rv_ltm (fun M1 => ?_)
  refine rv_aload_n (q := 56) E.x dX12_landsOne_55 rfl rfl ?_
  refine rR_get (q := 59) E 2 wf12_2 rfl (Nat.le_of_ble_eq_true rfl) rfl dX12_landsOne_56 rfl ?_
  refine rv_iload (q := 61) E.x dX12_landsOne_59 rfl rfl ?_
  refine rR_iald (q := 62) (n := 82) E (Nat.le_of_ble_eq_true rfl) rfl rfl dX12_landsOne_61 rfl ?_
  refine rv_iload (q := 64) E.x dX12_landsOne_62 rfl rfl ?_
  refine rv_icmp_ne (q := 67) (tgt := 72) E.x dX12_landsOne_64 (by decide) rfl ?_ ?_
  · refine rv_iload (q := 69) E.x dX12_landsOne_67 rfl rfl ?_
    refine rv_goto (q := 74) E.x dX12_landsOne_69 (by decide) ?_
    exact rR_iret E rfl dX12_landsOne_74
  · refine rv_bipush (q := 74) E.x dX12_landsOne_72 rv_kbm2 rfl ?_
    exact rR_iret E rfl dX12_landsOne_74
set_option maxRecDepth 100000 in
theorem b12_landsOne_161 {p : Program} {l : Launch} {e : Env} {s : State} {m : MethodId} {args : Array Value} {below : List Frame} {meth : Method} {c : Code} {D : va_G} {cI cZ : ClassId} {ad : Nat → Nat} (E : rR_E D cI cZ ad cX12_landsOne 8 (some .int) p s m args meth c)   : ∀ (M : rv_Mem) (x3 : Int32) (x4 : Int32) (x5 : Int32) (x6 : Int32), rv_M (rR_G D cI cZ ad) (rR_A ad) p l e rm12_landsOne s m args below meth c 0 0 (rR_qIW D cI cZ ad below args s) (f12_landsOne_161 M x3 x4 x5 x6) 161 [some (.ref (ad 67)), none, none, some (.int x3), some (.int x4), some (.int x5), some (.int x6), none] [] M := by
  intro M x3 x4 x5 x6
  unfold f12_landsOne_161
  refine rv_aload_n (q := 162) E.x dX12_landsOne_161 rfl rfl ?_
  refine rR_get (q := 165) E 0 wf12_0 rfl (Nat.le_of_ble_eq_true rfl) rfl dX12_landsOne_162 rfl ?_
  refine rv_bipush (q := 167) E.x dX12_landsOne_165 rv_kb80 rfl ?_
  refine rv_icmp_eq (q := 170) (tgt := 183) E.x dX12_landsOne_167 (by decide) rfl ?_ ?_
  · refine rv_aload_n (q := 171) E.x dX12_landsOne_170 rfl rfl ?_
    refine rv_iload (q := 173) E.x dX12_landsOne_171 rfl rfl ?_
    refine rv_iload (q := 175) E.x dX12_landsOne_173 rfl rfl ?_
    refine rv_iload (q := 177) E.x dX12_landsOne_175 rfl rfl ?_
    refine rv_b2 (fun r2 M3 e1 => ?_)
    refine rR_calli (q := 180) E (c12_merges E.2.2.1 e1) gX12_merges hX12_merges ⟨rfl, rfl⟩ ⟨Nat.le_of_ble_eq_true rfl, Nat.le_of_ble_eq_true rfl⟩ rfl rfl rfl (Nat.le_of_ble_eq_true rfl) dX12_landsOne_177 rfl ?_
    refine rv_ifz_ne (q := 183) (tgt := 186) E.x dX12_landsOne_180 (by decide) rfl ?_ ?_
    · refine rv_bipush (q := 185) E.x dX12_landsOne_183 rv_kbm2 rfl ?_
      exact rR_iret E rfl dX12_landsOne_185
    · refine rv_aload_n (q := 187) E.x dX12_landsOne_186 rfl rfl ?_
      refine rR_get (q := 190) E 9 wf12_9 rfl (Nat.le_of_ble_eq_true rfl) rfl dX12_landsOne_187 rfl ?_
      refine rv_iload_n (q := 191) E.x dX12_landsOne_190 rfl rfl ?_
      refine rv_aload_n (q := 192) E.x dX12_landsOne_191 rfl rfl ?_
      refine rv_iload_n (q := 193) E.x dX12_landsOne_192 rfl rfl ?_
      refine rv_iload (q := 195) E.x dX12_landsOne_193 rfl rfl ?_
      refine rv_b2 (fun r5 M6 e4 => ?_)
      refine rR_calli (q := 198) E (c12_makes E.2.2.1 e4) gX12_makes hX12_makes ⟨rfl, rfl⟩ ⟨Nat.le_of_ble_eq_true rfl, Nat.le_of_ble_eq_true rfl⟩ rfl rfl rfl (Nat.le_of_ble_eq_true rfl) dX12_landsOne_195 rfl ?_
      refine rR_iast (q := 199) (n := 2) E (Nat.le_of_ble_eq_true rfl) rfl rfl dX12_landsOne_198 rfl ?_
      refine rv_ltm (fun M7 => ?_)
      refine rv_aload_n (q := 200) E.x dX12_landsOne_199 rfl rfl ?_
      refine rR_get (q := 203) E 9 wf12_9 rfl (Nat.le_of_ble_eq_true rfl) rfl dX12_landsOne_200 rfl ?_
      refine rv_iload_n (q := 204) E.x dX12_landsOne_203 rfl rfl ?_
      refine rR_iald (q := 205) (n := 2) E (Nat.le_of_ble_eq_true rfl) rfl rfl dX12_landsOne_204 rfl ?_
      exact rR_iret E rfl dX12_landsOne_205
  · refine rv_bipush (q := 185) E.x dX12_landsOne_183 rv_kbm2 rfl ?_
    exact rR_iret E rfl dX12_landsOne_185
set_option maxRecDepth 100000 in
theorem b12_landsOne_112_s {p : Program} {l : Launch} {e : Env} {s : State} {m : MethodId} {args : Array Value} {below : List Frame} {meth : Method} {c : Code} {D : va_G} {cI cZ : ClassId} {ad : Nat → Nat} (E : rR_E D cI cZ ad cX12_landsOne 8 (some .int) p s m args meth c)   (k112 : rv_Mem → Int32 → Int32 → Int32 → Int32 → Int32 → Int32 → Option (Int32 × rv_Mem)) (h112 : ∀ (M : rv_Mem) (x2 : Int32) (x3 : Int32) (x4 : Int32) (x5 : Int32) (x6 : Int32) (x7 : Int32), rv_M (rR_G D cI cZ ad) (rR_A ad) p l e rm12_landsOne s m args below meth c 0 0 (rR_qIW D cI cZ ad below args s) (k112 M x2 x3 x4 x5 x6 x7) 112 [some (.ref (ad 67)), none, some (.int x2), some (.int x3), some (.int x4), some (.int x5), some (.int x6), some (.int x7)] [] M) : ∀ (M : rv_Mem) (x2 : Int32) (x3 : Int32) (x4 : Int32) (x5 : Int32) (x6 : Int32) (x7 : Int32), rv_M (rR_G D cI cZ ad) (rR_A ad) p l e rm12_landsOne s m args below meth c 0 0 (rR_qIW D cI cZ ad below args s) (f12_landsOne_112_s k112 M x2 x3 x4 x5 x6 x7) 112 [some (.ref (ad 67)), none, some (.int x2), some (.int x3), some (.int x4), some (.int x5), some (.int x6), some (.int x7)] [] M := by
  intro M x2 x3 x4 x5 x6 x7
  unfold f12_landsOne_112_s
  refine rv_aload_n (q := 113) E.x dX12_landsOne_112 rfl rfl ?_
  refine rR_get (q := 116) E 10 wf12_10 rfl (Nat.le_of_ble_eq_true rfl) rfl dX12_landsOne_113 rfl ?_
  refine rv_iload_n (q := 117) E.x dX12_landsOne_116 rfl rfl ?_
  refine rR_iald (q := 118) (n := 2) E (Nat.le_of_ble_eq_true rfl) rfl rfl dX12_landsOne_117 rfl ?_
  refine rv_iconst (q := 119) E.x dX12_landsOne_118 rv_ki2 rfl ?_
  refine rv_icmp_ne (q := 122) (tgt := 161) E.x dX12_landsOne_119 (by decide) rfl ?_ ?_
  · refine rv_iload (q := 124) E.x dX12_landsOne_122 rfl rfl ?_
    refine rv_iconst (q := 125) E.x dX12_landsOne_124 rv_kim1 rfl ?_
    refine rv_icmp_eq (q := 128) (tgt := 161) E.x dX12_landsOne_125 (by decide) rfl ?_ ?_
    · refine rv_iload_n (q := 129) E.x dX12_landsOne_128 rfl rfl ?_
      refine rv_iload (q := 131) E.x dX12_landsOne_129 rfl rfl ?_
      refine rv_b1 (fun r2 e1 => ?_)
      refine rR_calls (q := 134) E (c12_isOf e1) gX12_isOf hX12_isOf ⟨rfl, rfl⟩ ⟨Nat.le_of_ble_eq_true rfl, Nat.le_of_ble_eq_true rfl⟩ rfl rfl rfl (Nat.le_of_ble_eq_true rfl) dX12_landsOne_131 rfl ?_
      refine rv_ifz_eq (q := 137) (tgt := 161) E.x dX12_landsOne_134 (by decide) rfl ?_ ?_
      · refine rv_aload_n (q := 138) E.x dX12_landsOne_137 rfl rfl ?_
        refine rR_get (q := 141) E 2 wf12_2 rfl (Nat.le_of_ble_eq_true rfl) rfl dX12_landsOne_138 rfl ?_
        refine rv_aload_n (q := 142) E.x dX12_landsOne_141 rfl rfl ?_
        refine rv_iload (q := 144) E.x dX12_landsOne_142 rfl rfl ?_
        refine rv_b1 (fun r4 e3 => ?_)
        refine rR_calli (q := 147) E (c12_current E.2.2.1 e3) gX12_current hX12_current ⟨rfl, rfl⟩ ⟨Nat.le_of_ble_eq_true rfl, Nat.le_of_ble_eq_true rfl⟩ rfl rfl rfl (Nat.le_of_ble_eq_true rfl) dX12_landsOne_144 rfl ?_
        refine rR_iald (q := 148) (n := 82) E (Nat.le_of_ble_eq_true rfl) rfl rfl dX12_landsOne_147 rfl ?_
        refine rv_istore (q := 150) (lv' := [_, _, _, _, _, _, _, _]) E.x dX12_landsOne_148 (Nat.le_of_ble_eq_true rfl) rfl rfl rfl ?_
        refine rv_aload_n (q := 151) E.x dX12_landsOne_150 rfl rfl ?_
        refine rv_iload (q := 153) E.x dX12_landsOne_151 rfl rfl ?_
        refine rv_b1 (fun r6 e5 => ?_)
        refine rR_calli (q := 156) E (c12_parent E.2.2.1 e5) gX12_parent hX12_parent ⟨rfl, rfl⟩ ⟨Nat.le_of_ble_eq_true rfl, Nat.le_of_ble_eq_true rfl⟩ rfl rfl rfl (Nat.le_of_ble_eq_true rfl) dX12_landsOne_153 rfl ?_
        refine rv_istore (q := 158) (lv' := [_, _, _, _, _, _, _, _]) E.x dX12_landsOne_156 (Nat.le_of_ble_eq_true rfl) rfl rfl rfl ?_
        refine rv_goto (q := 112) E.x dX12_landsOne_158 (by decide) ?_
        refine rv_wk [true, false, true, true, true, true, true, true] ?_
        exact h112 M x2 x3 x4 x5 (M 2 (r4).toNatClampNeg) r6
      · refine rv_wk [true, false, false, true, true, true, true, false] ?_
        exact b12_landsOne_161 E M x3 x4 x5 x6
    · refine rv_wk [true, false, false, true, true, true, true, false] ?_
      exact b12_landsOne_161 E M x3 x4 x5 x6
  · refine rv_wk [true, false, false, true, true, true, true, false] ?_
    exact b12_landsOne_161 E M x3 x4 x5 x6
theorem b12_landsOne_112 {p : Program} {l : Launch} {e : Env} {s : State} {m : MethodId} {args : Array Value} {below : List Frame} {meth : Method} {c : Code} {D : va_G} {cI cZ : ClassId} {ad : Nat → Nat} (E : rR_E D cI cZ ad cX12_landsOne 8 (some .int) p s m args meth c)   : ∀ (n : Nat), ∀ (M : rv_Mem) (x2 : Int32) (x3 : Int32) (x4 : Int32) (x5 : Int32) (x6 : Int32) (x7 : Int32), rv_M (rR_G D cI cZ ad) (rR_A ad) p l e rm12_landsOne s m args below meth c 0 0 (rR_qIW D cI cZ ad below args s) (f12_landsOne_112 n M x2 x3 x4 x5 x6 x7) 112 [some (.ref (ad 67)), none, some (.int x2), some (.int x3), some (.int x4), some (.int x5), some (.int x6), some (.int x7)] [] M := by
  intro n
  induction n with
  | zero => exact fun _ _ _ _ _ _ _ => rv_stuck
  | succ n ih => exact b12_landsOne_112_s E  (f12_landsOne_112 n) ih
set_option maxRecDepth 100000 in
theorem b12_landsOne_96 {p : Program} {l : Launch} {e : Env} {s : State} {m : MethodId} {args : Array Value} {below : List Frame} {meth : Method} {c : Code} {D : va_G} {cI cZ : ClassId} {ad : Nat → Nat} (E : rR_E D cI cZ ad cX12_landsOne 8 (some .int) p s m args meth c)   : ∀ (M : rv_Mem) (x1 : Int32) (x2 : Int32) (x3 : Int32) (x4 : Int32) (x5 : Int32), rv_M (rR_G D cI cZ ad) (rR_A ad) p l e rm12_landsOne s m args below meth c 0 0 (rR_qIW D cI cZ ad below args s) (f12_landsOne_96 M x1 x2 x3 x4 x5) 96 [some (.ref (ad 67)), some (.int x1), some (.int x2), some (.int x3), some (.int x4), some (.int x5), none, none] [] M := by
  intro M x1 x2 x3 x4 x5
  unfold f12_landsOne_96
  refine rv_aload_n (q := 97) E.x dX12_landsOne_96 rfl rfl ?_
  refine rR_get (q := 100) E 2 wf12_2 rfl (Nat.le_of_ble_eq_true rfl) rfl dX12_landsOne_97 rfl ?_
  refine rv_iload (q := 102) E.x dX12_landsOne_100 rfl rfl ?_
  refine rR_iald (q := 103) (n := 82) E (Nat.le_of_ble_eq_true rfl) rfl rfl dX12_landsOne_102 rfl ?_
  refine rv_istore (q := 105) (lv' := [_, _, _, _, _, _, _, _]) E.x dX12_landsOne_103 (Nat.le_of_ble_eq_true rfl) rfl rfl rfl ?_
  refine rv_aload_n (q := 106) E.x dX12_landsOne_105 rfl rfl ?_
  refine rv_iload_n (q := 107) E.x dX12_landsOne_106 rfl rfl ?_
  refine rv_b1 (fun r2 e1 => ?_)
  refine rR_calli (q := 110) E (c12_parent E.2.2.1 e1) gX12_parent hX12_parent ⟨rfl, rfl⟩ ⟨Nat.le_of_ble_eq_true rfl, Nat.le_of_ble_eq_true rfl⟩ rfl rfl rfl (Nat.le_of_ble_eq_true rfl) dX12_landsOne_107 rfl ?_
  refine rv_istore (q := 112) (lv' := [_, _, _, _, _, _, _, _]) E.x dX12_landsOne_110 (Nat.le_of_ble_eq_true rfl) rfl rfl rfl ?_
  refine rv_wk [true, false, true, true, true, true, true, true] ?_
  exact b12_landsOne_112 E rv_FU M x2 x3 x4 x5 (M 2 (x5).toNatClampNeg) r2
set_option maxRecDepth 100000 in
theorem b12_landsOne {p : Program} {l : Launch} {e : Env} {s : State} {m : MethodId} {args : Array Value} {below : List Frame} {meth : Method} {c : Code} {D : va_G} {cI cZ : ClassId} {ad : Nat → Nat} (E : rR_E D cI cZ ad cX12_landsOne 8 (some .int) p s m args meth c) (M : rv_Mem) (a1 : Int32) (a2 : Int32) : rv_M (rR_G D cI cZ ad) (rR_A ad) p l e rm12_landsOne s m args below meth c 0 0  (rR_qIW D cI cZ ad below args s) (f12_landsOne M a1 a2) 0 [some (.ref (ad 67)), some (.int a1), some (.int a2), none, none, none, none, none] [] M := by
  unfold f12_landsOne
  refine rv_aload_n (q := 1) E.x dX12_landsOne_0 rfl rfl ?_
  refine rv_iload_n (q := 2) E.x dX12_landsOne_1 rfl rfl ?_
  refine rv_b1 (fun r2 e1 => ?_)
  refine rR_calli (q := 5) E (c12_repoOf E.2.2.1 e1) gX12_repoOf hX12_repoOf ⟨rfl, rfl⟩ ⟨Nat.le_of_ble_eq_true rfl, Nat.le_of_ble_eq_true rfl⟩ rfl rfl rfl (Nat.le_of_ble_eq_true rfl) dX12_landsOne_2 rfl ?_
  refine rv_istore_n (q := 6) (lv' := [_, _, _, _, _, _, _, _]) E.x dX12_landsOne_5 (Nat.le_of_ble_eq_true rfl) rfl rfl rfl ?_
  refine rv_aload_n (q := 7) E.x dX12_landsOne_6 rfl rfl ?_
  refine rR_get (q := 10) E 9 wf12_9 rfl (Nat.le_of_ble_eq_true rfl) rfl dX12_landsOne_7 rfl ?_
  refine rv_iload_n (q := 11) E.x dX12_landsOne_10 rfl rfl ?_
  refine rR_iald (q := 12) (n := 2) E (Nat.le_of_ble_eq_true rfl) rfl rfl dX12_landsOne_11 rfl ?_
  refine rv_istore (q := 14) (lv' := [_, _, _, _, _, _, _, _]) E.x dX12_landsOne_12 (Nat.le_of_ble_eq_true rfl) rfl rfl rfl ?_
  refine rv_aload_n (q := 15) E.x dX12_landsOne_14 rfl rfl ?_
  refine rv_iload_n (q := 16) E.x dX12_landsOne_15 rfl rfl ?_
  refine rv_b1 (fun r4 e3 => ?_)
  refine rR_calli (q := 19) E (c12_current E.2.2.1 e3) gX12_current hX12_current ⟨rfl, rfl⟩ ⟨Nat.le_of_ble_eq_true rfl, Nat.le_of_ble_eq_true rfl⟩ rfl rfl rfl (Nat.le_of_ble_eq_true rfl) dX12_landsOne_16 rfl ?_
  refine rv_istore (q := 21) (lv' := [_, _, _, _, _, _, _, _]) E.x dX12_landsOne_19 (Nat.le_of_ble_eq_true rfl) rfl rfl rfl ?_
  refine rv_aload_n (q := 22) E.x dX12_landsOne_21 rfl rfl ?_
  refine rR_get (q := 25) E 10 wf12_10 rfl (Nat.le_of_ble_eq_true rfl) rfl dX12_landsOne_22 rfl ?_
  refine rv_iload_n (q := 26) E.x dX12_landsOne_25 rfl rfl ?_
  refine rR_iald (q := 27) (n := 2) E (Nat.le_of_ble_eq_true rfl) rfl rfl dX12_landsOne_26 rfl ?_
  refine rv_if_ne (q := 30) (tgt := 75) E.x dX12_landsOne_27 (by decide) rfl ?_ ?_
  · refine rv_aload_n (q := 31) E.x dX12_landsOne_30 rfl rfl ?_
    refine rR_get (q := 34) E 9 wf12_9 rfl (Nat.le_of_ble_eq_true rfl) rfl dX12_landsOne_31 rfl ?_
    refine rv_iload_n (q := 35) E.x dX12_landsOne_34 rfl rfl ?_
    refine rv_aload_n (q := 36) E.x dX12_landsOne_35 rfl rfl ?_
    refine rR_get (q := 39) E 2 wf12_2 rfl (Nat.le_of_ble_eq_true rfl) rfl dX12_landsOne_36 rfl ?_
    refine rv_iload (q := 41) E.x dX12_landsOne_39 rfl rfl ?_
    refine rR_iald (q := 42) (n := 82) E (Nat.le_of_ble_eq_true rfl) rfl rfl dX12_landsOne_41 rfl ?_
    refine rv_iload (q := 44) E.x dX12_landsOne_42 rfl rfl ?_
    refine rv_icmp_ne (q := 47) (tgt := 52) E.x dX12_landsOne_44 (by decide) rfl ?_ ?_
    · refine rv_iload (q := 49) E.x dX12_landsOne_47 rfl rfl ?_
      refine rv_goto (q := 54) E.x dX12_landsOne_49 (by decide) ?_
      refine rv_wk [true, false, false, false, true, true, false, false] ?_
      exact b12_landsOne_54 E M (M 9 (r2).toNatClampNeg) r4 r2 r4
    · refine rv_iload (q := 54) E.x dX12_landsOne_52 rfl rfl ?_
      refine rv_wk [true, false, false, false, true, true, false, false] ?_
      exact b12_landsOne_54 E M (M 9 (r2).toNatClampNeg) r4 r2 (M 9 (r2).toNatClampNeg)
  · refine rv_aload_n (q := 76) E.x dX12_landsOne_75 rfl rfl ?_
    refine rR_get (q := 79) E 10 wf12_10 rfl (Nat.le_of_ble_eq_true rfl) rfl dX12_landsOne_76 rfl ?_
    refine rv_iload_n (q := 80) E.x dX12_landsOne_79 rfl rfl ?_
    refine rR_iald (q := 81) (n := 2) E (Nat.le_of_ble_eq_true rfl) rfl rfl dX12_landsOne_80 rfl ?_
    refine rv_iconst (q := 82) E.x dX12_landsOne_81 rv_ki2 rfl ?_
    refine rv_icmp_ne (q := 85) (tgt := 96) E.x dX12_landsOne_82 (by decide) rfl ?_ ?_
    · refine rv_aload_n (q := 86) E.x dX12_landsOne_85 rfl rfl ?_
      refine rv_iload_n (q := 87) E.x dX12_landsOne_86 rfl rfl ?_
      refine rv_iload_n (q := 88) E.x dX12_landsOne_87 rfl rfl ?_
      refine rv_b1 (fun r6 e5 => ?_)
      refine rR_calli (q := 91) E (c12_hasChild E.2.2.1 e5) gX12_hasChild hX12_hasChild ⟨rfl, rfl⟩ ⟨Nat.le_of_ble_eq_true rfl, Nat.le_of_ble_eq_true rfl⟩ rfl rfl rfl (Nat.le_of_ble_eq_true rfl) dX12_landsOne_88 rfl ?_
      refine rv_ifz_eq (q := 94) (tgt := 96) E.x dX12_landsOne_91 (by decide) rfl ?_ ?_
      · refine rv_iconst (q := 95) E.x dX12_landsOne_94 rv_kim1 rfl ?_
        exact rR_iret E rfl dX12_landsOne_95
      · refine rv_wk [true, true, true, true, true, true, false, false] ?_
        exact b12_landsOne_96 E M a1 a2 r2 (M 9 (r2).toNatClampNeg) r4
    · refine rv_wk [true, true, true, true, true, true, false, false] ?_
      exact b12_landsOne_96 E M a1 a2 r2 (M 9 (r2).toNatClampNeg) r4
theorem c12_landsOne {l : Launch} {D : va_G} {cI cZ : ClassId} {ad : Nat → Nat} (hI : rR_I ad) {M : rv_Mem} {a1 : Int32} {a2 : Int32} {r : Int32} {M1 : rv_Mem} (h : f12_landsOne M a1 a2 = some (r, M1)) : Met l yX12_landsOne (rv_ws yX12_landsOne cX12_landsOne 8 (some .int)) rm12_landsOne (rR_Pc D cI cZ ad [.ref (ad 67), .int a1, .int a2] M) (rR_QI D cI cZ ad r M1) 0 0 (rR_A ad) := rR_met hI rfl (rv_cat rfl) (Nat.le_of_ble_eq_true rfl) (fun p e s m args below meth c E => ⟨(rR_qIW D cI cZ ad below args s), rfl, b12_landsOne E M a1 a2⟩) h
abbrev rm12_areLandable : Room := { frames := 10, cells := 0, slots := 0, locals := 261 }
set_option maxRecDepth 100000 in
theorem b12_areLandable_46 {p : Program} {l : Launch} {e : Env} {s : State} {m : MethodId} {args : Array Value} {below : List Frame} {meth : Method} {c : Code} {D : va_G} {cI cZ : ClassId} {ad : Nat → Nat} (E : rR_E D cI cZ ad cX12_areLandable 4 (some .boolean) p s m args meth c) (k4 : rv_Mem → Int32 → Bool → Int32 → Option (Bool × rv_Mem)) (h4 : ∀ (M : rv_Mem) (x1 : Int32) (x2 : Bool) (x3 : Int32), rv_M (rR_G D cI cZ ad) (rR_A ad) p l e rm12_areLandable s m args below meth c 0 0 (rR_qZW D cI cZ ad below args s) (k4 M x1 x2 x3) 4 [some (.ref (ad 67)), some (.int x1), some (.int (rv_i x2)), some (.int x3)] [] M) : ∀ (M : rv_Mem) (x1 : Int32) (x3 : Int32) (s0 : Bool), rv_M (rR_G D cI cZ ad) (rR_A ad) p l e rm12_areLandable s m args below meth c 0 0 (rR_qZW D cI cZ ad below args s) (f12_areLandable_46 k4 M x1 x3 s0) 46 [some (.ref (ad 67)), some (.int x1), none, some (.int x3)] [.int (rv_i s0)] M := by
  intro M x1 x3 s0
  unfold f12_areLandable_46
  refine rv_istore_n (q := 47) (lv' := [_, _, _, _]) E.x dX12_areLandable_46 (Nat.le_of_ble_eq_true rfl) rfl rfl rfl ?_
  refine rv_iinc (q := 50) (lv' := [_, _, _, _]) E.x dX12_areLandable_47 rv_ki1 rfl rfl rfl rfl ?_
  refine rv_goto (q := 4) E.x dX12_areLandable_50 (by decide) ?_
  refine rv_wk [true, true, true, true] ?_
  exact h4 M x1 s0 (x3 + 1)
set_option maxRecDepth 100000 in
theorem b12_areLandable_41 {p : Program} {l : Launch} {e : Env} {s : State} {m : MethodId} {args : Array Value} {below : List Frame} {meth : Method} {c : Code} {D : va_G} {cI cZ : ClassId} {ad : Nat → Nat} (E : rR_E D cI cZ ad cX12_areLandable 4 (some .boolean) p s m args meth c) (k4 : rv_Mem → Int32 → Bool → Int32 → Option (Bool × rv_Mem)) (h4 : ∀ (M : rv_Mem) (x1 : Int32) (x2 : Bool) (x3 : Int32), rv_M (rR_G D cI cZ ad) (rR_A ad) p l e rm12_areLandable s m args below meth c 0 0 (rR_qZW D cI cZ ad below args s) (k4 M x1 x2 x3) 4 [some (.ref (ad 67)), some (.int x1), some (.int (rv_i x2)), some (.int x3)] [] M) : ∀ (M : rv_Mem) (x1 : Int32) (x3 : Int32), rv_M (rR_G D cI cZ ad) (rR_A ad) p l e rm12_areLandable s m args below meth c 0 0 (rR_qZW D cI cZ ad below args s) (f12_areLandable_41 k4 M x1 x3) 41 [some (.ref (ad 67)), some (.int x1), none, some (.int x3)] [] M := by
  intro M x1 x3
  unfold f12_areLandable_41
  refine rv_iconst (q := 42) E.x dX12_areLandable_41 rv_ki1 rfl ?_
  refine rv_goto (q := 46) E.x dX12_areLandable_42 (by decide) ?_
  refine rv_wk [true, true, false, true] ?_
  exact b12_areLandable_46 E k4 h4 M x1 x3 true
set_option maxRecDepth 100000 in
theorem b12_areLandable_45 {p : Program} {l : Launch} {e : Env} {s : State} {m : MethodId} {args : Array Value} {below : List Frame} {meth : Method} {c : Code} {D : va_G} {cI cZ : ClassId} {ad : Nat → Nat} (E : rR_E D cI cZ ad cX12_areLandable 4 (some .boolean) p s m args meth c) (k4 : rv_Mem → Int32 → Bool → Int32 → Option (Bool × rv_Mem)) (h4 : ∀ (M : rv_Mem) (x1 : Int32) (x2 : Bool) (x3 : Int32), rv_M (rR_G D cI cZ ad) (rR_A ad) p l e rm12_areLandable s m args below meth c 0 0 (rR_qZW D cI cZ ad below args s) (k4 M x1 x2 x3) 4 [some (.ref (ad 67)), some (.int x1), some (.int (rv_i x2)), some (.int x3)] [] M) : ∀ (M : rv_Mem) (x1 : Int32) (x3 : Int32), rv_M (rR_G D cI cZ ad) (rR_A ad) p l e rm12_areLandable s m args below meth c 0 0 (rR_qZW D cI cZ ad below args s) (f12_areLandable_45 k4 M x1 x3) 45 [some (.ref (ad 67)), some (.int x1), none, some (.int x3)] [] M := by
  intro M x1 x3
  unfold f12_areLandable_45
  refine rv_iconst (q := 46) E.x dX12_areLandable_45 rv_ki0 rfl ?_
  refine rv_wk [true, true, false, true] ?_
  exact b12_areLandable_46 E k4 h4 M x1 x3 false
set_option maxRecDepth 100000 in
theorem b12_areLandable_4_s {p : Program} {l : Launch} {e : Env} {s : State} {m : MethodId} {args : Array Value} {below : List Frame} {meth : Method} {c : Code} {D : va_G} {cI cZ : ClassId} {ad : Nat → Nat} (E : rR_E D cI cZ ad cX12_areLandable 4 (some .boolean) p s m args meth c)   (k4 : rv_Mem → Int32 → Bool → Int32 → Option (Bool × rv_Mem)) (h4 : ∀ (M : rv_Mem) (x1 : Int32) (x2 : Bool) (x3 : Int32), rv_M (rR_G D cI cZ ad) (rR_A ad) p l e rm12_areLandable s m args below meth c 0 0 (rR_qZW D cI cZ ad below args s) (k4 M x1 x2 x3) 4 [some (.ref (ad 67)), some (.int x1), some (.int (rv_i x2)), some (.int x3)] [] M) : ∀ (M : rv_Mem) (x1 : Int32) (x2 : Bool) (x3 : Int32), rv_M (rR_G D cI cZ ad) (rR_A ad) p l e rm12_areLandable s m args below meth c 0 0 (rR_qZW D cI cZ ad below args s) (f12_areLandable_4_s k4 M x1 x2 x3) 4 [some (.ref (ad 67)), some (.int x1), some (.int (rv_i x2)), some (.int x3)] [] M := by
  intro M x1 x2 x3
  unfold f12_areLandable_4_s
  refine rv_iload_n (q := 5) E.x dX12_areLandable_4 rfl rfl ?_
  refine rv_aload_n (q := 6) E.x dX12_areLandable_5 rfl rfl ?_
  refine rR_get (q := 9) E 11 wf12_11 rfl (Nat.le_of_ble_eq_true rfl) rfl dX12_areLandable_6 rfl ?_
  refine rv_icmp_ge (q := 12) (tgt := 53) E.x dX12_areLandable_9 (by decide) rfl ?_ ?_
  · refine rv_iload_n (q := 13) E.x dX12_areLandable_12 rfl rfl ?_
    refine rv_ifz_eq (q := 16) (tgt := 45) E.x dX12_areLandable_13 (by decide) rfl ?_ ?_
    · refine rv_iload_n (q := 17) E.x dX12_areLandable_16 rfl rfl ?_
      refine rv_iload_n (q := 18) E.x dX12_areLandable_17 rfl rfl ?_
      refine rv_b1 (fun r2 e1 => ?_)
      refine rR_calls (q := 21) E (c12_isOf e1) gX12_isOf hX12_isOf ⟨rfl, rfl⟩ ⟨Nat.le_of_ble_eq_true rfl, Nat.le_of_ble_eq_true rfl⟩ rfl rfl rfl (Nat.le_of_ble_eq_true rfl) dX12_areLandable_18 rfl ?_
      refine rv_ifz_eq (q := 24) (tgt := 41) E.x dX12_areLandable_21 (by decide) rfl ?_ ?_
      · refine rv_aload_n (q := 25) E.x dX12_areLandable_24 rfl rfl ?_
        refine rv_iload_n (q := 26) E.x dX12_areLandable_25 rfl rfl ?_
        refine rv_iload_n (q := 27) E.x dX12_areLandable_26 rfl rfl ?_
        refine rv_b2 (fun r4 M5 e3 => ?_)
        refine rR_calli (q := 30) E (c12_isReady E.2.2.1 e3) gX12_isReady hX12_isReady ⟨rfl, rfl⟩ ⟨Nat.le_of_ble_eq_true rfl, Nat.le_of_ble_eq_true rfl⟩ rfl rfl rfl (Nat.le_of_ble_eq_true rfl) dX12_areLandable_27 rfl ?_
        refine rv_ifz_eq (q := 33) (tgt := 45) E.x dX12_areLandable_30 (by decide) rfl ?_ ?_
        · refine rv_aload_n (q := 34) E.x dX12_areLandable_33 rfl rfl ?_
          refine rv_iload_n (q := 35) E.x dX12_areLandable_34 rfl rfl ?_
          refine rv_b1 (fun r7 e6 => ?_)
          refine rR_calli (q := 38) E (c12_isOutdated E.2.2.1 e6) gX12_isOutdated hX12_isOutdated ⟨rfl, rfl⟩ ⟨Nat.le_of_ble_eq_true rfl, Nat.le_of_ble_eq_true rfl⟩ rfl rfl rfl (Nat.le_of_ble_eq_true rfl) dX12_areLandable_35 rfl ?_
          refine rv_ifz_ne (q := 41) (tgt := 45) E.x dX12_areLandable_38 (by decide) rfl ?_ ?_
          · refine rv_wk [true, true, false, true] ?_
            exact b12_areLandable_41 E k4 h4 M5 x1 x3
          · refine rv_wk [true, true, false, true] ?_
            exact b12_areLandable_45 E k4 h4 M5 x1 x3
        · refine rv_wk [true, true, false, true] ?_
          exact b12_areLandable_45 E k4 h4 M5 x1 x3
      · refine rv_wk [true, true, false, true] ?_
        exact b12_areLandable_41 E k4 h4 M x1 x3
    · refine rv_wk [true, true, false, true] ?_
      exact b12_areLandable_45 E k4 h4 M x1 x3
  · refine rv_iload_n (q := 54) E.x dX12_areLandable_53 rfl rfl ?_
    exact rR_zret E x2 rfl dX12_areLandable_54
theorem b12_areLandable_4 {p : Program} {l : Launch} {e : Env} {s : State} {m : MethodId} {args : Array Value} {below : List Frame} {meth : Method} {c : Code} {D : va_G} {cI cZ : ClassId} {ad : Nat → Nat} (E : rR_E D cI cZ ad cX12_areLandable 4 (some .boolean) p s m args meth c)   : ∀ (n : Nat), ∀ (M : rv_Mem) (x1 : Int32) (x2 : Bool) (x3 : Int32), rv_M (rR_G D cI cZ ad) (rR_A ad) p l e rm12_areLandable s m args below meth c 0 0 (rR_qZW D cI cZ ad below args s) (f12_areLandable_4 n M x1 x2 x3) 4 [some (.ref (ad 67)), some (.int x1), some (.int (rv_i x2)), some (.int x3)] [] M := by
  intro n
  induction n with
  | zero => exact fun _ _ _ _ => rv_stuck
  | succ n ih => exact b12_areLandable_4_s E  (f12_areLandable_4 n) ih
set_option maxRecDepth 100000 in
theorem b12_areLandable {p : Program} {l : Launch} {e : Env} {s : State} {m : MethodId} {args : Array Value} {below : List Frame} {meth : Method} {c : Code} {D : va_G} {cI cZ : ClassId} {ad : Nat → Nat} (E : rR_E D cI cZ ad cX12_areLandable 4 (some .boolean) p s m args meth c) (M : rv_Mem) (a1 : Int32) : rv_M (rR_G D cI cZ ad) (rR_A ad) p l e rm12_areLandable s m args below meth c 0 0  (rR_qZW D cI cZ ad below args s) (f12_areLandable M a1) 0 [some (.ref (ad 67)), some (.int a1), none, none] [] M := by
  unfold f12_areLandable
  refine rv_iconst (q := 1) E.x dX12_areLandable_0 rv_ki1 rfl ?_
  refine rv_istore_n (q := 2) (lv' := [_, _, _, _]) E.x dX12_areLandable_1 (Nat.le_of_ble_eq_true rfl) rfl rfl rfl ?_
  refine rv_iconst (q := 3) E.x dX12_areLandable_2 rv_ki0 rfl ?_
  refine rv_istore_n (q := 4) (lv' := [_, _, _, _]) E.x dX12_areLandable_3 (Nat.le_of_ble_eq_true rfl) rfl rfl rfl ?_
  refine rv_wk [true, true, true, true] ?_
  exact b12_areLandable_4 E rv_FU M a1 true 0
theorem c12_areLandable {l : Launch} {D : va_G} {cI cZ : ClassId} {ad : Nat → Nat} (hI : rR_I ad) {M : rv_Mem} {a1 : Int32} {r : Bool} {M1 : rv_Mem} (h : f12_areLandable M a1 = some (r, M1)) : Met l yX12_areLandable (rv_ws yX12_areLandable cX12_areLandable 4 (some .boolean)) rm12_areLandable (rR_Pc D cI cZ ad [.ref (ad 67), .int a1] M) (rR_QI D cI cZ ad (rv_i r) M1) 0 0 (rR_A ad) := rR_met hI rfl (rv_cat rfl) (Nat.le_of_ble_eq_true rfl) (fun p e s m args below meth c E => ⟨(rR_qZW D cI cZ ad below args s), rfl, b12_areLandable E M a1⟩) h
abbrev rm12_isBelow : Room := { frames := 3, cells := 0, slots := 0, locals := 67 }
set_option maxRecDepth 100000 in
theorem b12_isBelow_37 {p : Program} {l : Launch} {e : Env} {s : State} {m : MethodId} {args : Array Value} {below : List Frame} {meth : Method} {c : Code} {D : va_G} {cI cZ : ClassId} {ad : Nat → Nat} (E : rR_E D cI cZ ad cX12_isBelow 6 (some .boolean) p s m args meth c) (M : rv_Mem) (k6 : Int32 → Int32 → Bool → Int32 → Option (Bool)) (h6 : ∀ (x2 : Int32) (x3 : Int32) (x4 : Bool) (x5 : Int32), rv_M (rR_G D cI cZ ad) (rR_A ad) p l e rm12_isBelow s m args below meth c 0 0 (rR_qZ D cI cZ ad below args s M) (k6 x2 x3 x4 x5) 6 [some (.ref (ad 67)), none, some (.int x2), some (.int x3), some (.int (rv_i x4)), some (.int x5)] [] M) : ∀ (x2 : Int32) (x3 : Int32) (x5 : Int32) (s0 : Bool), rv_M (rR_G D cI cZ ad) (rR_A ad) p l e rm12_isBelow s m args below meth c 0 0 (rR_qZ D cI cZ ad below args s M) (f12_isBelow_37 M k6 x2 x3 x5 s0) 37 [some (.ref (ad 67)), none, some (.int x2), some (.int x3), none, some (.int x5)] [.int (rv_i s0)] M := by
  intro x2 x3 x5 s0
  unfold f12_isBelow_37
  refine rv_istore (q := 39) (lv' := [_, _, _, _, _, _]) E.x dX12_isBelow_37 (Nat.le_of_ble_eq_true rfl) rfl rfl rfl ?_
  refine rv_aload_n (q := 40) E.x dX12_isBelow_39 rfl rfl ?_
  refine rv_iload (q := 42) E.x dX12_isBelow_40 rfl rfl ?_
  refine rv_b1 (fun r2 e1 => ?_)
  refine rR_calli (q := 45) E (c12_parent E.2.2.1 e1) gX12_parent hX12_parent ⟨rfl, rfl⟩ ⟨Nat.le_of_ble_eq_true rfl, Nat.le_of_ble_eq_true rfl⟩ rfl rfl rfl (Nat.le_of_ble_eq_true rfl) dX12_isBelow_42 rfl ?_
  refine rv_istore (q := 47) (lv' := [_, _, _, _, _, _]) E.x dX12_isBelow_45 (Nat.le_of_ble_eq_true rfl) rfl rfl rfl ?_
  refine rv_goto (q := 6) E.x dX12_isBelow_47 (by decide) ?_
  refine rv_wk [true, false, true, true, true, true] ?_
  exact h6 x2 x3 s0 r2
set_option maxRecDepth 100000 in
theorem b12_isBelow_6_s {p : Program} {l : Launch} {e : Env} {s : State} {m : MethodId} {args : Array Value} {below : List Frame} {meth : Method} {c : Code} {D : va_G} {cI cZ : ClassId} {ad : Nat → Nat} (E : rR_E D cI cZ ad cX12_isBelow 6 (some .boolean) p s m args meth c) (M : rv_Mem)   (k6 : Int32 → Int32 → Bool → Int32 → Option (Bool)) (h6 : ∀ (x2 : Int32) (x3 : Int32) (x4 : Bool) (x5 : Int32), rv_M (rR_G D cI cZ ad) (rR_A ad) p l e rm12_isBelow s m args below meth c 0 0 (rR_qZ D cI cZ ad below args s M) (k6 x2 x3 x4 x5) 6 [some (.ref (ad 67)), none, some (.int x2), some (.int x3), some (.int (rv_i x4)), some (.int x5)] [] M) : ∀ (x2 : Int32) (x3 : Int32) (x4 : Bool) (x5 : Int32), rv_M (rR_G D cI cZ ad) (rR_A ad) p l e rm12_isBelow s m args below meth c 0 0 (rR_qZ D cI cZ ad below args s M) (f12_isBelow_6_s M k6 x2 x3 x4 x5) 6 [some (.ref (ad 67)), none, some (.int x2), some (.int x3), some (.int (rv_i x4)), some (.int x5)] [] M := by
  intro x2 x3 x4 x5
  unfold f12_isBelow_6_s
  refine rv_iload (q := 8) E.x dX12_isBelow_6 rfl rfl ?_
  refine rv_iconst (q := 9) E.x dX12_isBelow_8 rv_kim1 rfl ?_
  refine rv_icmp_eq (q := 12) (tgt := 50) E.x dX12_isBelow_9 (by decide) rfl ?_ ?_
  · refine rv_iload_n (q := 13) E.x dX12_isBelow_12 rfl rfl ?_
    refine rv_iload (q := 15) E.x dX12_isBelow_13 rfl rfl ?_
    refine rv_b1 (fun r2 e1 => ?_)
    refine rR_calls (q := 18) E (c12_isOf e1) gX12_isOf hX12_isOf ⟨rfl, rfl⟩ ⟨Nat.le_of_ble_eq_true rfl, Nat.le_of_ble_eq_true rfl⟩ rfl rfl rfl (Nat.le_of_ble_eq_true rfl) dX12_isBelow_15 rfl ?_
    refine rv_ifz_eq (q := 21) (tgt := 50) E.x dX12_isBelow_18 (by decide) rfl ?_ ?_
    · refine rv_iload (q := 23) E.x dX12_isBelow_21 rfl rfl ?_
      refine rv_ifz_ne (q := 26) (tgt := 50) E.x dX12_isBelow_23 (by decide) rfl ?_ ?_
      · refine rv_iload (q := 28) E.x dX12_isBelow_26 rfl rfl ?_
        refine rv_iload_n (q := 29) E.x dX12_isBelow_28 rfl rfl ?_
        refine rv_icmp_ne (q := 32) (tgt := 36) E.x dX12_isBelow_29 (by decide) rfl ?_ ?_
        · refine rv_iconst (q := 33) E.x dX12_isBelow_32 rv_ki1 rfl ?_
          refine rv_goto (q := 37) E.x dX12_isBelow_33 (by decide) ?_
          refine rv_wk [true, false, true, true, false, true] ?_
          exact b12_isBelow_37 E M k6 h6 x2 x3 x5 true
        · refine rv_iconst (q := 37) E.x dX12_isBelow_36 rv_ki0 rfl ?_
          refine rv_wk [true, false, true, true, false, true] ?_
          exact b12_isBelow_37 E M k6 h6 x2 x3 x5 false
      · refine rv_iload (q := 52) E.x dX12_isBelow_50 rfl rfl ?_
        exact rR_zret E x4 rfl dX12_isBelow_52
    · refine rv_iload (q := 52) E.x dX12_isBelow_50 rfl rfl ?_
      exact rR_zret E x4 rfl dX12_isBelow_52
  · refine rv_iload (q := 52) E.x dX12_isBelow_50 rfl rfl ?_
    exact rR_zret E x4 rfl dX12_isBelow_52
theorem b12_isBelow_6 {p : Program} {l : Launch} {e : Env} {s : State} {m : MethodId} {args : Array Value} {below : List Frame} {meth : Method} {c : Code} {D : va_G} {cI cZ : ClassId} {ad : Nat → Nat} (E : rR_E D cI cZ ad cX12_isBelow 6 (some .boolean) p s m args meth c) (M : rv_Mem)   : ∀ (n : Nat), ∀ (x2 : Int32) (x3 : Int32) (x4 : Bool) (x5 : Int32), rv_M (rR_G D cI cZ ad) (rR_A ad) p l e rm12_isBelow s m args below meth c 0 0 (rR_qZ D cI cZ ad below args s M) (f12_isBelow_6 M n x2 x3 x4 x5) 6 [some (.ref (ad 67)), none, some (.int x2), some (.int x3), some (.int (rv_i x4)), some (.int x5)] [] M := by
  intro n
  induction n with
  | zero => exact fun _ _ _ _ => rv_stuck
  | succ n ih => exact b12_isBelow_6_s E M (f12_isBelow_6 M n) ih
set_option maxRecDepth 100000 in
theorem b12_isBelow {p : Program} {l : Launch} {e : Env} {s : State} {m : MethodId} {args : Array Value} {below : List Frame} {meth : Method} {c : Code} {D : va_G} {cI cZ : ClassId} {ad : Nat → Nat} (E : rR_E D cI cZ ad cX12_isBelow 6 (some .boolean) p s m args meth c) (M : rv_Mem) (a1 : Int32) (a2 : Int32) (a3 : Int32) : rv_M (rR_G D cI cZ ad) (rR_A ad) p l e rm12_isBelow s m args below meth c 0 0  (rR_qZ D cI cZ ad below args s M) (f12_isBelow M a1 a2 a3) 0 [some (.ref (ad 67)), some (.int a1), some (.int a2), some (.int a3), none, none] [] M := by
  unfold f12_isBelow
  refine rv_iconst (q := 1) E.x dX12_isBelow_0 rv_ki0 rfl ?_
  refine rv_istore (q := 3) (lv' := [_, _, _, _, _, _]) E.x dX12_isBelow_1 (Nat.le_of_ble_eq_true rfl) rfl rfl rfl ?_
  refine rv_iload_n (q := 4) E.x dX12_isBelow_3 rfl rfl ?_
  refine rv_istore (q := 6) (lv' := [_, _, _, _, _, _]) E.x dX12_isBelow_4 (Nat.le_of_ble_eq_true rfl) rfl rfl rfl ?_
  refine rv_wk [true, false, true, true, true, true] ?_
  exact b12_isBelow_6 E M rv_FU a2 a3 false a1
theorem c12_isBelow {l : Launch} {D : va_G} {cI cZ : ClassId} {ad : Nat → Nat} (hI : rR_I ad) {M : rv_Mem} {a1 : Int32} {a2 : Int32} {a3 : Int32} {r : Bool} (h : f12_isBelow M a1 a2 a3 = some r) : Met l yX12_isBelow (rv_ws yX12_isBelow cX12_isBelow 6 (some .boolean)) rm12_isBelow (rR_Pc D cI cZ ad [.ref (ad 67), .int a1, .int a2, .int a3] M) (rR_QI D cI cZ ad (rv_i r) M) 0 0 (rR_A ad) := rR_met hI rfl (rv_cat rfl) (Nat.le_of_ble_eq_true rfl) (fun p e s m args below meth c E => ⟨(rR_qZ D cI cZ ad below args s M), rfl, b12_isBelow E M a1 a2 a3⟩) h
abbrev rm12_landed : Room := { frames := 4, cells := 0, slots := 0, locals := 90 }
set_option maxRecDepth 100000 in
theorem b12_landed_38 {p : Program} {l : Launch} {e : Env} {s : State} {m : MethodId} {args : Array Value} {below : List Frame} {meth : Method} {c : Code} {D : va_G} {cI cZ : ClassId} {ad : Nat → Nat} (E : rR_E D cI cZ ad cX12_landed 4 none p s m args meth c) (k2 : rv_Mem → Int32 → Int32 → Int32 → Option (rv_Mem)) (h2 : ∀ (M : rv_Mem) (x1 : Int32) (x2 : Int32) (x3 : Int32), rv_M (rR_G D cI cZ ad) (rR_A ad) p l e rm12_landed s m args below meth c 0 0 (rR_qV D cI cZ ad below args s) (k2 M x1 x2 x3) 2 [some (.ref (ad 67)), some (.int x1), some (.int x2), some (.int x3)] [] M) : ∀ (M : rv_Mem) (x1 : Int32) (x2 : Int32) (x3 : Int32), rv_M (rR_G D cI cZ ad) (rR_A ad) p l e rm12_landed s m args below meth c 0 0 (rR_qV D cI cZ ad below args s) (f12_landed_38 k2 M x1 x2 x3) 38 [some (.ref (ad 67)), some (.int x1), some (.int x2), some (.int x3)] [] M := by
  intro M x1 x2 x3
  unfold f12_landed_38
  refine rv_iinc (q := 41) (lv' := [_, _, _, _]) E.x dX12_landed_38 rv_ki1 rfl rfl rfl rfl ?_
  refine rv_goto (q := 2) E.x dX12_landed_41 (by decide) ?_
  refine rv_wk [true, true, true, true] ?_
  exact h2 M x1 x2 (x3 + 1)
set_option maxRecDepth 100000 in
theorem b12_landed_2_s {p : Program} {l : Launch} {e : Env} {s : State} {m : MethodId} {args : Array Value} {below : List Frame} {meth : Method} {c : Code} {D : va_G} {cI cZ : ClassId} {ad : Nat → Nat} (E : rR_E D cI cZ ad cX12_landed 4 none p s m args meth c)   (k2 : rv_Mem → Int32 → Int32 → Int32 → Option (rv_Mem)) (h2 : ∀ (M : rv_Mem) (x1 : Int32) (x2 : Int32) (x3 : Int32), rv_M (rR_G D cI cZ ad) (rR_A ad) p l e rm12_landed s m args below meth c 0 0 (rR_qV D cI cZ ad below args s) (k2 M x1 x2 x3) 2 [some (.ref (ad 67)), some (.int x1), some (.int x2), some (.int x3)] [] M) : ∀ (M : rv_Mem) (x1 : Int32) (x2 : Int32) (x3 : Int32), rv_M (rR_G D cI cZ ad) (rR_A ad) p l e rm12_landed s m args below meth c 0 0 (rR_qV D cI cZ ad below args s) (f12_landed_2_s k2 M x1 x2 x3) 2 [some (.ref (ad 67)), some (.int x1), some (.int x2), some (.int x3)] [] M := by
  intro M x1 x2 x3
  unfold f12_landed_2_s
  refine rv_iload_n (q := 3) E.x dX12_landed_2 rfl rfl ?_
  refine rv_aload_n (q := 4) E.x dX12_landed_3 rfl rfl ?_
  refine rR_get (q := 7) E 11 wf12_11 rfl (Nat.le_of_ble_eq_true rfl) rfl dX12_landed_4 rfl ?_
  refine rv_icmp_ge (q := 10) (tgt := 44) E.x dX12_landed_7 (by decide) rfl ?_ ?_
  · refine rv_iload_n (q := 11) E.x dX12_landed_10 rfl rfl ?_
    refine rv_iload_n (q := 12) E.x dX12_landed_11 rfl rfl ?_
    refine rv_b1 (fun r2 e1 => ?_)
    refine rR_calls (q := 15) E (c12_isOf e1) gX12_isOf hX12_isOf ⟨rfl, rfl⟩ ⟨Nat.le_of_ble_eq_true rfl, Nat.le_of_ble_eq_true rfl⟩ rfl rfl rfl (Nat.le_of_ble_eq_true rfl) dX12_landed_12 rfl ?_
    refine rv_ifz_eq (q := 18) (tgt := 38) E.x dX12_landed_15 (by decide) rfl ?_ ?_
    · refine rv_aload_n (q := 19) E.x dX12_landed_18 rfl rfl ?_
      refine rR_get (q := 22) E 13 wf12_13 rfl (Nat.le_of_ble_eq_true rfl) rfl dX12_landed_19 rfl ?_
      refine rv_iload_n (q := 23) E.x dX12_landed_22 rfl rfl ?_
      refine rv_iconst (q := 24) E.x dX12_landed_23 rv_ki1 rfl ?_
      refine rR_iast (q := 25) (n := 20) E (Nat.le_of_ble_eq_true rfl) rfl rfl dX12_landed_24 rfl ?_
      refine rv_ltm (fun M3 => ?_)
      refine rv_aload_n (q := 26) E.x dX12_landed_25 rfl rfl ?_
      refine rR_get (q := 29) E 20 wf12_20 rfl (Nat.le_of_ble_eq_true rfl) rfl dX12_landed_26 rfl ?_
      refine rv_iload_n (q := 30) E.x dX12_landed_29 rfl rfl ?_
      refine rv_iconst (q := 31) E.x dX12_landed_30 rv_ki0 rfl ?_
      refine rR_iast (q := 32) (n := 20) E (Nat.le_of_ble_eq_true rfl) rfl rfl dX12_landed_31 rfl ?_
      refine rv_ltm (fun M4 => ?_)
      refine rv_aload_n (q := 33) E.x dX12_landed_32 rfl rfl ?_
      refine rv_iload_n (q := 34) E.x dX12_landed_33 rfl rfl ?_
      refine rv_iload_n (q := 35) E.x dX12_landed_34 rfl rfl ?_
      refine rv_b1 (fun M6 e5 => ?_)
      refine rR_callv (q := 38) E (c12_tells E.2.2.1 e5) gX12_tells hX12_tells ⟨rfl, rfl⟩ ⟨Nat.le_of_ble_eq_true rfl, Nat.le_of_ble_eq_true rfl⟩ rfl rfl rfl (Nat.le_of_ble_eq_true rfl) dX12_landed_35 rfl ?_
      refine rv_wk [true, true, true, true] ?_
      exact b12_landed_38 E k2 h2 M6 x1 x2 x3
    · refine rv_wk [true, true, true, true] ?_
      exact b12_landed_38 E k2 h2 M x1 x2 x3
  · exact rR_vret E rfl dX12_landed_44
theorem b12_landed_2 {p : Program} {l : Launch} {e : Env} {s : State} {m : MethodId} {args : Array Value} {below : List Frame} {meth : Method} {c : Code} {D : va_G} {cI cZ : ClassId} {ad : Nat → Nat} (E : rR_E D cI cZ ad cX12_landed 4 none p s m args meth c)   : ∀ (n : Nat), ∀ (M : rv_Mem) (x1 : Int32) (x2 : Int32) (x3 : Int32), rv_M (rR_G D cI cZ ad) (rR_A ad) p l e rm12_landed s m args below meth c 0 0 (rR_qV D cI cZ ad below args s) (f12_landed_2 n M x1 x2 x3) 2 [some (.ref (ad 67)), some (.int x1), some (.int x2), some (.int x3)] [] M := by
  intro n
  induction n with
  | zero => exact fun _ _ _ _ => rv_stuck
  | succ n ih => exact b12_landed_2_s E  (f12_landed_2 n) ih
set_option maxRecDepth 100000 in
theorem b12_landed {p : Program} {l : Launch} {e : Env} {s : State} {m : MethodId} {args : Array Value} {below : List Frame} {meth : Method} {c : Code} {D : va_G} {cI cZ : ClassId} {ad : Nat → Nat} (E : rR_E D cI cZ ad cX12_landed 4 none p s m args meth c) (M : rv_Mem) (a1 : Int32) (a2 : Int32) : rv_M (rR_G D cI cZ ad) (rR_A ad) p l e rm12_landed s m args below meth c 0 0  (rR_qV D cI cZ ad below args s) (f12_landed M a1 a2) 0 [some (.ref (ad 67)), some (.int a1), some (.int a2), none] [] M := by
  unfold f12_landed
  refine rv_iconst (q := 1) E.x dX12_landed_0 rv_ki0 rfl ?_
  refine rv_istore_n (q := 2) (lv' := [_, _, _, _]) E.x dX12_landed_1 (Nat.le_of_ble_eq_true rfl) rfl rfl rfl ?_
  refine rv_wk [true, true, true, true] ?_
  exact b12_landed_2 E rv_FU M a1 a2 0
theorem c12_landed {l : Launch} {D : va_G} {cI cZ : ClassId} {ad : Nat → Nat} (hI : rR_I ad) {M : rv_Mem} {a1 : Int32} {a2 : Int32} {M1 : rv_Mem} (h : f12_landed M a1 a2 = some M1) : Met l yX12_landed (rv_ws yX12_landed cX12_landed 4 none) rm12_landed (rR_Pc D cI cZ ad [.ref (ad 67), .int a1, .int a2] M) (rR_QV D cI cZ ad M1) 0 0 (rR_A ad) := rR_met hI rfl (rv_cat rfl) (Nat.le_of_ble_eq_true rfl) (fun p e s m args below meth c E => ⟨(rR_qV D cI cZ ad below args s), rfl, b12_landed E M a1 a2⟩) h
abbrev rm12_names : Room := { frames := 1, cells := 0, slots := 0, locals := 21 }
set_option maxRecDepth 100000 in
theorem b12_names_38 {p : Program} {l : Launch} {e : Env} {s : State} {m : MethodId} {args : Array Value} {below : List Frame} {meth : Method} {c : Code} {D : va_G} {cI cZ : ClassId} {ad : Nat → Nat} (E : rR_E D cI cZ ad cX12_names 4 none p s m args meth c) (k2 : rv_Mem → Int32 → Int32 → Int32 → Option (rv_Mem)) (h2 : ∀ (M : rv_Mem) (x1 : Int32) (x2 : Int32) (x3 : Int32), rv_M (rR_G D cI cZ ad) (rR_A ad) p l e rm12_names s m args below meth c 0 0 (rR_qV D cI cZ ad below args s) (k2 M x1 x2 x3) 2 [some (.ref (ad 67)), some (.int x1), some (.int x2), some (.int x3)] [] M) : ∀ (M : rv_Mem) (x1 : Int32) (x2 : Int32) (x3 : Int32), rv_M (rR_G D cI cZ ad) (rR_A ad) p l e rm12_names s m args below meth c 0 0 (rR_qV D cI cZ ad below args s) (f12_names_38 k2 M x1 x2 x3) 38 [some (.ref (ad 67)), some (.int x1), some (.int x2), some (.int x3)] [] M := by
  intro M x1 x2 x3
  unfold f12_names_38
  refine rv_iinc (q := 41) (lv' := [_, _, _, _]) E.x dX12_names_38 rv_ki1 rfl rfl rfl rfl ?_
  refine rv_goto (q := 2) E.x dX12_names_41 (by decide) ?_
  refine rv_wk [true, true, true, true] ?_
  exact h2 M x1 x2 (x3 + 1)
set_option maxRecDepth 100000 in
theorem b12_names_2_s {p : Program} {l : Launch} {e : Env} {s : State} {m : MethodId} {args : Array Value} {below : List Frame} {meth : Method} {c : Code} {D : va_G} {cI cZ : ClassId} {ad : Nat → Nat} (E : rR_E D cI cZ ad cX12_names 4 none p s m args meth c)   (k2 : rv_Mem → Int32 → Int32 → Int32 → Option (rv_Mem)) (h2 : ∀ (M : rv_Mem) (x1 : Int32) (x2 : Int32) (x3 : Int32), rv_M (rR_G D cI cZ ad) (rR_A ad) p l e rm12_names s m args below meth c 0 0 (rR_qV D cI cZ ad below args s) (k2 M x1 x2 x3) 2 [some (.ref (ad 67)), some (.int x1), some (.int x2), some (.int x3)] [] M) : ∀ (M : rv_Mem) (x1 : Int32) (x2 : Int32) (x3 : Int32), rv_M (rR_G D cI cZ ad) (rR_A ad) p l e rm12_names s m args below meth c 0 0 (rR_qV D cI cZ ad below args s) (f12_names_2_s k2 M x1 x2 x3) 2 [some (.ref (ad 67)), some (.int x1), some (.int x2), some (.int x3)] [] M := by
  intro M x1 x2 x3
  unfold f12_names_2_s
  refine rv_iload_n (q := 3) E.x dX12_names_2 rfl rfl ?_
  refine rv_aload_n (q := 4) E.x dX12_names_3 rfl rfl ?_
  refine rR_get (q := 7) E 11 wf12_11 rfl (Nat.le_of_ble_eq_true rfl) rfl dX12_names_4 rfl ?_
  refine rv_icmp_ge (q := 10) (tgt := 44) E.x dX12_names_7 (by decide) rfl ?_ ?_
  · refine rv_iload_n (q := 11) E.x dX12_names_10 rfl rfl ?_
    refine rv_iload_n (q := 12) E.x dX12_names_11 rfl rfl ?_
    refine rv_b1 (fun r2 e1 => ?_)
    refine rR_calls (q := 15) E (c12_isOf e1) gX12_isOf hX12_isOf ⟨rfl, rfl⟩ ⟨Nat.le_of_ble_eq_true rfl, Nat.le_of_ble_eq_true rfl⟩ rfl rfl rfl (Nat.le_of_ble_eq_true rfl) dX12_names_12 rfl ?_
    refine rv_ifz_eq (q := 18) (tgt := 38) E.x dX12_names_15 (by decide) rfl ?_ ?_
    · refine rv_iload_n (q := 19) E.x dX12_names_18 rfl rfl ?_
      refine rv_iload_n (q := 20) E.x dX12_names_19 rfl rfl ?_
      refine rv_b1 (fun r4 e3 => ?_)
      refine rR_calls (q := 23) E (c12_isOf e3) gX12_isOf hX12_isOf ⟨rfl, rfl⟩ ⟨Nat.le_of_ble_eq_true rfl, Nat.le_of_ble_eq_true rfl⟩ rfl rfl rfl (Nat.le_of_ble_eq_true rfl) dX12_names_20 rfl ?_
      refine rv_ifz_ne (q := 26) (tgt := 38) E.x dX12_names_23 (by decide) rfl ?_ ?_
      · refine rv_aload_n (q := 27) E.x dX12_names_26 rfl rfl ?_
        refine rR_get (q := 30) E 8 wf12_8 rfl (Nat.le_of_ble_eq_true rfl) rfl dX12_names_27 rfl ?_
        refine rv_aload_n (q := 31) E.x dX12_names_30 rfl rfl ?_
        refine rR_get (q := 34) E 18 wf12_18 rfl (Nat.le_of_ble_eq_true rfl) rfl dX12_names_31 rfl ?_
        refine rv_iload_n (q := 35) E.x dX12_names_34 rfl rfl ?_
        refine rR_iald (q := 36) (n := 20) E (Nat.le_of_ble_eq_true rfl) rfl rfl dX12_names_35 rfl ?_
        refine rv_iload_n (q := 37) E.x dX12_names_36 rfl rfl ?_
        refine rR_iast (q := 38) (n := 82) E (Nat.le_of_ble_eq_true rfl) rfl rfl dX12_names_37 rfl ?_
        refine rv_ltm (fun M5 => ?_)
        refine rv_wk [true, true, true, true] ?_
        exact b12_names_38 E k2 h2 M5 x1 x2 x3
      · refine rv_wk [true, true, true, true] ?_
        exact b12_names_38 E k2 h2 M x1 x2 x3
    · refine rv_wk [true, true, true, true] ?_
      exact b12_names_38 E k2 h2 M x1 x2 x3
  · exact rR_vret E rfl dX12_names_44
theorem b12_names_2 {p : Program} {l : Launch} {e : Env} {s : State} {m : MethodId} {args : Array Value} {below : List Frame} {meth : Method} {c : Code} {D : va_G} {cI cZ : ClassId} {ad : Nat → Nat} (E : rR_E D cI cZ ad cX12_names 4 none p s m args meth c)   : ∀ (n : Nat), ∀ (M : rv_Mem) (x1 : Int32) (x2 : Int32) (x3 : Int32), rv_M (rR_G D cI cZ ad) (rR_A ad) p l e rm12_names s m args below meth c 0 0 (rR_qV D cI cZ ad below args s) (f12_names_2 n M x1 x2 x3) 2 [some (.ref (ad 67)), some (.int x1), some (.int x2), some (.int x3)] [] M := by
  intro n
  induction n with
  | zero => exact fun _ _ _ _ => rv_stuck
  | succ n ih => exact b12_names_2_s E  (f12_names_2 n) ih
set_option maxRecDepth 100000 in
theorem b12_names {p : Program} {l : Launch} {e : Env} {s : State} {m : MethodId} {args : Array Value} {below : List Frame} {meth : Method} {c : Code} {D : va_G} {cI cZ : ClassId} {ad : Nat → Nat} (E : rR_E D cI cZ ad cX12_names 4 none p s m args meth c) (M : rv_Mem) (a1 : Int32) (a2 : Int32) : rv_M (rR_G D cI cZ ad) (rR_A ad) p l e rm12_names s m args below meth c 0 0  (rR_qV D cI cZ ad below args s) (f12_names M a1 a2) 0 [some (.ref (ad 67)), some (.int a1), some (.int a2), none] [] M := by
  unfold f12_names
  refine rv_iconst (q := 1) E.x dX12_names_0 rv_ki0 rfl ?_
  refine rv_istore_n (q := 2) (lv' := [_, _, _, _]) E.x dX12_names_1 (Nat.le_of_ble_eq_true rfl) rfl rfl rfl ?_
  refine rv_wk [true, true, true, true] ?_
  exact b12_names_2 E rv_FU M a1 a2 0
theorem c12_names {l : Launch} {D : va_G} {cI cZ : ClassId} {ad : Nat → Nat} (hI : rR_I ad) {M : rv_Mem} {a1 : Int32} {a2 : Int32} {M1 : rv_Mem} (h : f12_names M a1 a2 = some M1) : Met l yX12_names (rv_ws yX12_names cX12_names 4 none) rm12_names (rR_Pc D cI cZ ad [.ref (ad 67), .int a1, .int a2] M) (rR_QV D cI cZ ad M1) 0 0 (rR_A ad) := rR_met hI rfl (rv_cat rfl) (Nat.le_of_ble_eq_true rfl) (fun p e s m args below meth c E => ⟨(rR_qV D cI cZ ad below args s), rfl, b12_names E M a1 a2⟩) h
