abbrev rm12_isConflict : Room := { frames := 2, cells := 0, slots := 0, locals := 49 }
set_option maxRecDepth 100000 in
theorem b12_isConflict_127 {p : Program} {l : Launch} {e : Env} {s : State} {m : MethodId} {args : Array Value} {below : List Frame} {meth : Method} {c : Code} {D : va_G} {cI cZ : ClassId} {ad : Nat → Nat} (E : rR_E D cI cZ ad cX12_isConflict 6 (some .boolean) p s m args meth c) (M : rv_Mem) (k4 : Int32 → Bool → Int32 → Option (Bool)) (k18 : Int32 → Bool → Int32 → Int32 → Option (Bool)) (h4 : ∀ (x1 : Int32) (x2 : Bool) (x3 : Int32), rv_M (rR_G D cI cZ ad) (rR_A ad) p l e rm12_isConflict s m args below meth c 0 0 (rR_qZ D cI cZ ad below args s M) (k4 x1 x2 x3) 4 [some (.ref (ad 67)), some (.int x1), some (.int (rv_i x2)), some (.int x3), none, none] [] M) (h18 : ∀ (x1 : Int32) (x2 : Bool) (x3 : Int32) (x4 : Int32), rv_M (rR_G D cI cZ ad) (rR_A ad) p l e rm12_isConflict s m args below meth c 0 0 (rR_qZ D cI cZ ad below args s M) (k18 x1 x2 x3 x4) 18 [some (.ref (ad 67)), some (.int x1), some (.int (rv_i x2)), some (.int x3), some (.int x4), none] [] M) : ∀ (x1 : Int32) (x3 : Int32) (x4 : Int32) (s0 : Bool), rv_M (rR_G D cI cZ ad) (rR_A ad) p l e rm12_isConflict s m args below meth c 0 0 (rR_qZ D cI cZ ad below args s M) (f12_isConflict_127 M k4 k18 x1 x3 x4 s0) 127 [some (.ref (ad 67)), some (.int x1), none, some (.int x3), some (.int x4), none] [.int (rv_i s0)] M := by
  intro x1 x3 x4 s0
  unfold f12_isConflict_127
  refine rv_istore_n (q := 128) (lv' := [_, _, _, _, _, _]) E.x dX12_isConflict_127 (Nat.le_of_ble_eq_true rfl) rfl rfl rfl ?_
  refine rv_iinc (q := 131) (lv' := [_, _, _, _, _, _]) E.x dX12_isConflict_128 rv_ki1 rfl rfl rfl rfl ?_
  refine rv_goto (q := 18) E.x dX12_isConflict_131 (by decide) ?_
  refine rv_wk [true, true, true, true, true, false] ?_
  exact h18 x1 s0 x3 (x4 + 1)
set_option maxRecDepth 100000 in
theorem b12_isConflict_122 {p : Program} {l : Launch} {e : Env} {s : State} {m : MethodId} {args : Array Value} {below : List Frame} {meth : Method} {c : Code} {D : va_G} {cI cZ : ClassId} {ad : Nat → Nat} (E : rR_E D cI cZ ad cX12_isConflict 6 (some .boolean) p s m args meth c) (M : rv_Mem) (k4 : Int32 → Bool → Int32 → Option (Bool)) (k18 : Int32 → Bool → Int32 → Int32 → Option (Bool)) (h4 : ∀ (x1 : Int32) (x2 : Bool) (x3 : Int32), rv_M (rR_G D cI cZ ad) (rR_A ad) p l e rm12_isConflict s m args below meth c 0 0 (rR_qZ D cI cZ ad below args s M) (k4 x1 x2 x3) 4 [some (.ref (ad 67)), some (.int x1), some (.int (rv_i x2)), some (.int x3), none, none] [] M) (h18 : ∀ (x1 : Int32) (x2 : Bool) (x3 : Int32) (x4 : Int32), rv_M (rR_G D cI cZ ad) (rR_A ad) p l e rm12_isConflict s m args below meth c 0 0 (rR_qZ D cI cZ ad below args s M) (k18 x1 x2 x3 x4) 18 [some (.ref (ad 67)), some (.int x1), some (.int (rv_i x2)), some (.int x3), some (.int x4), none] [] M) : ∀ (x1 : Int32) (x3 : Int32) (x4 : Int32), rv_M (rR_G D cI cZ ad) (rR_A ad) p l e rm12_isConflict s m args below meth c 0 0 (rR_qZ D cI cZ ad below args s M) (f12_isConflict_122 M k4 k18 x1 x3 x4) 122 [some (.ref (ad 67)), some (.int x1), none, some (.int x3), some (.int x4), none] [] M := by
  intro x1 x3 x4
  unfold f12_isConflict_122
  refine rv_iconst (q := 123) E.x dX12_isConflict_122 rv_ki1 rfl ?_
  refine rv_goto (q := 127) E.x dX12_isConflict_123 (by decide) ?_
  refine rv_wk [true, true, false, true, true, false] ?_
  exact b12_isConflict_127 E M k4 k18 h4 h18 x1 x3 x4 true
set_option maxRecDepth 100000 in
theorem b12_isConflict_126 {p : Program} {l : Launch} {e : Env} {s : State} {m : MethodId} {args : Array Value} {below : List Frame} {meth : Method} {c : Code} {D : va_G} {cI cZ : ClassId} {ad : Nat → Nat} (E : rR_E D cI cZ ad cX12_isConflict 6 (some .boolean) p s m args meth c) (M : rv_Mem) (k4 : Int32 → Bool → Int32 → Option (Bool)) (k18 : Int32 → Bool → Int32 → Int32 → Option (Bool)) (h4 : ∀ (x1 : Int32) (x2 : Bool) (x3 : Int32), rv_M (rR_G D cI cZ ad) (rR_A ad) p l e rm12_isConflict s m args below meth c 0 0 (rR_qZ D cI cZ ad below args s M) (k4 x1 x2 x3) 4 [some (.ref (ad 67)), some (.int x1), some (.int (rv_i x2)), some (.int x3), none, none] [] M) (h18 : ∀ (x1 : Int32) (x2 : Bool) (x3 : Int32) (x4 : Int32), rv_M (rR_G D cI cZ ad) (rR_A ad) p l e rm12_isConflict s m args below meth c 0 0 (rR_qZ D cI cZ ad below args s M) (k18 x1 x2 x3 x4) 18 [some (.ref (ad 67)), some (.int x1), some (.int (rv_i x2)), some (.int x3), some (.int x4), none] [] M) : ∀ (x1 : Int32) (x3 : Int32) (x4 : Int32), rv_M (rR_G D cI cZ ad) (rR_A ad) p l e rm12_isConflict s m args below meth c 0 0 (rR_qZ D cI cZ ad below args s M) (f12_isConflict_126 M k4 k18 x1 x3 x4) 126 [some (.ref (ad 67)), some (.int x1), none, some (.int x3), some (.int x4), none] [] M := by
  intro x1 x3 x4
  unfold f12_isConflict_126
  refine rv_iconst (q := 127) E.x dX12_isConflict_126 rv_ki0 rfl ?_
  refine rv_wk [true, true, false, true, true, false] ?_
  exact b12_isConflict_127 E M k4 k18 h4 h18 x1 x3 x4 false
set_option maxRecDepth 100000 in
theorem b12_isConflict_84 {p : Program} {l : Launch} {e : Env} {s : State} {m : MethodId} {args : Array Value} {below : List Frame} {meth : Method} {c : Code} {D : va_G} {cI cZ : ClassId} {ad : Nat → Nat} (E : rR_E D cI cZ ad cX12_isConflict 6 (some .boolean) p s m args meth c) (M : rv_Mem) (k4 : Int32 → Bool → Int32 → Option (Bool)) (k18 : Int32 → Bool → Int32 → Int32 → Option (Bool)) (h4 : ∀ (x1 : Int32) (x2 : Bool) (x3 : Int32), rv_M (rR_G D cI cZ ad) (rR_A ad) p l e rm12_isConflict s m args below meth c 0 0 (rR_qZ D cI cZ ad below args s M) (k4 x1 x2 x3) 4 [some (.ref (ad 67)), some (.int x1), some (.int (rv_i x2)), some (.int x3), none, none] [] M) (h18 : ∀ (x1 : Int32) (x2 : Bool) (x3 : Int32) (x4 : Int32), rv_M (rR_G D cI cZ ad) (rR_A ad) p l e rm12_isConflict s m args below meth c 0 0 (rR_qZ D cI cZ ad below args s M) (k18 x1 x2 x3 x4) 18 [some (.ref (ad 67)), some (.int x1), some (.int (rv_i x2)), some (.int x3), some (.int x4), none] [] M) : ∀ (x1 : Int32) (x2 : Bool) (x3 : Int32) (x4 : Int32) (s0 : Bool), rv_M (rR_G D cI cZ ad) (rR_A ad) p l e rm12_isConflict s m args below meth c 0 0 (rR_qZ D cI cZ ad below args s M) (f12_isConflict_84 M k4 k18 x1 x2 x3 x4 s0) 84 [some (.ref (ad 67)), some (.int x1), some (.int (rv_i x2)), some (.int x3), some (.int x4), none] [.int (rv_i s0)] M := by
  intro x1 x2 x3 x4 s0
  unfold f12_isConflict_84
  refine rv_istore (q := 86) (lv' := [_, _, _, _, _, _]) E.x dX12_isConflict_84 (Nat.le_of_ble_eq_true rfl) rfl rfl rfl ?_
  refine rv_iload_n (q := 87) E.x dX12_isConflict_86 rfl rfl ?_
  refine rv_ifz_ne (q := 90) (tgt := 122) E.x dX12_isConflict_87 (by decide) rfl ?_ ?_
  · refine rv_iload (q := 92) E.x dX12_isConflict_90 rfl rfl ?_
    refine rv_ifz_eq (q := 95) (tgt := 126) E.x dX12_isConflict_92 (by decide) rfl ?_ ?_
    · refine rv_aload_n (q := 96) E.x dX12_isConflict_95 rfl rfl ?_
      refine rR_get (q := 99) E 55 wf12_55 rfl (Nat.le_of_ble_eq_true rfl) rfl dX12_isConflict_96 rfl ?_
      refine rv_iload_n (q := 100) E.x dX12_isConflict_99 rfl rfl ?_
      refine rR_iald (q := 101) (n := 60) E (Nat.le_of_ble_eq_true rfl) rfl rfl dX12_isConflict_100 rfl ?_
      refine rv_aload_n (q := 102) E.x dX12_isConflict_101 rfl rfl ?_
      refine rR_get (q := 105) E 55 wf12_55 rfl (Nat.le_of_ble_eq_true rfl) rfl dX12_isConflict_102 rfl ?_
      refine rv_iload (q := 107) E.x dX12_isConflict_105 rfl rfl ?_
      refine rR_iald (q := 108) (n := 60) E (Nat.le_of_ble_eq_true rfl) rfl rfl dX12_isConflict_107 rfl ?_
      refine rv_icmp_ne (q := 111) (tgt := 122) E.x dX12_isConflict_108 (by decide) rfl ?_ ?_
      · refine rv_aload_n (q := 112) E.x dX12_isConflict_111 rfl rfl ?_
        refine rv_iload_n (q := 113) E.x dX12_isConflict_112 rfl rfl ?_
        refine rv_iload (q := 115) E.x dX12_isConflict_113 rfl rfl ?_
        refine rv_iload_n (q := 116) E.x dX12_isConflict_115 rfl rfl ?_
        refine rv_b1 (fun r2 e1 => ?_)
        refine rR_calli (q := 119) E (c12_areAlike E.2.2.1 e1) gX12_areAlike hX12_areAlike ⟨rfl, rfl⟩ ⟨Nat.le_of_ble_eq_true rfl, Nat.le_of_ble_eq_true rfl⟩ rfl rfl rfl (Nat.le_of_ble_eq_true rfl) dX12_isConflict_116 rfl ?_
        refine rv_ifz_ne (q := 122) (tgt := 126) E.x dX12_isConflict_119 (by decide) rfl ?_ ?_
        · refine rv_wk [true, true, false, true, true, false] ?_
          exact b12_isConflict_122 E M k4 k18 h4 h18 x1 x3 x4
        · refine rv_wk [true, true, false, true, true, false] ?_
          exact b12_isConflict_126 E M k4 k18 h4 h18 x1 x3 x4
      · refine rv_wk [true, true, false, true, true, false] ?_
        exact b12_isConflict_122 E M k4 k18 h4 h18 x1 x3 x4
    · refine rv_wk [true, true, false, true, true, false] ?_
      exact b12_isConflict_126 E M k4 k18 h4 h18 x1 x3 x4
  · refine rv_wk [true, true, false, true, true, false] ?_
    exact b12_isConflict_122 E M k4 k18 h4 h18 x1 x3 x4
set_option maxRecDepth 100000 in
theorem b12_isConflict_83 {p : Program} {l : Launch} {e : Env} {s : State} {m : MethodId} {args : Array Value} {below : List Frame} {meth : Method} {c : Code} {D : va_G} {cI cZ : ClassId} {ad : Nat → Nat} (E : rR_E D cI cZ ad cX12_isConflict 6 (some .boolean) p s m args meth c) (M : rv_Mem) (k4 : Int32 → Bool → Int32 → Option (Bool)) (k18 : Int32 → Bool → Int32 → Int32 → Option (Bool)) (h4 : ∀ (x1 : Int32) (x2 : Bool) (x3 : Int32), rv_M (rR_G D cI cZ ad) (rR_A ad) p l e rm12_isConflict s m args below meth c 0 0 (rR_qZ D cI cZ ad below args s M) (k4 x1 x2 x3) 4 [some (.ref (ad 67)), some (.int x1), some (.int (rv_i x2)), some (.int x3), none, none] [] M) (h18 : ∀ (x1 : Int32) (x2 : Bool) (x3 : Int32) (x4 : Int32), rv_M (rR_G D cI cZ ad) (rR_A ad) p l e rm12_isConflict s m args below meth c 0 0 (rR_qZ D cI cZ ad below args s M) (k18 x1 x2 x3 x4) 18 [some (.ref (ad 67)), some (.int x1), some (.int (rv_i x2)), some (.int x3), some (.int x4), none] [] M) : ∀ (x1 : Int32) (x2 : Bool) (x3 : Int32) (x4 : Int32), rv_M (rR_G D cI cZ ad) (rR_A ad) p l e rm12_isConflict s m args below meth c 0 0 (rR_qZ D cI cZ ad below args s M) (f12_isConflict_83 M k4 k18 x1 x2 x3 x4) 83 [some (.ref (ad 67)), some (.int x1), some (.int (rv_i x2)), some (.int x3), some (.int x4), none] [] M := by
  intro x1 x2 x3 x4
  unfold f12_isConflict_83
  refine rv_iconst (q := 84) E.x dX12_isConflict_83 rv_ki0 rfl ?_
  refine rv_wk [true, true, true, true, true, false] ?_
  exact b12_isConflict_84 E M k4 k18 h4 h18 x1 x2 x3 x4 false
set_option maxRecDepth 100000 in
theorem b12_isConflict_18_s {p : Program} {l : Launch} {e : Env} {s : State} {m : MethodId} {args : Array Value} {below : List Frame} {meth : Method} {c : Code} {D : va_G} {cI cZ : ClassId} {ad : Nat → Nat} (E : rR_E D cI cZ ad cX12_isConflict 6 (some .boolean) p s m args meth c) (M : rv_Mem) (k4 : Int32 → Bool → Int32 → Option (Bool)) (h4 : ∀ (x1 : Int32) (x2 : Bool) (x3 : Int32), rv_M (rR_G D cI cZ ad) (rR_A ad) p l e rm12_isConflict s m args below meth c 0 0 (rR_qZ D cI cZ ad below args s M) (k4 x1 x2 x3) 4 [some (.ref (ad 67)), some (.int x1), some (.int (rv_i x2)), some (.int x3), none, none] [] M) (k18 : Int32 → Bool → Int32 → Int32 → Option (Bool)) (h18 : ∀ (x1 : Int32) (x2 : Bool) (x3 : Int32) (x4 : Int32), rv_M (rR_G D cI cZ ad) (rR_A ad) p l e rm12_isConflict s m args below meth c 0 0 (rR_qZ D cI cZ ad below args s M) (k18 x1 x2 x3 x4) 18 [some (.ref (ad 67)), some (.int x1), some (.int (rv_i x2)), some (.int x3), some (.int x4), none] [] M) : ∀ (x1 : Int32) (x2 : Bool) (x3 : Int32) (x4 : Int32), rv_M (rR_G D cI cZ ad) (rR_A ad) p l e rm12_isConflict s m args below meth c 0 0 (rR_qZ D cI cZ ad below args s M) (f12_isConflict_18_s M k4 k18 x1 x2 x3 x4) 18 [some (.ref (ad 67)), some (.int x1), some (.int (rv_i x2)), some (.int x3), some (.int x4), none] [] M := by
  intro x1 x2 x3 x4
  unfold f12_isConflict_18_s
  refine rv_iload (q := 20) E.x dX12_isConflict_18 rfl rfl ?_
  refine rv_bipush (q := 22) E.x dX12_isConflict_20 rv_kb15 rfl ?_
  refine rv_aload_n (q := 23) E.x dX12_isConflict_22 rfl rfl ?_
  refine rR_get (q := 26) E 61 wf12_61 rfl (Nat.le_of_ble_eq_true rfl) rfl dX12_isConflict_23 rfl ?_
  refine rv_iconst (q := 27) E.x dX12_isConflict_26 rv_ki1 rfl ?_
  refine rR_iald (q := 28) (n := 4) E (Nat.le_of_ble_eq_true rfl) rfl rfl dX12_isConflict_27 rfl ?_
  refine rv_iadd (q := 29) E.x dX12_isConflict_28 rfl ?_
  refine rv_icmp_ge (q := 32) (tgt := 134) E.x dX12_isConflict_29 (by decide) rfl ?_ ?_
  · refine rv_aload_n (q := 33) E.x dX12_isConflict_32 rfl rfl ?_
    refine rR_get (q := 36) E 55 wf12_55 rfl (Nat.le_of_ble_eq_true rfl) rfl dX12_isConflict_33 rfl ?_
    refine rv_iload_n (q := 37) E.x dX12_isConflict_36 rfl rfl ?_
    refine rR_iald (q := 38) (n := 60) E (Nat.le_of_ble_eq_true rfl) rfl rfl dX12_isConflict_37 rfl ?_
    refine rv_aload_n (q := 39) E.x dX12_isConflict_38 rfl rfl ?_
    refine rR_get (q := 42) E 55 wf12_55 rfl (Nat.le_of_ble_eq_true rfl) rfl dX12_isConflict_39 rfl ?_
    refine rv_iload (q := 44) E.x dX12_isConflict_42 rfl rfl ?_
    refine rR_iald (q := 45) (n := 60) E (Nat.le_of_ble_eq_true rfl) rfl rfl dX12_isConflict_44 rfl ?_
    refine rv_aload_n (q := 46) E.x dX12_isConflict_45 rfl rfl ?_
    refine rR_get (q := 49) E 57 wf12_57 rfl (Nat.le_of_ble_eq_true rfl) rfl dX12_isConflict_46 rfl ?_
    refine rv_iload (q := 51) E.x dX12_isConflict_49 rfl rfl ?_
    refine rR_iald (q := 52) (n := 60) E (Nat.le_of_ble_eq_true rfl) rfl rfl dX12_isConflict_51 rfl ?_
    refine rv_iadd (q := 53) E.x dX12_isConflict_52 rfl ?_
    refine rv_icmp_gt (q := 56) (tgt := 83) E.x dX12_isConflict_53 (by decide) rfl ?_ ?_
    · refine rv_aload_n (q := 57) E.x dX12_isConflict_56 rfl rfl ?_
      refine rR_get (q := 60) E 55 wf12_55 rfl (Nat.le_of_ble_eq_true rfl) rfl dX12_isConflict_57 rfl ?_
      refine rv_iload (q := 62) E.x dX12_isConflict_60 rfl rfl ?_
      refine rR_iald (q := 63) (n := 60) E (Nat.le_of_ble_eq_true rfl) rfl rfl dX12_isConflict_62 rfl ?_
      refine rv_aload_n (q := 64) E.x dX12_isConflict_63 rfl rfl ?_
      refine rR_get (q := 67) E 55 wf12_55 rfl (Nat.le_of_ble_eq_true rfl) rfl dX12_isConflict_64 rfl ?_
      refine rv_iload_n (q := 68) E.x dX12_isConflict_67 rfl rfl ?_
      refine rR_iald (q := 69) (n := 60) E (Nat.le_of_ble_eq_true rfl) rfl rfl dX12_isConflict_68 rfl ?_
      refine rv_aload_n (q := 70) E.x dX12_isConflict_69 rfl rfl ?_
      refine rR_get (q := 73) E 57 wf12_57 rfl (Nat.le_of_ble_eq_true rfl) rfl dX12_isConflict_70 rfl ?_
      refine rv_iload_n (q := 74) E.x dX12_isConflict_73 rfl rfl ?_
      refine rR_iald (q := 75) (n := 60) E (Nat.le_of_ble_eq_true rfl) rfl rfl dX12_isConflict_74 rfl ?_
      refine rv_iadd (q := 76) E.x dX12_isConflict_75 rfl ?_
      refine rv_icmp_gt (q := 79) (tgt := 83) E.x dX12_isConflict_76 (by decide) rfl ?_ ?_
      · refine rv_iconst (q := 80) E.x dX12_isConflict_79 rv_ki1 rfl ?_
        refine rv_goto (q := 84) E.x dX12_isConflict_80 (by decide) ?_
        refine rv_wk [true, true, true, true, true, false] ?_
        exact b12_isConflict_84 E M k4 k18 h4 h18 x1 x2 x3 x4 true
      · refine rv_wk [true, true, true, true, true, false] ?_
        exact b12_isConflict_83 E M k4 k18 h4 h18 x1 x2 x3 x4
    · refine rv_wk [true, true, true, true, true, false] ?_
      exact b12_isConflict_83 E M k4 k18 h4 h18 x1 x2 x3 x4
  · refine rv_iinc (q := 137) (lv' := [_, _, _, _, _, _]) E.x dX12_isConflict_134 rv_ki1 rfl rfl rfl rfl ?_
    refine rv_goto (q := 4) E.x dX12_isConflict_137 (by decide) ?_
    refine rv_wk [true, true, true, true, false, false] ?_
    exact h4 x1 x2 (x3 + 1)
theorem b12_isConflict_18 {p : Program} {l : Launch} {e : Env} {s : State} {m : MethodId} {args : Array Value} {below : List Frame} {meth : Method} {c : Code} {D : va_G} {cI cZ : ClassId} {ad : Nat → Nat} (E : rR_E D cI cZ ad cX12_isConflict 6 (some .boolean) p s m args meth c) (M : rv_Mem) (k4 : Int32 → Bool → Int32 → Option (Bool)) (h4 : ∀ (x1 : Int32) (x2 : Bool) (x3 : Int32), rv_M (rR_G D cI cZ ad) (rR_A ad) p l e rm12_isConflict s m args below meth c 0 0 (rR_qZ D cI cZ ad below args s M) (k4 x1 x2 x3) 4 [some (.ref (ad 67)), some (.int x1), some (.int (rv_i x2)), some (.int x3), none, none] [] M) : ∀ (n : Nat), ∀ (x1 : Int32) (x2 : Bool) (x3 : Int32) (x4 : Int32), rv_M (rR_G D cI cZ ad) (rR_A ad) p l e rm12_isConflict s m args below meth c 0 0 (rR_qZ D cI cZ ad below args s M) (f12_isConflict_18 M k4 n x1 x2 x3 x4) 18 [some (.ref (ad 67)), some (.int x1), some (.int (rv_i x2)), some (.int x3), some (.int x4), none] [] M := by
  intro n
  induction n with
  | zero => exact fun _ _ _ _ => rv_stuck
  | succ n ih => exact b12_isConflict_18_s E M k4 h4 (f12_isConflict_18 M k4 n) ih
set_option maxRecDepth 100000 in
theorem b12_isConflict_4_s {p : Program} {l : Launch} {e : Env} {s : State} {m : MethodId} {args : Array Value} {below : List Frame} {meth : Method} {c : Code} {D : va_G} {cI cZ : ClassId} {ad : Nat → Nat} (E : rR_E D cI cZ ad cX12_isConflict 6 (some .boolean) p s m args meth c) (M : rv_Mem)   (k4 : Int32 → Bool → Int32 → Option (Bool)) (h4 : ∀ (x1 : Int32) (x2 : Bool) (x3 : Int32), rv_M (rR_G D cI cZ ad) (rR_A ad) p l e rm12_isConflict s m args below meth c 0 0 (rR_qZ D cI cZ ad below args s M) (k4 x1 x2 x3) 4 [some (.ref (ad 67)), some (.int x1), some (.int (rv_i x2)), some (.int x3), none, none] [] M) : ∀ (x1 : Int32) (x2 : Bool) (x3 : Int32), rv_M (rR_G D cI cZ ad) (rR_A ad) p l e rm12_isConflict s m args below meth c 0 0 (rR_qZ D cI cZ ad below args s M) (f12_isConflict_4_s M k4 x1 x2 x3) 4 [some (.ref (ad 67)), some (.int x1), some (.int (rv_i x2)), some (.int x3), none, none] [] M := by
  intro x1 x2 x3
  unfold f12_isConflict_4_s
  refine rv_iload_n (q := 5) E.x dX12_isConflict_4 rfl rfl ?_
  refine rv_aload_n (q := 6) E.x dX12_isConflict_5 rfl rfl ?_
  refine rR_get (q := 9) E 61 wf12_61 rfl (Nat.le_of_ble_eq_true rfl) rfl dX12_isConflict_6 rfl ?_
  refine rv_iconst (q := 10) E.x dX12_isConflict_9 rv_ki0 rfl ?_
  refine rR_iald (q := 11) (n := 4) E (Nat.le_of_ble_eq_true rfl) rfl rfl dX12_isConflict_10 rfl ?_
  refine rv_icmp_ge (q := 14) (tgt := 140) E.x dX12_isConflict_11 (by decide) rfl ?_ ?_
  · refine rv_bipush (q := 16) E.x dX12_isConflict_14 rv_kb15 rfl ?_
    refine rv_istore (q := 18) (lv' := [_, _, _, _, _, _]) E.x dX12_isConflict_16 (Nat.le_of_ble_eq_true rfl) rfl rfl rfl ?_
    refine rv_wk [true, true, true, true, true, false] ?_
    exact b12_isConflict_18 E M k4 h4 rv_FU x1 x2 x3 15
  · refine rv_iload_n (q := 141) E.x dX12_isConflict_140 rfl rfl ?_
    exact rR_zret E x2 rfl dX12_isConflict_141
theorem b12_isConflict_4 {p : Program} {l : Launch} {e : Env} {s : State} {m : MethodId} {args : Array Value} {below : List Frame} {meth : Method} {c : Code} {D : va_G} {cI cZ : ClassId} {ad : Nat → Nat} (E : rR_E D cI cZ ad cX12_isConflict 6 (some .boolean) p s m args meth c) (M : rv_Mem)   : ∀ (n : Nat), ∀ (x1 : Int32) (x2 : Bool) (x3 : Int32), rv_M (rR_G D cI cZ ad) (rR_A ad) p l e rm12_isConflict s m args below meth c 0 0 (rR_qZ D cI cZ ad below args s M) (f12_isConflict_4 M n x1 x2 x3) 4 [some (.ref (ad 67)), some (.int x1), some (.int (rv_i x2)), some (.int x3), none, none] [] M := by
  intro n
  induction n with
  | zero => exact fun _ _ _ => rv_stuck
  | succ n ih => exact b12_isConflict_4_s E M (f12_isConflict_4 M n) ih
set_option maxRecDepth 100000 in
theorem b12_isConflict {p : Program} {l : Launch} {e : Env} {s : State} {m : MethodId} {args : Array Value} {below : List Frame} {meth : Method} {c : Code} {D : va_G} {cI cZ : ClassId} {ad : Nat → Nat} (E : rR_E D cI cZ ad cX12_isConflict 6 (some .boolean) p s m args meth c) (M : rv_Mem) (a1 : Int32) : rv_M (rR_G D cI cZ ad) (rR_A ad) p l e rm12_isConflict s m args below meth c 0 0  (rR_qZ D cI cZ ad below args s M) (f12_isConflict M a1) 0 [some (.ref (ad 67)), some (.int a1), none, none, none, none] [] M := by
  unfold f12_isConflict
  refine rv_iconst (q := 1) E.x dX12_isConflict_0 rv_ki0 rfl ?_
  refine rv_istore_n (q := 2) (lv' := [_, _, _, _, _, _]) E.x dX12_isConflict_1 (Nat.le_of_ble_eq_true rfl) rfl rfl rfl ?_
  refine rv_iconst (q := 3) E.x dX12_isConflict_2 rv_ki0 rfl ?_
  refine rv_istore_n (q := 4) (lv' := [_, _, _, _, _, _]) E.x dX12_isConflict_3 (Nat.le_of_ble_eq_true rfl) rfl rfl rfl ?_
  refine rv_wk [true, true, true, true, false, false] ?_
  exact b12_isConflict_4 E M rv_FU a1 false 0
theorem c12_isConflict {l : Launch} {D : va_G} {cI cZ : ClassId} {ad : Nat → Nat} (hI : rR_I ad) {M : rv_Mem} {a1 : Int32} {r : Bool} (h : f12_isConflict M a1 = some r) : Met l yX12_isConflict (rv_ws yX12_isConflict cX12_isConflict 6 (some .boolean)) rm12_isConflict (rR_Pc D cI cZ ad [.ref (ad 67), .int a1] M) (rR_QI D cI cZ ad (rv_i r) M) 0 0 (rR_A ad) := rR_met hI rfl (rv_cat rfl) (Nat.le_of_ble_eq_true rfl) (fun p e s m args below meth c E => ⟨(rR_qZ D cI cZ ad below args s M), rfl, b12_isConflict E M a1⟩) h
abbrev rm12_mergesFile : Room := { frames := 4, cells := 0, slots := 0, locals := 111 }
set_option maxRecDepth 100000 in
theorem b12_mergesFile_270 {p : Program} {l : Launch} {e : Env} {s : State} {m : MethodId} {args : Array Value} {below : List Frame} {meth : Method} {c : Code} {D : va_G} {cI cZ : ClassId} {ad : Nat → Nat} (E : rR_E D cI cZ ad cX12_mergesFile 11 (some .boolean) p s m args meth c) (k44 : rv_Mem → Int32 → Int32 → Int32 → Int32 → Int32 → Option (Bool × rv_Mem)) (h44 : ∀ (M : rv_Mem) (x1 : Int32) (x4 : Int32) (x5 : Int32) (x6 : Int32) (x7 : Int32), rv_M (rR_G D cI cZ ad) (rR_A ad) p l e rm12_mergesFile s m args below meth c 0 0 (rR_qZW D cI cZ ad below args s) (k44 M x1 x4 x5 x6 x7) 44 [some (.ref (ad 67)), some (.int x1), none, none, some (.int x4), some (.int x5), some (.int x6), some (.int x7), none, none, none] [] M) : ∀ (M : rv_Mem) (x1 : Int32) (x4 : Int32) (x5 : Int32) (x6 : Int32) (s0 : Int32) (s1 : Bool), rv_M (rR_G D cI cZ ad) (rR_A ad) p l e rm12_mergesFile s m args below meth c 0 0 (rR_qZW D cI cZ ad below args s) (f12_mergesFile_270 k44 M x1 x4 x5 x6 s0 s1) 270 [some (.ref (ad 67)), some (.int x1), none, none, some (.int x4), some (.int x5), some (.int x6), none, none, none, none] [.int (rv_i s1), .int s0] M := by
  intro M x1 x4 x5 x6 s0 s1
  unfold f12_mergesFile_270
  refine rv_iadd (q := 271) E.x dX12_mergesFile_270 rfl ?_
  refine rv_istore (q := 273) (lv' := [_, _, _, _, _, _, _, _, _, _, _]) E.x dX12_mergesFile_271 (Nat.le_of_ble_eq_true rfl) rfl rfl rfl ?_
  refine rv_goto (q := 44) E.x dX12_mergesFile_273 (by decide) ?_
  refine rv_wk [true, true, false, false, true, true, true, true, false, false, false] ?_
  exact h44 M x1 x4 x5 x6 (s0 + (rv_i s1))
set_option maxRecDepth 100000 in
theorem b12_mergesFile_265 {p : Program} {l : Launch} {e : Env} {s : State} {m : MethodId} {args : Array Value} {below : List Frame} {meth : Method} {c : Code} {D : va_G} {cI cZ : ClassId} {ad : Nat → Nat} (E : rR_E D cI cZ ad cX12_mergesFile 11 (some .boolean) p s m args meth c) (k44 : rv_Mem → Int32 → Int32 → Int32 → Int32 → Int32 → Option (Bool × rv_Mem)) (h44 : ∀ (M : rv_Mem) (x1 : Int32) (x4 : Int32) (x5 : Int32) (x6 : Int32) (x7 : Int32), rv_M (rR_G D cI cZ ad) (rR_A ad) p l e rm12_mergesFile s m args below meth c 0 0 (rR_qZW D cI cZ ad below args s) (k44 M x1 x4 x5 x6 x7) 44 [some (.ref (ad 67)), some (.int x1), none, none, some (.int x4), some (.int x5), some (.int x6), some (.int x7), none, none, none] [] M) : ∀ (M : rv_Mem) (x1 : Int32) (x4 : Int32) (x5 : Int32) (x6 : Int32) (s0 : Int32), rv_M (rR_G D cI cZ ad) (rR_A ad) p l e rm12_mergesFile s m args below meth c 0 0 (rR_qZW D cI cZ ad below args s) (f12_mergesFile_265 k44 M x1 x4 x5 x6 s0) 265 [some (.ref (ad 67)), some (.int x1), none, none, some (.int x4), some (.int x5), some (.int x6), none, none, none, none] [.int s0] M := by
  intro M x1 x4 x5 x6 s0
  unfold f12_mergesFile_265
  refine rv_iconst (q := 266) E.x dX12_mergesFile_265 rv_ki1 rfl ?_
  refine rv_goto (q := 270) E.x dX12_mergesFile_266 (by decide) ?_
  refine rv_wk [true, true, false, false, true, true, true, false, false, false, false] ?_
  exact b12_mergesFile_270 E k44 h44 M x1 x4 x5 x6 s0 true
set_option maxRecDepth 100000 in
theorem b12_mergesFile_250 {p : Program} {l : Launch} {e : Env} {s : State} {m : MethodId} {args : Array Value} {below : List Frame} {meth : Method} {c : Code} {D : va_G} {cI cZ : ClassId} {ad : Nat → Nat} (E : rR_E D cI cZ ad cX12_mergesFile 11 (some .boolean) p s m args meth c) (k44 : rv_Mem → Int32 → Int32 → Int32 → Int32 → Int32 → Option (Bool × rv_Mem)) (h44 : ∀ (M : rv_Mem) (x1 : Int32) (x4 : Int32) (x5 : Int32) (x6 : Int32) (x7 : Int32), rv_M (rR_G D cI cZ ad) (rR_A ad) p l e rm12_mergesFile s m args below meth c 0 0 (rR_qZW D cI cZ ad below args s) (k44 M x1 x4 x5 x6 x7) 44 [some (.ref (ad 67)), some (.int x1), none, none, some (.int x4), some (.int x5), some (.int x6), some (.int x7), none, none, none] [] M) : ∀ (M : rv_Mem) (x1 : Int32) (x4 : Int32) (x5 : Int32) (x7 : Int32) (x8 : Bool) (x9 : Bool) (s0 : Int32) (s1 : Bool), rv_M (rR_G D cI cZ ad) (rR_A ad) p l e rm12_mergesFile s m args below meth c 0 0 (rR_qZW D cI cZ ad below args s) (f12_mergesFile_250 k44 M x1 x4 x5 x7 x8 x9 s0 s1) 250 [some (.ref (ad 67)), some (.int x1), none, none, some (.int x4), some (.int x5), none, some (.int x7), some (.int (rv_i x8)), some (.int (rv_i x9)), none] [.int (rv_i s1), .int s0] M := by
  intro M x1 x4 x5 x7 x8 x9 s0 s1
  unfold f12_mergesFile_250
  refine rv_iadd (q := 251) E.x dX12_mergesFile_250 rfl ?_
  refine rv_istore (q := 253) (lv' := [_, _, _, _, _, _, _, _, _, _, _]) E.x dX12_mergesFile_251 (Nat.le_of_ble_eq_true rfl) rfl rfl rfl ?_
  refine rv_iload (q := 255) E.x dX12_mergesFile_253 rfl rfl ?_
  refine rv_iload (q := 257) E.x dX12_mergesFile_255 rfl rfl ?_
  refine rv_ifz_eq (q := 260) (tgt := 265) E.x dX12_mergesFile_257 (by decide) rfl ?_ ?_
  · refine rv_iload (q := 262) E.x dX12_mergesFile_260 rfl rfl ?_
    refine rv_ifz_eq (q := 265) (tgt := 269) E.x dX12_mergesFile_262 (by decide) rfl ?_ ?_
    · refine rv_wk [true, true, false, false, true, true, true, false, false, false, false] ?_
      exact b12_mergesFile_265 E k44 h44 M x1 x4 x5 (s0 + (rv_i s1)) x7
    · refine rv_iconst (q := 270) E.x dX12_mergesFile_269 rv_ki0 rfl ?_
      refine rv_wk [true, true, false, false, true, true, true, false, false, false, false] ?_
      exact b12_mergesFile_270 E k44 h44 M x1 x4 x5 (s0 + (rv_i s1)) x7 false
  · refine rv_wk [true, true, false, false, true, true, true, false, false, false, false] ?_
    exact b12_mergesFile_265 E k44 h44 M x1 x4 x5 (s0 + (rv_i s1)) x7
set_option maxRecDepth 100000 in
theorem b12_mergesFile_173 {p : Program} {l : Launch} {e : Env} {s : State} {m : MethodId} {args : Array Value} {below : List Frame} {meth : Method} {c : Code} {D : va_G} {cI cZ : ClassId} {ad : Nat → Nat} (E : rR_E D cI cZ ad cX12_mergesFile 11 (some .boolean) p s m args meth c) (k44 : rv_Mem → Int32 → Int32 → Int32 → Int32 → Int32 → Option (Bool × rv_Mem)) (h44 : ∀ (M : rv_Mem) (x1 : Int32) (x4 : Int32) (x5 : Int32) (x6 : Int32) (x7 : Int32), rv_M (rR_G D cI cZ ad) (rR_A ad) p l e rm12_mergesFile s m args below meth c 0 0 (rR_qZW D cI cZ ad below args s) (k44 M x1 x4 x5 x6 x7) 44 [some (.ref (ad 67)), some (.int x1), none, none, some (.int x4), some (.int x5), some (.int x6), some (.int x7), none, none, none] [] M) : ∀ (M : rv_Mem) (x1 : Int32) (x4 : Int32) (x5 : Int32) (x6 : Int32) (x7 : Int32) (x8 : Bool) (x9 : Bool) (s0 : Int32), rv_M (rR_G D cI cZ ad) (rR_A ad) p l e rm12_mergesFile s m args below meth c 0 0 (rR_qZW D cI cZ ad below args s) (f12_mergesFile_173 k44 M x1 x4 x5 x6 x7 x8 x9 s0) 173 [some (.ref (ad 67)), some (.int x1), none, none, some (.int x4), some (.int x5), some (.int x6), some (.int x7), some (.int (rv_i x8)), some (.int (rv_i x9)), none] [.int s0] M := by
  intro M x1 x4 x5 x6 x7 x8 x9 s0
  unfold f12_mergesFile_173
  refine rv_istore (q := 175) (lv' := [_, _, _, _, _, _, _, _, _, _, _]) E.x dX12_mergesFile_173 (Nat.le_of_ble_eq_true rfl) rfl rfl rfl ?_
  refine rv_aload_n (q := 176) E.x dX12_mergesFile_175 rfl rfl ?_
  refine rv_iload_n (q := 177) E.x dX12_mergesFile_176 rfl rfl ?_
  refine rv_iload (q := 179) E.x dX12_mergesFile_177 rfl rfl ?_
  refine rv_iload (q := 181) E.x dX12_mergesFile_179 rfl rfl ?_
  refine rv_aload_n (q := 182) E.x dX12_mergesFile_181 rfl rfl ?_
  refine rR_get (q := 185) E 55 wf12_55 rfl (Nat.le_of_ble_eq_true rfl) rfl dX12_mergesFile_182 rfl ?_
  refine rv_iload (q := 187) E.x dX12_mergesFile_185 rfl rfl ?_
  refine rR_iald (q := 188) (n := 60) E (Nat.le_of_ble_eq_true rfl) rfl rfl dX12_mergesFile_187 rfl ?_
  refine rv_iload (q := 190) E.x dX12_mergesFile_188 rfl rfl ?_
  refine rv_isub (q := 191) E.x dX12_mergesFile_190 rfl ?_
  refine rv_b1 (fun M2 e1 => ?_)
  refine rR_callv (q := 194) E (c12_fills E.2.2.1 e1) gX12_fills hX12_fills ⟨rfl, rfl⟩ ⟨Nat.le_of_ble_eq_true rfl, Nat.le_of_ble_eq_true rfl⟩ rfl rfl rfl (Nat.le_of_ble_eq_true rfl) dX12_mergesFile_191 rfl ?_
  refine rv_aload_n (q := 195) E.x dX12_mergesFile_194 rfl rfl ?_
  refine rv_aload_n (q := 196) E.x dX12_mergesFile_195 rfl rfl ?_
  refine rR_get (q := 199) E 60 wf12_60 rfl (Nat.le_of_ble_eq_true rfl) rfl dX12_mergesFile_196 rfl ?_
  refine rv_iload (q := 201) E.x dX12_mergesFile_199 rfl rfl ?_
  refine rR_iald (q := 202) (n := 60) E (Nat.le_of_ble_eq_true rfl) rfl rfl dX12_mergesFile_201 rfl ?_
  refine rv_iload (q := 204) E.x dX12_mergesFile_202 rfl rfl ?_
  refine rv_aload_n (q := 205) E.x dX12_mergesFile_204 rfl rfl ?_
  refine rR_get (q := 208) E 56 wf12_56 rfl (Nat.le_of_ble_eq_true rfl) rfl dX12_mergesFile_205 rfl ?_
  refine rv_iload (q := 210) E.x dX12_mergesFile_208 rfl rfl ?_
  refine rR_iald (q := 211) (n := 60) E (Nat.le_of_ble_eq_true rfl) rfl rfl dX12_mergesFile_210 rfl ?_
  refine rv_aload_n (q := 212) E.x dX12_mergesFile_211 rfl rfl ?_
  refine rR_get (q := 215) E 58 wf12_58 rfl (Nat.le_of_ble_eq_true rfl) rfl dX12_mergesFile_212 rfl ?_
  refine rv_iload (q := 217) E.x dX12_mergesFile_215 rfl rfl ?_
  refine rR_iald (q := 218) (n := 60) E (Nat.le_of_ble_eq_true rfl) rfl rfl dX12_mergesFile_217 rfl ?_
  refine rv_b1 (fun M4 e3 => ?_)
  refine rR_callv (q := 221) E (c12_fills E.2.2.1 e3) gX12_fills hX12_fills ⟨rfl, rfl⟩ ⟨Nat.le_of_ble_eq_true rfl, Nat.le_of_ble_eq_true rfl⟩ rfl rfl rfl (Nat.le_of_ble_eq_true rfl) dX12_mergesFile_218 rfl ?_
  refine rv_aload_n (q := 222) E.x dX12_mergesFile_221 rfl rfl ?_
  refine rR_get (q := 225) E 55 wf12_55 rfl (Nat.le_of_ble_eq_true rfl) rfl dX12_mergesFile_222 rfl ?_
  refine rv_iload (q := 227) E.x dX12_mergesFile_225 rfl rfl ?_
  refine rR_iald (q := 228) (n := 60) E (Nat.le_of_ble_eq_true rfl) rfl rfl dX12_mergesFile_227 rfl ?_
  refine rv_aload_n (q := 229) E.x dX12_mergesFile_228 rfl rfl ?_
  refine rR_get (q := 232) E 57 wf12_57 rfl (Nat.le_of_ble_eq_true rfl) rfl dX12_mergesFile_229 rfl ?_
  refine rv_iload (q := 234) E.x dX12_mergesFile_232 rfl rfl ?_
  refine rR_iald (q := 235) (n := 60) E (Nat.le_of_ble_eq_true rfl) rfl rfl dX12_mergesFile_234 rfl ?_
  refine rv_iadd (q := 236) E.x dX12_mergesFile_235 rfl ?_
  refine rv_istore (q := 238) (lv' := [_, _, _, _, _, _, _, _, _, _, _]) E.x dX12_mergesFile_236 (Nat.le_of_ble_eq_true rfl) rfl rfl rfl ?_
  refine rv_iload (q := 240) E.x dX12_mergesFile_238 rfl rfl ?_
  refine rv_iload (q := 242) E.x dX12_mergesFile_240 rfl rfl ?_
  refine rv_ifz_eq (q := 245) (tgt := 249) E.x dX12_mergesFile_242 (by decide) rfl ?_ ?_
  · refine rv_iconst (q := 246) E.x dX12_mergesFile_245 rv_ki1 rfl ?_
    refine rv_goto (q := 250) E.x dX12_mergesFile_246 (by decide) ?_
    refine rv_wk [true, true, false, false, true, true, false, true, true, true, false] ?_
    exact b12_mergesFile_250 E k44 h44 M4 x1 x4 ((M4 55 (s0).toNatClampNeg) + (M4 57 (s0).toNatClampNeg)) x7 x8 x9 x6 true
  · refine rv_iconst (q := 250) E.x dX12_mergesFile_249 rv_ki0 rfl ?_
    refine rv_wk [true, true, false, false, true, true, false, true, true, true, false] ?_
    exact b12_mergesFile_250 E k44 h44 M4 x1 x4 ((M4 55 (s0).toNatClampNeg) + (M4 57 (s0).toNatClampNeg)) x7 x8 x9 x6 false
set_option maxRecDepth 100000 in
theorem b12_mergesFile_159 {p : Program} {l : Launch} {e : Env} {s : State} {m : MethodId} {args : Array Value} {below : List Frame} {meth : Method} {c : Code} {D : va_G} {cI cZ : ClassId} {ad : Nat → Nat} (E : rR_E D cI cZ ad cX12_mergesFile 11 (some .boolean) p s m args meth c) (k44 : rv_Mem → Int32 → Int32 → Int32 → Int32 → Int32 → Option (Bool × rv_Mem)) (h44 : ∀ (M : rv_Mem) (x1 : Int32) (x4 : Int32) (x5 : Int32) (x6 : Int32) (x7 : Int32), rv_M (rR_G D cI cZ ad) (rR_A ad) p l e rm12_mergesFile s m args below meth c 0 0 (rR_qZW D cI cZ ad below args s) (k44 M x1 x4 x5 x6 x7) 44 [some (.ref (ad 67)), some (.int x1), none, none, some (.int x4), some (.int x5), some (.int x6), some (.int x7), none, none, none] [] M) : ∀ (M : rv_Mem) (x1 : Int32) (x4 : Int32) (x5 : Int32) (x6 : Int32) (x7 : Int32) (x8 : Bool) (s0 : Bool), rv_M (rR_G D cI cZ ad) (rR_A ad) p l e rm12_mergesFile s m args below meth c 0 0 (rR_qZW D cI cZ ad below args s) (f12_mergesFile_159 k44 M x1 x4 x5 x6 x7 x8 s0) 159 [some (.ref (ad 67)), some (.int x1), none, none, some (.int x4), some (.int x5), some (.int x6), some (.int x7), some (.int (rv_i x8)), none, none] [.int (rv_i s0)] M := by
  intro M x1 x4 x5 x6 x7 x8 s0
  unfold f12_mergesFile_159
  refine rv_istore (q := 161) (lv' := [_, _, _, _, _, _, _, _, _, _, _]) E.x dX12_mergesFile_159 (Nat.le_of_ble_eq_true rfl) rfl rfl rfl ?_
  refine rv_iload (q := 163) E.x dX12_mergesFile_161 rfl rfl ?_
  refine rv_ifz_eq (q := 166) (tgt := 171) E.x dX12_mergesFile_163 (by decide) rfl ?_ ?_
  · refine rv_iload (q := 168) E.x dX12_mergesFile_166 rfl rfl ?_
    refine rv_goto (q := 173) E.x dX12_mergesFile_168 (by decide) ?_
    refine rv_wk [true, true, false, false, true, true, true, true, true, true, false] ?_
    exact b12_mergesFile_173 E k44 h44 M x1 x4 x5 x6 x7 x8 s0 x6
  · refine rv_iload (q := 173) E.x dX12_mergesFile_171 rfl rfl ?_
    refine rv_wk [true, true, false, false, true, true, true, true, true, true, false] ?_
    exact b12_mergesFile_173 E k44 h44 M x1 x4 x5 x6 x7 x8 s0 x7
set_option maxRecDepth 100000 in
theorem b12_mergesFile_158 {p : Program} {l : Launch} {e : Env} {s : State} {m : MethodId} {args : Array Value} {below : List Frame} {meth : Method} {c : Code} {D : va_G} {cI cZ : ClassId} {ad : Nat → Nat} (E : rR_E D cI cZ ad cX12_mergesFile 11 (some .boolean) p s m args meth c) (k44 : rv_Mem → Int32 → Int32 → Int32 → Int32 → Int32 → Option (Bool × rv_Mem)) (h44 : ∀ (M : rv_Mem) (x1 : Int32) (x4 : Int32) (x5 : Int32) (x6 : Int32) (x7 : Int32), rv_M (rR_G D cI cZ ad) (rR_A ad) p l e rm12_mergesFile s m args below meth c 0 0 (rR_qZW D cI cZ ad below args s) (k44 M x1 x4 x5 x6 x7) 44 [some (.ref (ad 67)), some (.int x1), none, none, some (.int x4), some (.int x5), some (.int x6), some (.int x7), none, none, none] [] M) : ∀ (M : rv_Mem) (x1 : Int32) (x4 : Int32) (x5 : Int32) (x6 : Int32) (x7 : Int32) (x8 : Bool), rv_M (rR_G D cI cZ ad) (rR_A ad) p l e rm12_mergesFile s m args below meth c 0 0 (rR_qZW D cI cZ ad below args s) (f12_mergesFile_158 k44 M x1 x4 x5 x6 x7 x8) 158 [some (.ref (ad 67)), some (.int x1), none, none, some (.int x4), some (.int x5), some (.int x6), some (.int x7), some (.int (rv_i x8)), none, none] [] M := by
  intro M x1 x4 x5 x6 x7 x8
  unfold f12_mergesFile_158
  refine rv_iconst (q := 159) E.x dX12_mergesFile_158 rv_ki0 rfl ?_
  refine rv_wk [true, true, false, false, true, true, true, true, true, false, false] ?_
  exact b12_mergesFile_159 E k44 h44 M x1 x4 x5 x6 x7 x8 false
set_option maxRecDepth 100000 in
theorem b12_mergesFile_116 {p : Program} {l : Launch} {e : Env} {s : State} {m : MethodId} {args : Array Value} {below : List Frame} {meth : Method} {c : Code} {D : va_G} {cI cZ : ClassId} {ad : Nat → Nat} (E : rR_E D cI cZ ad cX12_mergesFile 11 (some .boolean) p s m args meth c) (k44 : rv_Mem → Int32 → Int32 → Int32 → Int32 → Int32 → Option (Bool × rv_Mem)) (h44 : ∀ (M : rv_Mem) (x1 : Int32) (x4 : Int32) (x5 : Int32) (x6 : Int32) (x7 : Int32), rv_M (rR_G D cI cZ ad) (rR_A ad) p l e rm12_mergesFile s m args below meth c 0 0 (rR_qZW D cI cZ ad below args s) (k44 M x1 x4 x5 x6 x7) 44 [some (.ref (ad 67)), some (.int x1), none, none, some (.int x4), some (.int x5), some (.int x6), some (.int x7), none, none, none] [] M) : ∀ (M : rv_Mem) (x1 : Int32) (x4 : Int32) (x5 : Int32) (x6 : Int32) (x7 : Int32) (s0 : Bool), rv_M (rR_G D cI cZ ad) (rR_A ad) p l e rm12_mergesFile s m args below meth c 0 0 (rR_qZW D cI cZ ad below args s) (f12_mergesFile_116 k44 M x1 x4 x5 x6 x7 s0) 116 [some (.ref (ad 67)), some (.int x1), none, none, some (.int x4), some (.int x5), some (.int x6), some (.int x7), none, none, none] [.int (rv_i s0)] M := by
  intro M x1 x4 x5 x6 x7 s0
  unfold f12_mergesFile_116
  refine rv_istore (q := 118) (lv' := [_, _, _, _, _, _, _, _, _, _, _]) E.x dX12_mergesFile_116 (Nat.le_of_ble_eq_true rfl) rfl rfl rfl ?_
  refine rv_iload (q := 120) E.x dX12_mergesFile_118 rfl rfl ?_
  refine rv_ifz_eq (q := 123) (tgt := 158) E.x dX12_mergesFile_120 (by decide) rfl ?_ ?_
  · refine rv_iload (q := 125) E.x dX12_mergesFile_123 rfl rfl ?_
    refine rv_bipush (q := 127) E.x dX12_mergesFile_125 rv_kb15 rfl ?_
    refine rv_aload_n (q := 128) E.x dX12_mergesFile_127 rfl rfl ?_
    refine rR_get (q := 131) E 61 wf12_61 rfl (Nat.le_of_ble_eq_true rfl) rfl dX12_mergesFile_128 rfl ?_
    refine rv_iconst (q := 132) E.x dX12_mergesFile_131 rv_ki1 rfl ?_
    refine rR_iald (q := 133) (n := 4) E (Nat.le_of_ble_eq_true rfl) rfl rfl dX12_mergesFile_132 rfl ?_
    refine rv_iadd (q := 134) E.x dX12_mergesFile_133 rfl ?_
    refine rv_icmp_ge (q := 137) (tgt := 158) E.x dX12_mergesFile_134 (by decide) rfl ?_ ?_
    · refine rv_aload_n (q := 138) E.x dX12_mergesFile_137 rfl rfl ?_
      refine rR_get (q := 141) E 55 wf12_55 rfl (Nat.le_of_ble_eq_true rfl) rfl dX12_mergesFile_138 rfl ?_
      refine rv_iload (q := 143) E.x dX12_mergesFile_141 rfl rfl ?_
      refine rR_iald (q := 144) (n := 60) E (Nat.le_of_ble_eq_true rfl) rfl rfl dX12_mergesFile_143 rfl ?_
      refine rv_aload_n (q := 145) E.x dX12_mergesFile_144 rfl rfl ?_
      refine rR_get (q := 148) E 55 wf12_55 rfl (Nat.le_of_ble_eq_true rfl) rfl dX12_mergesFile_145 rfl ?_
      refine rv_iload (q := 150) E.x dX12_mergesFile_148 rfl rfl ?_
      refine rR_iald (q := 151) (n := 60) E (Nat.le_of_ble_eq_true rfl) rfl rfl dX12_mergesFile_150 rfl ?_
      refine rv_icmp_ne (q := 154) (tgt := 158) E.x dX12_mergesFile_151 (by decide) rfl ?_ ?_
      · refine rv_iconst (q := 155) E.x dX12_mergesFile_154 rv_ki1 rfl ?_
        refine rv_goto (q := 159) E.x dX12_mergesFile_155 (by decide) ?_
        refine rv_wk [true, true, false, false, true, true, true, true, true, false, false] ?_
        exact b12_mergesFile_159 E k44 h44 M x1 x4 x5 x6 x7 s0 true
      · refine rv_wk [true, true, false, false, true, true, true, true, true, false, false] ?_
        exact b12_mergesFile_158 E k44 h44 M x1 x4 x5 x6 x7 s0
    · refine rv_wk [true, true, false, false, true, true, true, true, true, false, false] ?_
      exact b12_mergesFile_158 E k44 h44 M x1 x4 x5 x6 x7 s0
  · refine rv_wk [true, true, false, false, true, true, true, true, true, false, false] ?_
    exact b12_mergesFile_158 E k44 h44 M x1 x4 x5 x6 x7 s0
set_option maxRecDepth 100000 in
theorem b12_mergesFile_111 {p : Program} {l : Launch} {e : Env} {s : State} {m : MethodId} {args : Array Value} {below : List Frame} {meth : Method} {c : Code} {D : va_G} {cI cZ : ClassId} {ad : Nat → Nat} (E : rR_E D cI cZ ad cX12_mergesFile 11 (some .boolean) p s m args meth c) (k44 : rv_Mem → Int32 → Int32 → Int32 → Int32 → Int32 → Option (Bool × rv_Mem)) (h44 : ∀ (M : rv_Mem) (x1 : Int32) (x4 : Int32) (x5 : Int32) (x6 : Int32) (x7 : Int32), rv_M (rR_G D cI cZ ad) (rR_A ad) p l e rm12_mergesFile s m args below meth c 0 0 (rR_qZW D cI cZ ad below args s) (k44 M x1 x4 x5 x6 x7) 44 [some (.ref (ad 67)), some (.int x1), none, none, some (.int x4), some (.int x5), some (.int x6), some (.int x7), none, none, none] [] M) : ∀ (M : rv_Mem) (x1 : Int32) (x4 : Int32) (x5 : Int32) (x6 : Int32) (x7 : Int32), rv_M (rR_G D cI cZ ad) (rR_A ad) p l e rm12_mergesFile s m args below meth c 0 0 (rR_qZW D cI cZ ad below args s) (f12_mergesFile_111 k44 M x1 x4 x5 x6 x7) 111 [some (.ref (ad 67)), some (.int x1), none, none, some (.int x4), some (.int x5), some (.int x6), some (.int x7), none, none, none] [] M := by
  intro M x1 x4 x5 x6 x7
  unfold f12_mergesFile_111
  refine rv_iconst (q := 112) E.x dX12_mergesFile_111 rv_ki1 rfl ?_
  refine rv_goto (q := 116) E.x dX12_mergesFile_112 (by decide) ?_
  refine rv_wk [true, true, false, false, true, true, true, true, false, false, false] ?_
  exact b12_mergesFile_116 E k44 h44 M x1 x4 x5 x6 x7 true
set_option maxRecDepth 100000 in
theorem b12_mergesFile_115 {p : Program} {l : Launch} {e : Env} {s : State} {m : MethodId} {args : Array Value} {below : List Frame} {meth : Method} {c : Code} {D : va_G} {cI cZ : ClassId} {ad : Nat → Nat} (E : rR_E D cI cZ ad cX12_mergesFile 11 (some .boolean) p s m args meth c) (k44 : rv_Mem → Int32 → Int32 → Int32 → Int32 → Int32 → Option (Bool × rv_Mem)) (h44 : ∀ (M : rv_Mem) (x1 : Int32) (x4 : Int32) (x5 : Int32) (x6 : Int32) (x7 : Int32), rv_M (rR_G D cI cZ ad) (rR_A ad) p l e rm12_mergesFile s m args below meth c 0 0 (rR_qZW D cI cZ ad below args s) (k44 M x1 x4 x5 x6 x7) 44 [some (.ref (ad 67)), some (.int x1), none, none, some (.int x4), some (.int x5), some (.int x6), some (.int x7), none, none, none] [] M) : ∀ (M : rv_Mem) (x1 : Int32) (x4 : Int32) (x5 : Int32) (x6 : Int32) (x7 : Int32), rv_M (rR_G D cI cZ ad) (rR_A ad) p l e rm12_mergesFile s m args below meth c 0 0 (rR_qZW D cI cZ ad below args s) (f12_mergesFile_115 k44 M x1 x4 x5 x6 x7) 115 [some (.ref (ad 67)), some (.int x1), none, none, some (.int x4), some (.int x5), some (.int x6), some (.int x7), none, none, none] [] M := by
  intro M x1 x4 x5 x6 x7
  unfold f12_mergesFile_115
  refine rv_iconst (q := 116) E.x dX12_mergesFile_115 rv_ki0 rfl ?_
  refine rv_wk [true, true, false, false, true, true, true, true, false, false, false] ?_
  exact b12_mergesFile_116 E k44 h44 M x1 x4 x5 x6 x7 false
set_option maxRecDepth 100000 in
theorem b12_mergesFile_69 {p : Program} {l : Launch} {e : Env} {s : State} {m : MethodId} {args : Array Value} {below : List Frame} {meth : Method} {c : Code} {D : va_G} {cI cZ : ClassId} {ad : Nat → Nat} (E : rR_E D cI cZ ad cX12_mergesFile 11 (some .boolean) p s m args meth c) (k44 : rv_Mem → Int32 → Int32 → Int32 → Int32 → Int32 → Option (Bool × rv_Mem)) (h44 : ∀ (M : rv_Mem) (x1 : Int32) (x4 : Int32) (x5 : Int32) (x6 : Int32) (x7 : Int32), rv_M (rR_G D cI cZ ad) (rR_A ad) p l e rm12_mergesFile s m args below meth c 0 0 (rR_qZW D cI cZ ad below args s) (k44 M x1 x4 x5 x6 x7) 44 [some (.ref (ad 67)), some (.int x1), none, none, some (.int x4), some (.int x5), some (.int x6), some (.int x7), none, none, none] [] M) : ∀ (M : rv_Mem) (x1 : Int32) (x4 : Int32) (x5 : Int32) (x6 : Int32) (x7 : Int32), rv_M (rR_G D cI cZ ad) (rR_A ad) p l e rm12_mergesFile s m args below meth c 0 0 (rR_qZW D cI cZ ad below args s) (f12_mergesFile_69 k44 M x1 x4 x5 x6 x7) 69 [some (.ref (ad 67)), some (.int x1), none, none, some (.int x4), some (.int x5), some (.int x6), some (.int x7), none, none, none] [] M := by
  intro M x1 x4 x5 x6 x7
  unfold f12_mergesFile_69
  refine rv_iload (q := 71) E.x dX12_mergesFile_69 rfl rfl ?_
  refine rv_aload_n (q := 72) E.x dX12_mergesFile_71 rfl rfl ?_
  refine rR_get (q := 75) E 61 wf12_61 rfl (Nat.le_of_ble_eq_true rfl) rfl dX12_mergesFile_72 rfl ?_
  refine rv_iconst (q := 76) E.x dX12_mergesFile_75 rv_ki0 rfl ?_
  refine rR_iald (q := 77) (n := 4) E (Nat.le_of_ble_eq_true rfl) rfl rfl dX12_mergesFile_76 rfl ?_
  refine rv_icmp_ge (q := 80) (tgt := 115) E.x dX12_mergesFile_77 (by decide) rfl ?_ ?_
  · refine rv_iload (q := 82) E.x dX12_mergesFile_80 rfl rfl ?_
    refine rv_bipush (q := 84) E.x dX12_mergesFile_82 rv_kb15 rfl ?_
    refine rv_aload_n (q := 85) E.x dX12_mergesFile_84 rfl rfl ?_
    refine rR_get (q := 88) E 61 wf12_61 rfl (Nat.le_of_ble_eq_true rfl) rfl dX12_mergesFile_85 rfl ?_
    refine rv_iconst (q := 89) E.x dX12_mergesFile_88 rv_ki1 rfl ?_
    refine rR_iald (q := 90) (n := 4) E (Nat.le_of_ble_eq_true rfl) rfl rfl dX12_mergesFile_89 rfl ?_
    refine rv_iadd (q := 91) E.x dX12_mergesFile_90 rfl ?_
    refine rv_icmp_eq (q := 94) (tgt := 111) E.x dX12_mergesFile_91 (by decide) rfl ?_ ?_
    · refine rv_aload_n (q := 95) E.x dX12_mergesFile_94 rfl rfl ?_
      refine rR_get (q := 98) E 55 wf12_55 rfl (Nat.le_of_ble_eq_true rfl) rfl dX12_mergesFile_95 rfl ?_
      refine rv_iload (q := 100) E.x dX12_mergesFile_98 rfl rfl ?_
      refine rR_iald (q := 101) (n := 60) E (Nat.le_of_ble_eq_true rfl) rfl rfl dX12_mergesFile_100 rfl ?_
      refine rv_aload_n (q := 102) E.x dX12_mergesFile_101 rfl rfl ?_
      refine rR_get (q := 105) E 55 wf12_55 rfl (Nat.le_of_ble_eq_true rfl) rfl dX12_mergesFile_102 rfl ?_
      refine rv_iload (q := 107) E.x dX12_mergesFile_105 rfl rfl ?_
      refine rR_iald (q := 108) (n := 60) E (Nat.le_of_ble_eq_true rfl) rfl rfl dX12_mergesFile_107 rfl ?_
      refine rv_icmp_gt (q := 111) (tgt := 115) E.x dX12_mergesFile_108 (by decide) rfl ?_ ?_
      · refine rv_wk [true, true, false, false, true, true, true, true, false, false, false] ?_
        exact b12_mergesFile_111 E k44 h44 M x1 x4 x5 x6 x7
      · refine rv_wk [true, true, false, false, true, true, true, true, false, false, false] ?_
        exact b12_mergesFile_115 E k44 h44 M x1 x4 x5 x6 x7
    · refine rv_wk [true, true, false, false, true, true, true, true, false, false, false] ?_
      exact b12_mergesFile_111 E k44 h44 M x1 x4 x5 x6 x7
  · refine rv_wk [true, true, false, false, true, true, true, true, false, false, false] ?_
    exact b12_mergesFile_115 E k44 h44 M x1 x4 x5 x6 x7
set_option maxRecDepth 100000 in
theorem b12_mergesFile_44_s {p : Program} {l : Launch} {e : Env} {s : State} {m : MethodId} {args : Array Value} {below : List Frame} {meth : Method} {c : Code} {D : va_G} {cI cZ : ClassId} {ad : Nat → Nat} (E : rR_E D cI cZ ad cX12_mergesFile 11 (some .boolean) p s m args meth c)   (k44 : rv_Mem → Int32 → Int32 → Int32 → Int32 → Int32 → Option (Bool × rv_Mem)) (h44 : ∀ (M : rv_Mem) (x1 : Int32) (x4 : Int32) (x5 : Int32) (x6 : Int32) (x7 : Int32), rv_M (rR_G D cI cZ ad) (rR_A ad) p l e rm12_mergesFile s m args below meth c 0 0 (rR_qZW D cI cZ ad below args s) (k44 M x1 x4 x5 x6 x7) 44 [some (.ref (ad 67)), some (.int x1), none, none, some (.int x4), some (.int x5), some (.int x6), some (.int x7), none, none, none] [] M) : ∀ (M : rv_Mem) (x1 : Int32) (x4 : Int32) (x5 : Int32) (x6 : Int32) (x7 : Int32), rv_M (rR_G D cI cZ ad) (rR_A ad) p l e rm12_mergesFile s m args below meth c 0 0 (rR_qZW D cI cZ ad below args s) (f12_mergesFile_44_s k44 M x1 x4 x5 x6 x7) 44 [some (.ref (ad 67)), some (.int x1), none, none, some (.int x4), some (.int x5), some (.int x6), some (.int x7), none, none, none] [] M := by
  intro M x1 x4 x5 x6 x7
  unfold f12_mergesFile_44_s
  refine rv_iload (q := 46) E.x dX12_mergesFile_44 rfl rfl ?_
  refine rv_aload_n (q := 47) E.x dX12_mergesFile_46 rfl rfl ?_
  refine rR_get (q := 50) E 61 wf12_61 rfl (Nat.le_of_ble_eq_true rfl) rfl dX12_mergesFile_47 rfl ?_
  refine rv_iconst (q := 51) E.x dX12_mergesFile_50 rv_ki0 rfl ?_
  refine rR_iald (q := 52) (n := 4) E (Nat.le_of_ble_eq_true rfl) rfl rfl dX12_mergesFile_51 rfl ?_
  refine rv_icmp_lt (q := 55) (tgt := 69) E.x dX12_mergesFile_52 (by decide) rfl ?_ ?_
  · refine rv_iload (q := 57) E.x dX12_mergesFile_55 rfl rfl ?_
    refine rv_bipush (q := 59) E.x dX12_mergesFile_57 rv_kb15 rfl ?_
    refine rv_aload_n (q := 60) E.x dX12_mergesFile_59 rfl rfl ?_
    refine rR_get (q := 63) E 61 wf12_61 rfl (Nat.le_of_ble_eq_true rfl) rfl dX12_mergesFile_60 rfl ?_
    refine rv_iconst (q := 64) E.x dX12_mergesFile_63 rv_ki1 rfl ?_
    refine rR_iald (q := 65) (n := 4) E (Nat.le_of_ble_eq_true rfl) rfl rfl dX12_mergesFile_64 rfl ?_
    refine rv_iadd (q := 66) E.x dX12_mergesFile_65 rfl ?_
    refine rv_icmp_ge (q := 69) (tgt := 276) E.x dX12_mergesFile_66 (by decide) rfl ?_ ?_
    · refine rv_wk [true, true, false, false, true, true, true, true, false, false, false] ?_
      exact b12_mergesFile_69 E k44 h44 M x1 x4 x5 x6 x7
    · refine rv_aload_n (q := 277) E.x dX12_mergesFile_276 rfl rfl ?_
      refine rv_iload_n (q := 278) E.x dX12_mergesFile_277 rfl rfl ?_
      refine rv_iload (q := 280) E.x dX12_mergesFile_278 rfl rfl ?_
      refine rv_iload (q := 282) E.x dX12_mergesFile_280 rfl rfl ?_
      refine rv_aload_n (q := 283) E.x dX12_mergesFile_282 rfl rfl ?_
      refine rv_iload_n (q := 284) E.x dX12_mergesFile_283 rfl rfl ?_
      refine rv_iload (q := 286) E.x dX12_mergesFile_284 rfl rfl ?_
      refine rv_b1 (fun r2 e1 => ?_)
      refine rR_calli (q := 289) E (c12_sizeOf E.2.2.1 e1) gX12_sizeOf hX12_sizeOf ⟨rfl, rfl⟩ ⟨Nat.le_of_ble_eq_true rfl, Nat.le_of_ble_eq_true rfl⟩ rfl rfl rfl (Nat.le_of_ble_eq_true rfl) dX12_mergesFile_286 rfl ?_
      refine rv_iload (q := 291) E.x dX12_mergesFile_289 rfl rfl ?_
      refine rv_isub (q := 292) E.x dX12_mergesFile_291 rfl ?_
      refine rv_b1 (fun M4 e3 => ?_)
      refine rR_callv (q := 295) E (c12_fills E.2.2.1 e3) gX12_fills hX12_fills ⟨rfl, rfl⟩ ⟨Nat.le_of_ble_eq_true rfl, Nat.le_of_ble_eq_true rfl⟩ rfl rfl rfl (Nat.le_of_ble_eq_true rfl) dX12_mergesFile_292 rfl ?_
      refine rv_aload_n (q := 296) E.x dX12_mergesFile_295 rfl rfl ?_
      refine rR_get (q := 299) E 63 wf12_63 rfl (Nat.le_of_ble_eq_true rfl) rfl dX12_mergesFile_296 rfl ?_
      refine rv_bipush (q := 301) E.x dX12_mergesFile_299 rv_kb10 rfl ?_
      refine rv_icmp_gt (q := 304) (tgt := 308) E.x dX12_mergesFile_301 (by decide) rfl ?_ ?_
      · refine rv_iconst (q := 305) E.x dX12_mergesFile_304 rv_ki1 rfl ?_
        refine rv_goto (q := 309) E.x dX12_mergesFile_305 (by decide) ?_
        exact rR_zret E true rfl dX12_mergesFile_309
      · refine rv_iconst (q := 309) E.x dX12_mergesFile_308 rv_ki0 rfl ?_
        exact rR_zret E false rfl dX12_mergesFile_309
  · refine rv_wk [true, true, false, false, true, true, true, true, false, false, false] ?_
    exact b12_mergesFile_69 E k44 h44 M x1 x4 x5 x6 x7
theorem b12_mergesFile_44 {p : Program} {l : Launch} {e : Env} {s : State} {m : MethodId} {args : Array Value} {below : List Frame} {meth : Method} {c : Code} {D : va_G} {cI cZ : ClassId} {ad : Nat → Nat} (E : rR_E D cI cZ ad cX12_mergesFile 11 (some .boolean) p s m args meth c)   : ∀ (n : Nat), ∀ (M : rv_Mem) (x1 : Int32) (x4 : Int32) (x5 : Int32) (x6 : Int32) (x7 : Int32), rv_M (rR_G D cI cZ ad) (rR_A ad) p l e rm12_mergesFile s m args below meth c 0 0 (rR_qZW D cI cZ ad below args s) (f12_mergesFile_44 n M x1 x4 x5 x6 x7) 44 [some (.ref (ad 67)), some (.int x1), none, none, some (.int x4), some (.int x5), some (.int x6), some (.int x7), none, none, none] [] M := by
  intro n
  induction n with
  | zero => exact fun _ _ _ _ _ _ => rv_stuck
  | succ n ih => exact b12_mergesFile_44_s E  (f12_mergesFile_44 n) ih
set_option maxRecDepth 100000 in
theorem b12_mergesFile {p : Program} {l : Launch} {e : Env} {s : State} {m : MethodId} {args : Array Value} {below : List Frame} {meth : Method} {c : Code} {D : va_G} {cI cZ : ClassId} {ad : Nat → Nat} (E : rR_E D cI cZ ad cX12_mergesFile 11 (some .boolean) p s m args meth c) (M : rv_Mem) (a1 : Int32) (a2 : Int32) (a3 : Int32) (a4 : Int32) : rv_M (rR_G D cI cZ ad) (rR_A ad) p l e rm12_mergesFile s m args below meth c 0 0  (rR_qZW D cI cZ ad below args s) (f12_mergesFile M a1 a2 a3 a4) 0 [some (.ref (ad 67)), some (.int a1), some (.int a2), some (.int a3), some (.int a4), none, none, none, none, none, none] [] M := by
  unfold f12_mergesFile
  refine rv_aload_n (q := 1) E.x dX12_mergesFile_0 rfl rfl ?_
  refine rv_iconst (q := 2) E.x dX12_mergesFile_1 rv_ki0 rfl ?_
  refine rv_iload_n (q := 3) E.x dX12_mergesFile_2 rfl rfl ?_
  refine rv_iload_n (q := 4) E.x dX12_mergesFile_3 rfl rfl ?_
  refine rv_iload (q := 6) E.x dX12_mergesFile_4 rfl rfl ?_
  refine rv_b1 (fun M2 e1 => ?_)
  refine rR_callv (q := 9) E (c12_laysHunks E.2.2.1 e1) gX12_laysHunks hX12_laysHunks ⟨rfl, rfl⟩ ⟨Nat.le_of_ble_eq_true rfl, Nat.le_of_ble_eq_true rfl⟩ rfl rfl rfl (Nat.le_of_ble_eq_true rfl) dX12_mergesFile_6 rfl ?_
  refine rv_aload_n (q := 10) E.x dX12_mergesFile_9 rfl rfl ?_
  refine rv_iconst (q := 11) E.x dX12_mergesFile_10 rv_ki1 rfl ?_
  refine rv_iload_n (q := 12) E.x dX12_mergesFile_11 rfl rfl ?_
  refine rv_iload_n (q := 13) E.x dX12_mergesFile_12 rfl rfl ?_
  refine rv_iload (q := 15) E.x dX12_mergesFile_13 rfl rfl ?_
  refine rv_b1 (fun M4 e3 => ?_)
  refine rR_callv (q := 18) E (c12_laysHunks E.2.2.1 e3) gX12_laysHunks hX12_laysHunks ⟨rfl, rfl⟩ ⟨Nat.le_of_ble_eq_true rfl, Nat.le_of_ble_eq_true rfl⟩ rfl rfl rfl (Nat.le_of_ble_eq_true rfl) dX12_mergesFile_15 rfl ?_
  refine rv_aload_n (q := 19) E.x dX12_mergesFile_18 rfl rfl ?_
  refine rv_iload (q := 21) E.x dX12_mergesFile_19 rfl rfl ?_
  refine rv_b1 (fun r6 e5 => ?_)
  refine rR_calli (q := 24) E (c12_isConflict E.2.2.1 e5) gX12_isConflict hX12_isConflict ⟨rfl, rfl⟩ ⟨Nat.le_of_ble_eq_true rfl, Nat.le_of_ble_eq_true rfl⟩ rfl rfl rfl (Nat.le_of_ble_eq_true rfl) dX12_mergesFile_21 rfl ?_
  refine rv_ifz_eq (q := 27) (tgt := 29) E.x dX12_mergesFile_24 (by decide) rfl ?_ ?_
  · refine rv_iconst (q := 28) E.x dX12_mergesFile_27 rv_ki0 rfl ?_
    exact rR_zret E false rfl dX12_mergesFile_28
  · refine rv_aload_n (q := 30) E.x dX12_mergesFile_29 rfl rfl ?_
    refine rv_iconst (q := 31) E.x dX12_mergesFile_30 rv_ki0 rfl ?_
    refine rR_put (q := 34) E 63 wf12_63 rfl (Nat.le_of_ble_eq_true rfl) rfl rfl rfl dX12_mergesFile_31 rfl ?_
    refine rv_ltm (fun M7 => ?_)
    refine rv_iconst (q := 35) E.x dX12_mergesFile_34 rv_ki0 rfl ?_
    refine rv_istore (q := 37) (lv' := [_, _, _, _, _, _, _, _, _, _, _]) E.x dX12_mergesFile_35 (Nat.le_of_ble_eq_true rfl) rfl rfl rfl ?_
    refine rv_iconst (q := 38) E.x dX12_mergesFile_37 rv_ki0 rfl ?_
    refine rv_istore (q := 40) (lv' := [_, _, _, _, _, _, _, _, _, _, _]) E.x dX12_mergesFile_38 (Nat.le_of_ble_eq_true rfl) rfl rfl rfl ?_
    refine rv_bipush (q := 42) E.x dX12_mergesFile_40 rv_kb15 rfl ?_
    refine rv_istore (q := 44) (lv' := [_, _, _, _, _, _, _, _, _, _, _]) E.x dX12_mergesFile_42 (Nat.le_of_ble_eq_true rfl) rfl rfl rfl ?_
    refine rv_wk [true, true, false, false, true, true, true, true, false, false, false] ?_
    exact b12_mergesFile_44 E rv_FU M7 a1 a4 0 0 15
theorem c12_mergesFile {l : Launch} {D : va_G} {cI cZ : ClassId} {ad : Nat → Nat} (hI : rR_I ad) {M : rv_Mem} {a1 : Int32} {a2 : Int32} {a3 : Int32} {a4 : Int32} {r : Bool} {M1 : rv_Mem} (h : f12_mergesFile M a1 a2 a3 a4 = some (r, M1)) : Met l yX12_mergesFile (rv_ws yX12_mergesFile cX12_mergesFile 11 (some .boolean)) rm12_mergesFile (rR_Pc D cI cZ ad [.ref (ad 67), .int a1, .int a2, .int a3, .int a4] M) (rR_QI D cI cZ ad (rv_i r) M1) 0 0 (rR_A ad) := rR_met hI rfl (rv_cat rfl) (Nat.le_of_ble_eq_true rfl) (fun p e s m args below meth c E => ⟨(rR_qZW D cI cZ ad below args s), rfl, b12_mergesFile E M a1 a2 a3 a4⟩) h
abbrev rm12_merges : Room := { frames := 5, cells := 0, slots := 0, locals := 141 }
set_option maxRecDepth 100000 in
theorem b12_merges_99 {p : Program} {l : Launch} {e : Env} {s : State} {m : MethodId} {args : Array Value} {below : List Frame} {meth : Method} {c : Code} {D : va_G} {cI cZ : ClassId} {ad : Nat → Nat} (E : rR_E D cI cZ ad cX12_merges 7 (some .boolean) p s m args meth c) (k6 : rv_Mem → Int32 → Int32 → Int32 → Bool → Int32 → Option (Bool × rv_Mem)) (h6 : ∀ (M : rv_Mem) (x1 : Int32) (x2 : Int32) (x3 : Int32) (x4 : Bool) (x5 : Int32), rv_M (rR_G D cI cZ ad) (rR_A ad) p l e rm12_merges s m args below meth c 0 0 (rR_qZW D cI cZ ad below args s) (k6 M x1 x2 x3 x4 x5) 6 [some (.ref (ad 67)), some (.int x1), some (.int x2), some (.int x3), some (.int (rv_i x4)), some (.int x5), none] [] M) : ∀ (M : rv_Mem) (x1 : Int32) (x2 : Int32) (x3 : Int32) (x4 : Bool) (x5 : Int32), rv_M (rR_G D cI cZ ad) (rR_A ad) p l e rm12_merges s m args below meth c 0 0 (rR_qZW D cI cZ ad below args s) (f12_merges_99 k6 M x1 x2 x3 x4 x5) 99 [some (.ref (ad 67)), some (.int x1), some (.int x2), some (.int x3), some (.int (rv_i x4)), some (.int x5), none] [] M := by
  intro M x1 x2 x3 x4 x5
  unfold f12_merges_99
  refine rv_iinc (q := 102) (lv' := [_, _, _, _, _, _, _]) E.x dX12_merges_99 rv_ki1 rfl rfl rfl rfl ?_
  refine rv_goto (q := 6) E.x dX12_merges_102 (by decide) ?_
  refine rv_wk [true, true, true, true, true, true, false] ?_
  exact h6 M x1 x2 x3 x4 (x5 + 1)
set_option maxRecDepth 100000 in
theorem b12_merges_55_s {p : Program} {l : Launch} {e : Env} {s : State} {m : MethodId} {args : Array Value} {below : List Frame} {meth : Method} {c : Code} {D : va_G} {cI cZ : ClassId} {ad : Nat → Nat} (E : rR_E D cI cZ ad cX12_merges 7 (some .boolean) p s m args meth c) (k6 : rv_Mem → Int32 → Int32 → Int32 → Bool → Int32 → Option (Bool × rv_Mem)) (h6 : ∀ (M : rv_Mem) (x1 : Int32) (x2 : Int32) (x3 : Int32) (x4 : Bool) (x5 : Int32), rv_M (rR_G D cI cZ ad) (rR_A ad) p l e rm12_merges s m args below meth c 0 0 (rR_qZW D cI cZ ad below args s) (k6 M x1 x2 x3 x4 x5) 6 [some (.ref (ad 67)), some (.int x1), some (.int x2), some (.int x3), some (.int (rv_i x4)), some (.int x5), none] [] M) (k55 : rv_Mem → Int32 → Int32 → Int32 → Bool → Int32 → Int32 → Option (Bool × rv_Mem)) (h55 : ∀ (M : rv_Mem) (x1 : Int32) (x2 : Int32) (x3 : Int32) (x4 : Bool) (x5 : Int32) (x6 : Int32), rv_M (rR_G D cI cZ ad) (rR_A ad) p l e rm12_merges s m args below meth c 0 0 (rR_qZW D cI cZ ad below args s) (k55 M x1 x2 x3 x4 x5 x6) 55 [some (.ref (ad 67)), some (.int x1), some (.int x2), some (.int x3), some (.int (rv_i x4)), some (.int x5), some (.int x6)] [] M) : ∀ (M : rv_Mem) (x1 : Int32) (x2 : Int32) (x3 : Int32) (x4 : Bool) (x5 : Int32) (x6 : Int32), rv_M (rR_G D cI cZ ad) (rR_A ad) p l e rm12_merges s m args below meth c 0 0 (rR_qZW D cI cZ ad below args s) (f12_merges_55_s k6 k55 M x1 x2 x3 x4 x5 x6) 55 [some (.ref (ad 67)), some (.int x1), some (.int x2), some (.int x3), some (.int (rv_i x4)), some (.int x5), some (.int x6)] [] M := by
  intro M x1 x2 x3 x4 x5 x6
  unfold f12_merges_55_s
  refine rv_iload (q := 57) E.x dX12_merges_55 rfl rfl ?_
  refine rv_aload_n (q := 58) E.x dX12_merges_57 rfl rfl ?_
  refine rR_get (q := 61) E 63 wf12_63 rfl (Nat.le_of_ble_eq_true rfl) rfl dX12_merges_58 rfl ?_
  refine rv_icmp_ge (q := 64) (tgt := 99) E.x dX12_merges_61 (by decide) rfl ?_ ?_
  · refine rv_iload (q := 66) E.x dX12_merges_64 rfl rfl ?_
    refine rv_ifz_eq (q := 69) (tgt := 99) E.x dX12_merges_66 (by decide) rfl ?_ ?_
    · refine rv_aload_n (q := 70) E.x dX12_merges_69 rfl rfl ?_
      refine rR_get (q := 73) E 4 wf12_4 rfl (Nat.le_of_ble_eq_true rfl) rfl dX12_merges_70 rfl ?_
      refine rv_bipush (q := 75) E.x dX12_merges_73 rv_kb10 rfl ?_
      refine rv_sipush (q := 78) E.x dX12_merges_75 rv_ks324 rfl ?_
      refine rv_iload (q := 80) E.x dX12_merges_78 rfl rfl ?_
      refine rv_iadd (q := 81) E.x dX12_merges_80 rfl ?_
      refine rv_imul (q := 82) E.x dX12_merges_81 rfl ?_
      refine rv_iload (q := 84) E.x dX12_merges_82 rfl rfl ?_
      refine rv_iadd (q := 85) E.x dX12_merges_84 rfl ?_
      refine rv_aload_n (q := 86) E.x dX12_merges_85 rfl rfl ?_
      refine rR_get (q := 89) E 62 wf12_62 rfl (Nat.le_of_ble_eq_true rfl) rfl dX12_merges_86 rfl ?_
      refine rv_iload (q := 91) E.x dX12_merges_89 rfl rfl ?_
      refine rR_iald (q := 92) (n := 24) E (Nat.le_of_ble_eq_true rfl) rfl rfl dX12_merges_91 rfl ?_
      refine rR_iast (q := 93) (n := 3280) E (Nat.le_of_ble_eq_true rfl) rfl rfl dX12_merges_92 rfl ?_
      refine rv_ltm (fun M1 => ?_)
      refine rv_iinc (q := 96) (lv' := [_, _, _, _, _, _, _]) E.x dX12_merges_93 rv_ki1 rfl rfl rfl rfl ?_
      refine rv_goto (q := 55) E.x dX12_merges_96 (by decide) ?_
      refine rv_wk [true, true, true, true, true, true, true] ?_
      exact h55 M1 x1 x2 x3 x4 x5 (x6 + 1)
    · refine rv_wk [true, true, true, true, true, true, false] ?_
      exact b12_merges_99 E k6 h6 M x1 x2 x3 x4 x5
  · refine rv_wk [true, true, true, true, true, true, false] ?_
    exact b12_merges_99 E k6 h6 M x1 x2 x3 x4 x5
theorem b12_merges_55 {p : Program} {l : Launch} {e : Env} {s : State} {m : MethodId} {args : Array Value} {below : List Frame} {meth : Method} {c : Code} {D : va_G} {cI cZ : ClassId} {ad : Nat → Nat} (E : rR_E D cI cZ ad cX12_merges 7 (some .boolean) p s m args meth c) (k6 : rv_Mem → Int32 → Int32 → Int32 → Bool → Int32 → Option (Bool × rv_Mem)) (h6 : ∀ (M : rv_Mem) (x1 : Int32) (x2 : Int32) (x3 : Int32) (x4 : Bool) (x5 : Int32), rv_M (rR_G D cI cZ ad) (rR_A ad) p l e rm12_merges s m args below meth c 0 0 (rR_qZW D cI cZ ad below args s) (k6 M x1 x2 x3 x4 x5) 6 [some (.ref (ad 67)), some (.int x1), some (.int x2), some (.int x3), some (.int (rv_i x4)), some (.int x5), none] [] M) : ∀ (n : Nat), ∀ (M : rv_Mem) (x1 : Int32) (x2 : Int32) (x3 : Int32) (x4 : Bool) (x5 : Int32) (x6 : Int32), rv_M (rR_G D cI cZ ad) (rR_A ad) p l e rm12_merges s m args below meth c 0 0 (rR_qZW D cI cZ ad below args s) (f12_merges_55 k6 n M x1 x2 x3 x4 x5 x6) 55 [some (.ref (ad 67)), some (.int x1), some (.int x2), some (.int x3), some (.int (rv_i x4)), some (.int x5), some (.int x6)] [] M := by
  intro n
  induction n with
  | zero => exact fun _ _ _ _ _ _ _ => rv_stuck
  | succ n ih => exact b12_merges_55_s E k6 h6 (f12_merges_55 k6 n) ih
set_option maxRecDepth 100000 in
theorem b12_merges_51 {p : Program} {l : Launch} {e : Env} {s : State} {m : MethodId} {args : Array Value} {below : List Frame} {meth : Method} {c : Code} {D : va_G} {cI cZ : ClassId} {ad : Nat → Nat} (E : rR_E D cI cZ ad cX12_merges 7 (some .boolean) p s m args meth c) (k6 : rv_Mem → Int32 → Int32 → Int32 → Bool → Int32 → Option (Bool × rv_Mem)) (h6 : ∀ (M : rv_Mem) (x1 : Int32) (x2 : Int32) (x3 : Int32) (x4 : Bool) (x5 : Int32), rv_M (rR_G D cI cZ ad) (rR_A ad) p l e rm12_merges s m args below meth c 0 0 (rR_qZW D cI cZ ad below args s) (k6 M x1 x2 x3 x4 x5) 6 [some (.ref (ad 67)), some (.int x1), some (.int x2), some (.int x3), some (.int (rv_i x4)), some (.int x5), none] [] M) : ∀ (M : rv_Mem) (x1 : Int32) (x2 : Int32) (x3 : Int32) (x4 : Bool) (x5 : Int32) (s1 : Int32) (s2 : Int32), rv_M (rR_G D cI cZ ad) (rR_A ad) p l e rm12_merges s m args below meth c 0 0 (rR_qZW D cI cZ ad below args s) (f12_merges_51 k6 M x1 x2 x3 x4 x5 s1 s2) 51 [some (.ref (ad 67)), some (.int x1), some (.int x2), some (.int x3), some (.int (rv_i x4)), some (.int x5), none] [.int s2, .int s1, .ref (ad 3)] M := by
  intro M x1 x2 x3 x4 x5 s1 s2
  unfold f12_merges_51
  refine rR_iast (q := 52) (n := 328) E (Nat.le_of_ble_eq_true rfl) rfl rfl dX12_merges_51 rfl ?_
  refine rv_ltm (fun M1 => ?_)
  refine rv_iconst (q := 53) E.x dX12_merges_52 rv_ki0 rfl ?_
  refine rv_istore (q := 55) (lv' := [_, _, _, _, _, _, _]) E.x dX12_merges_53 (Nat.le_of_ble_eq_true rfl) rfl rfl rfl ?_
  refine rv_wk [true, true, true, true, true, true, true] ?_
  exact b12_merges_55 E k6 h6 rv_FU M1 x1 x2 x3 x4 x5 0
set_option maxRecDepth 100000 in
theorem b12_merges_6_s {p : Program} {l : Launch} {e : Env} {s : State} {m : MethodId} {args : Array Value} {below : List Frame} {meth : Method} {c : Code} {D : va_G} {cI cZ : ClassId} {ad : Nat → Nat} (E : rR_E D cI cZ ad cX12_merges 7 (some .boolean) p s m args meth c)   (k6 : rv_Mem → Int32 → Int32 → Int32 → Bool → Int32 → Option (Bool × rv_Mem)) (h6 : ∀ (M : rv_Mem) (x1 : Int32) (x2 : Int32) (x3 : Int32) (x4 : Bool) (x5 : Int32), rv_M (rR_G D cI cZ ad) (rR_A ad) p l e rm12_merges s m args below meth c 0 0 (rR_qZW D cI cZ ad below args s) (k6 M x1 x2 x3 x4 x5) 6 [some (.ref (ad 67)), some (.int x1), some (.int x2), some (.int x3), some (.int (rv_i x4)), some (.int x5), none] [] M) : ∀ (M : rv_Mem) (x1 : Int32) (x2 : Int32) (x3 : Int32) (x4 : Bool) (x5 : Int32), rv_M (rR_G D cI cZ ad) (rR_A ad) p l e rm12_merges s m args below meth c 0 0 (rR_qZW D cI cZ ad below args s) (f12_merges_6_s k6 M x1 x2 x3 x4 x5) 6 [some (.ref (ad 67)), some (.int x1), some (.int x2), some (.int x3), some (.int (rv_i x4)), some (.int x5), none] [] M := by
  intro M x1 x2 x3 x4 x5
  unfold f12_merges_6_s
  refine rv_iload (q := 8) E.x dX12_merges_6 rfl rfl ?_
  refine rv_iconst (q := 9) E.x dX12_merges_8 rv_ki4 rfl ?_
  refine rv_icmp_ge (q := 12) (tgt := 105) E.x dX12_merges_9 (by decide) rfl ?_ ?_
  · refine rv_iload (q := 14) E.x dX12_merges_12 rfl rfl ?_
    refine rv_ifz_eq (q := 17) (tgt := 105) E.x dX12_merges_14 (by decide) rfl ?_ ?_
    · refine rv_aload_n (q := 18) E.x dX12_merges_17 rfl rfl ?_
      refine rv_iload_n (q := 19) E.x dX12_merges_18 rfl rfl ?_
      refine rv_iload_n (q := 20) E.x dX12_merges_19 rfl rfl ?_
      refine rv_iload_n (q := 21) E.x dX12_merges_20 rfl rfl ?_
      refine rv_iload (q := 23) E.x dX12_merges_21 rfl rfl ?_
      refine rv_b2 (fun r2 M3 e1 => ?_)
      refine rR_calli (q := 26) E (c12_mergesFile E.2.2.1 e1) gX12_mergesFile hX12_mergesFile ⟨rfl, rfl⟩ ⟨Nat.le_of_ble_eq_true rfl, Nat.le_of_ble_eq_true rfl⟩ rfl rfl rfl (Nat.le_of_ble_eq_true rfl) dX12_merges_23 rfl ?_
      refine rv_istore (q := 28) (lv' := [_, _, _, _, _, _, _]) E.x dX12_merges_26 (Nat.le_of_ble_eq_true rfl) rfl rfl rfl ?_
      refine rv_aload_n (q := 29) E.x dX12_merges_28 rfl rfl ?_
      refine rR_get (q := 32) E 3 wf12_3 rfl (Nat.le_of_ble_eq_true rfl) rfl dX12_merges_29 rfl ?_
      refine rv_sipush (q := 35) E.x dX12_merges_32 rv_ks324 rfl ?_
      refine rv_iload (q := 37) E.x dX12_merges_35 rfl rfl ?_
      refine rv_iadd (q := 38) E.x dX12_merges_37 rfl ?_
      refine rv_iload (q := 40) E.x dX12_merges_38 rfl rfl ?_
      refine rv_ifz_eq (q := 43) (tgt := 50) E.x dX12_merges_40 (by decide) rfl ?_ ?_
      · refine rv_aload_n (q := 44) E.x dX12_merges_43 rfl rfl ?_
        refine rR_get (q := 47) E 63 wf12_63 rfl (Nat.le_of_ble_eq_true rfl) rfl dX12_merges_44 rfl ?_
        refine rv_goto (q := 51) E.x dX12_merges_47 (by decide) ?_
        refine rv_wk [true, true, true, true, true, true, false] ?_
        exact b12_merges_51 E k6 h6 M3 x1 x2 x3 r2 x5 (324 + x5) (M3 63 0)
      · refine rv_iconst (q := 51) E.x dX12_merges_50 rv_ki0 rfl ?_
        refine rv_wk [true, true, true, true, true, true, false] ?_
        exact b12_merges_51 E k6 h6 M3 x1 x2 x3 r2 x5 (324 + x5) 0
    · refine rv_iload (q := 107) E.x dX12_merges_105 rfl rfl ?_
      exact rR_zret E x4 rfl dX12_merges_107
  · refine rv_iload (q := 107) E.x dX12_merges_105 rfl rfl ?_
    exact rR_zret E x4 rfl dX12_merges_107
theorem b12_merges_6 {p : Program} {l : Launch} {e : Env} {s : State} {m : MethodId} {args : Array Value} {below : List Frame} {meth : Method} {c : Code} {D : va_G} {cI cZ : ClassId} {ad : Nat → Nat} (E : rR_E D cI cZ ad cX12_merges 7 (some .boolean) p s m args meth c)   : ∀ (n : Nat), ∀ (M : rv_Mem) (x1 : Int32) (x2 : Int32) (x3 : Int32) (x4 : Bool) (x5 : Int32), rv_M (rR_G D cI cZ ad) (rR_A ad) p l e rm12_merges s m args below meth c 0 0 (rR_qZW D cI cZ ad below args s) (f12_merges_6 n M x1 x2 x3 x4 x5) 6 [some (.ref (ad 67)), some (.int x1), some (.int x2), some (.int x3), some (.int (rv_i x4)), some (.int x5), none] [] M := by
  intro n
  induction n with
  | zero => exact fun _ _ _ _ _ _ => rv_stuck
  | succ n ih => exact b12_merges_6_s E  (f12_merges_6 n) ih
set_option maxRecDepth 100000 in
theorem b12_merges {p : Program} {l : Launch} {e : Env} {s : State} {m : MethodId} {args : Array Value} {below : List Frame} {meth : Method} {c : Code} {D : va_G} {cI cZ : ClassId} {ad : Nat → Nat} (E : rR_E D cI cZ ad cX12_merges 7 (some .boolean) p s m args meth c) (M : rv_Mem) (a1 : Int32) (a2 : Int32) (a3 : Int32) : rv_M (rR_G D cI cZ ad) (rR_A ad) p l e rm12_merges s m args below meth c 0 0  (rR_qZW D cI cZ ad below args s) (f12_merges M a1 a2 a3) 0 [some (.ref (ad 67)), some (.int a1), some (.int a2), some (.int a3), none, none, none] [] M := by
  unfold f12_merges
  refine rv_iconst (q := 1) E.x dX12_merges_0 rv_ki1 rfl ?_
  refine rv_istore (q := 3) (lv' := [_, _, _, _, _, _, _]) E.x dX12_merges_1 (Nat.le_of_ble_eq_true rfl) rfl rfl rfl ?_
  refine rv_iconst (q := 4) E.x dX12_merges_3 rv_ki0 rfl ?_
  refine rv_istore (q := 6) (lv' := [_, _, _, _, _, _, _]) E.x dX12_merges_4 (Nat.le_of_ble_eq_true rfl) rfl rfl rfl ?_
  refine rv_wk [true, true, true, true, true, true, false] ?_
  exact b12_merges_6 E rv_FU M a1 a2 a3 true 0
theorem c12_merges {l : Launch} {D : va_G} {cI cZ : ClassId} {ad : Nat → Nat} (hI : rR_I ad) {M : rv_Mem} {a1 : Int32} {a2 : Int32} {a3 : Int32} {r : Bool} {M1 : rv_Mem} (h : f12_merges M a1 a2 a3 = some (r, M1)) : Met l yX12_merges (rv_ws yX12_merges cX12_merges 7 (some .boolean)) rm12_merges (rR_Pc D cI cZ ad [.ref (ad 67), .int a1, .int a2, .int a3] M) (rR_QI D cI cZ ad (rv_i r) M1) 0 0 (rR_A ad) := rR_met hI rfl (rv_cat rfl) (Nat.le_of_ble_eq_true rfl) (fun p e s m args below meth c E => ⟨(rR_qZW D cI cZ ad below args s), rfl, b12_merges E M a1 a2 a3⟩) h
abbrev rm12_commitAt : Room := { frames := 0, cells := 0, slots := 0, locals := 0 }
set_option maxRecDepth 100000 in
theorem b12_commitAt_42 {p : Program} {l : Launch} {e : Env} {s : State} {m : MethodId} {args : Array Value} {below : List Frame} {meth : Method} {c : Code} {D : va_G} {cI cZ : ClassId} {ad : Nat → Nat} (E : rR_E D cI cZ ad cX12_commitAt 5 (some .int) p s m args meth c) (M : rv_Mem) (k5 : Int32 → Int32 → Int32 → Int32 → Option (Int32)) (h5 : ∀ (x1 : Int32) (x2 : Int32) (x3 : Int32) (x4 : Int32), rv_M (rR_G D cI cZ ad) (rR_A ad) p l e rm12_commitAt s m args below meth c 0 0 (rR_qI D cI cZ ad below args s M) (k5 x1 x2 x3 x4) 5 [some (.ref (ad 67)), some (.int x1), some (.int x2), some (.int x3), some (.int x4)] [] M) : ∀ (x1 : Int32) (x2 : Int32) (x4 : Int32) (s0 : Int32), rv_M (rR_G D cI cZ ad) (rR_A ad) p l e rm12_commitAt s m args below meth c 0 0 (rR_qI D cI cZ ad below args s M) (f12_commitAt_42 M k5 x1 x2 x4 s0) 42 [some (.ref (ad 67)), some (.int x1), some (.int x2), none, some (.int x4)] [.int s0] M := by
  intro x1 x2 x4 s0
  unfold f12_commitAt_42
  refine rv_istore_n (q := 43) (lv' := [_, _, _, _, _]) E.x dX12_commitAt_42 (Nat.le_of_ble_eq_true rfl) rfl rfl rfl ?_
  refine rv_iinc (q := 46) (lv' := [_, _, _, _, _]) E.x dX12_commitAt_43 rv_ki1 rfl rfl rfl rfl ?_
  refine rv_goto (q := 5) E.x dX12_commitAt_46 (by decide) ?_
  refine rv_wk [true, true, true, true, true] ?_
  exact h5 x1 x2 s0 (x4 + 1)
set_option maxRecDepth 100000 in
theorem b12_commitAt_41 {p : Program} {l : Launch} {e : Env} {s : State} {m : MethodId} {args : Array Value} {below : List Frame} {meth : Method} {c : Code} {D : va_G} {cI cZ : ClassId} {ad : Nat → Nat} (E : rR_E D cI cZ ad cX12_commitAt 5 (some .int) p s m args meth c) (M : rv_Mem) (k5 : Int32 → Int32 → Int32 → Int32 → Option (Int32)) (h5 : ∀ (x1 : Int32) (x2 : Int32) (x3 : Int32) (x4 : Int32), rv_M (rR_G D cI cZ ad) (rR_A ad) p l e rm12_commitAt s m args below meth c 0 0 (rR_qI D cI cZ ad below args s M) (k5 x1 x2 x3 x4) 5 [some (.ref (ad 67)), some (.int x1), some (.int x2), some (.int x3), some (.int x4)] [] M) : ∀ (x1 : Int32) (x2 : Int32) (x3 : Int32) (x4 : Int32), rv_M (rR_G D cI cZ ad) (rR_A ad) p l e rm12_commitAt s m args below meth c 0 0 (rR_qI D cI cZ ad below args s M) (f12_commitAt_41 M k5 x1 x2 x3 x4) 41 [some (.ref (ad 67)), some (.int x1), some (.int x2), some (.int x3), some (.int x4)] [] M := by
  intro x1 x2 x3 x4
  unfold f12_commitAt_41
  refine rv_iload_n (q := 42) E.x dX12_commitAt_41 rfl rfl ?_
  refine rv_wk [true, true, true, false, true] ?_
  exact b12_commitAt_42 E M k5 h5 x1 x2 x4 x3
set_option maxRecDepth 100000 in
theorem b12_commitAt_5_s {p : Program} {l : Launch} {e : Env} {s : State} {m : MethodId} {args : Array Value} {below : List Frame} {meth : Method} {c : Code} {D : va_G} {cI cZ : ClassId} {ad : Nat → Nat} (E : rR_E D cI cZ ad cX12_commitAt 5 (some .int) p s m args meth c) (M : rv_Mem)   (k5 : Int32 → Int32 → Int32 → Int32 → Option (Int32)) (h5 : ∀ (x1 : Int32) (x2 : Int32) (x3 : Int32) (x4 : Int32), rv_M (rR_G D cI cZ ad) (rR_A ad) p l e rm12_commitAt s m args below meth c 0 0 (rR_qI D cI cZ ad below args s M) (k5 x1 x2 x3 x4) 5 [some (.ref (ad 67)), some (.int x1), some (.int x2), some (.int x3), some (.int x4)] [] M) : ∀ (x1 : Int32) (x2 : Int32) (x3 : Int32) (x4 : Int32), rv_M (rR_G D cI cZ ad) (rR_A ad) p l e rm12_commitAt s m args below meth c 0 0 (rR_qI D cI cZ ad below args s M) (f12_commitAt_5_s M k5 x1 x2 x3 x4) 5 [some (.ref (ad 67)), some (.int x1), some (.int x2), some (.int x3), some (.int x4)] [] M := by
  intro x1 x2 x3 x4
  unfold f12_commitAt_5_s
  refine rv_iload (q := 7) E.x dX12_commitAt_5 rfl rfl ?_
  refine rv_aload_n (q := 8) E.x dX12_commitAt_7 rfl rfl ?_
  refine rR_get (q := 11) E 0 wf12_0 rfl (Nat.le_of_ble_eq_true rfl) rfl dX12_commitAt_8 rfl ?_
  refine rv_icmp_ge (q := 14) (tgt := 49) E.x dX12_commitAt_11 (by decide) rfl ?_ ?_
  · refine rv_aload_n (q := 15) E.x dX12_commitAt_14 rfl rfl ?_
    refine rR_get (q := 18) E 5 wf12_5 rfl (Nat.le_of_ble_eq_true rfl) rfl dX12_commitAt_15 rfl ?_
    refine rv_iload (q := 20) E.x dX12_commitAt_18 rfl rfl ?_
    refine rR_iald (q := 21) (n := 82) E (Nat.le_of_ble_eq_true rfl) rfl rfl dX12_commitAt_20 rfl ?_
    refine rv_iload_n (q := 22) E.x dX12_commitAt_21 rfl rfl ?_
    refine rv_icmp_ne (q := 25) (tgt := 41) E.x dX12_commitAt_22 (by decide) rfl ?_ ?_
    · refine rv_aload_n (q := 26) E.x dX12_commitAt_25 rfl rfl ?_
      refine rR_get (q := 29) E 6 wf12_6 rfl (Nat.le_of_ble_eq_true rfl) rfl dX12_commitAt_26 rfl ?_
      refine rv_iload (q := 31) E.x dX12_commitAt_29 rfl rfl ?_
      refine rR_iald (q := 32) (n := 82) E (Nat.le_of_ble_eq_true rfl) rfl rfl dX12_commitAt_31 rfl ?_
      refine rv_iload_n (q := 33) E.x dX12_commitAt_32 rfl rfl ?_
      refine rv_icmp_ne (q := 36) (tgt := 41) E.x dX12_commitAt_33 (by decide) rfl ?_ ?_
      · refine rv_iload (q := 38) E.x dX12_commitAt_36 rfl rfl ?_
        refine rv_goto (q := 42) E.x dX12_commitAt_38 (by decide) ?_
        refine rv_wk [true, true, true, false, true] ?_
        exact b12_commitAt_42 E M k5 h5 x1 x2 x4 x4
      · refine rv_wk [true, true, true, true, true] ?_
        exact b12_commitAt_41 E M k5 h5 x1 x2 x3 x4
    · refine rv_wk [true, true, true, true, true] ?_
      exact b12_commitAt_41 E M k5 h5 x1 x2 x3 x4
  · refine rv_iload_n (q := 50) E.x dX12_commitAt_49 rfl rfl ?_
    exact rR_iret E rfl dX12_commitAt_50
theorem b12_commitAt_5 {p : Program} {l : Launch} {e : Env} {s : State} {m : MethodId} {args : Array Value} {below : List Frame} {meth : Method} {c : Code} {D : va_G} {cI cZ : ClassId} {ad : Nat → Nat} (E : rR_E D cI cZ ad cX12_commitAt 5 (some .int) p s m args meth c) (M : rv_Mem)   : ∀ (n : Nat), ∀ (x1 : Int32) (x2 : Int32) (x3 : Int32) (x4 : Int32), rv_M (rR_G D cI cZ ad) (rR_A ad) p l e rm12_commitAt s m args below meth c 0 0 (rR_qI D cI cZ ad below args s M) (f12_commitAt_5 M n x1 x2 x3 x4) 5 [some (.ref (ad 67)), some (.int x1), some (.int x2), some (.int x3), some (.int x4)] [] M := by
  intro n
  induction n with
  | zero => exact fun _ _ _ _ => rv_stuck
  | succ n ih => exact b12_commitAt_5_s E M (f12_commitAt_5 M n) ih
set_option maxRecDepth 100000 in
theorem b12_commitAt {p : Program} {l : Launch} {e : Env} {s : State} {m : MethodId} {args : Array Value} {below : List Frame} {meth : Method} {c : Code} {D : va_G} {cI cZ : ClassId} {ad : Nat → Nat} (E : rR_E D cI cZ ad cX12_commitAt 5 (some .int) p s m args meth c) (M : rv_Mem) (a1 : Int32) (a2 : Int32) : rv_M (rR_G D cI cZ ad) (rR_A ad) p l e rm12_commitAt s m args below meth c 0 0  (rR_qI D cI cZ ad below args s M) (f12_commitAt M a1 a2) 0 [some (.ref (ad 67)), some (.int a1), some (.int a2), none, none] [] M := by
  unfold f12_commitAt
  refine rv_iconst (q := 1) E.x dX12_commitAt_0 rv_kim1 rfl ?_
  refine rv_istore_n (q := 2) (lv' := [_, _, _, _, _]) E.x dX12_commitAt_1 (Nat.le_of_ble_eq_true rfl) rfl rfl rfl ?_
  refine rv_iconst (q := 3) E.x dX12_commitAt_2 rv_ki0 rfl ?_
  refine rv_istore (q := 5) (lv' := [_, _, _, _, _]) E.x dX12_commitAt_3 (Nat.le_of_ble_eq_true rfl) rfl rfl rfl ?_
  refine rv_wk [true, true, true, true, true] ?_
  exact b12_commitAt_5 E M rv_FU a1 a2 (-1) 0
theorem c12_commitAt {l : Launch} {D : va_G} {cI cZ : ClassId} {ad : Nat → Nat} (hI : rR_I ad) {M : rv_Mem} {a1 : Int32} {a2 : Int32} {r : Int32} (h : f12_commitAt M a1 a2 = some r) : Met l yX12_commitAt (rv_ws yX12_commitAt cX12_commitAt 5 (some .int)) rm12_commitAt (rR_Pc D cI cZ ad [.ref (ad 67), .int a1, .int a2] M) (rR_QI D cI cZ ad r M) 0 0 (rR_A ad) := rR_met hI rfl (rv_cat rfl) (Nat.le_of_ble_eq_true rfl) (fun p e s m args below meth c E => ⟨(rR_qI D cI cZ ad below args s M), rfl, b12_commitAt E M a1 a2⟩) h
abbrev rm12_current : Room := { frames := 1, cells := 0, slots := 0, locals := 24 }
set_option maxRecDepth 100000 in
theorem b12_current {p : Program} {l : Launch} {e : Env} {s : State} {m : MethodId} {args : Array Value} {below : List Frame} {meth : Method} {c : Code} {D : va_G} {cI cZ : ClassId} {ad : Nat → Nat} (E : rR_E D cI cZ ad cX12_current 2 (some .int) p s m args meth c) (M : rv_Mem) (a1 : Int32) : rv_M (rR_G D cI cZ ad) (rR_A ad) p l e rm12_current s m args below meth c 0 0  (rR_qI D cI cZ ad below args s M) (f12_current M a1) 0 [some (.ref (ad 67)), some (.int a1)] [] M := by
  unfold f12_current
  refine rv_aload_n (q := 1) E.x dX12_current_0 rfl rfl ?_
  refine rv_iload_n (q := 2) E.x dX12_current_1 rfl rfl ?_
  refine rv_aload_n (q := 3) E.x dX12_current_2 rfl rfl ?_
  refine rR_get (q := 6) E 14 wf12_14 rfl (Nat.le_of_ble_eq_true rfl) rfl dX12_current_3 rfl ?_
  refine rv_iload_n (q := 7) E.x dX12_current_6 rfl rfl ?_
  refine rR_iald (q := 8) (n := 20) E (Nat.le_of_ble_eq_true rfl) rfl rfl dX12_current_7 rfl ?_
  refine rv_iconst (q := 9) E.x dX12_current_8 rv_ki1 rfl ?_
  refine rv_isub (q := 10) E.x dX12_current_9 rfl ?_
  refine rv_b1 (fun r2 e1 => ?_)
  refine rR_calli (q := 13) E (c12_commitAt E.2.2.1 e1) gX12_commitAt hX12_commitAt ⟨rfl, rfl⟩ ⟨Nat.le_of_ble_eq_true rfl, Nat.le_of_ble_eq_true rfl⟩ rfl rfl rfl (Nat.le_of_ble_eq_true rfl) dX12_current_10 rfl ?_
  exact rR_iret E rfl dX12_current_13
theorem c12_current {l : Launch} {D : va_G} {cI cZ : ClassId} {ad : Nat → Nat} (hI : rR_I ad) {M : rv_Mem} {a1 : Int32} {r : Int32} (h : f12_current M a1 = some r) : Met l yX12_current (rv_ws yX12_current cX12_current 2 (some .int)) rm12_current (rR_Pc D cI cZ ad [.ref (ad 67), .int a1] M) (rR_QI D cI cZ ad r M) 0 0 (rR_A ad) := rR_met hI rfl (rv_cat rfl) (Nat.le_of_ble_eq_true rfl) (fun p e s m args below meth c E => ⟨(rR_qI D cI cZ ad below args s M), rfl, b12_current E M a1⟩) h
abbrev rm12_parent : Room := { frames := 2, cells := 0, slots := 0, locals := 45 }
set_option maxRecDepth 100000 in
theorem b12_parent {p : Program} {l : Launch} {e : Env} {s : State} {m : MethodId} {args : Array Value} {below : List Frame} {meth : Method} {c : Code} {D : va_G} {cI cZ : ClassId} {ad : Nat → Nat} (E : rR_E D cI cZ ad cX12_parent 3 (some .int) p s m args meth c) (M : rv_Mem) (a1 : Int32) : rv_M (rR_G D cI cZ ad) (rR_A ad) p l e rm12_parent s m args below meth c 0 0  (rR_qI D cI cZ ad below args s M) (f12_parent M a1) 0 [some (.ref (ad 67)), some (.int a1), none] [] M := by
  unfold f12_parent
  refine rv_aload_n (q := 1) E.x dX12_parent_0 rfl rfl ?_
  refine rR_get (q := 4) E 2 wf12_2 rfl (Nat.le_of_ble_eq_true rfl) rfl dX12_parent_1 rfl ?_
  refine rv_aload_n (q := 5) E.x dX12_parent_4 rfl rfl ?_
  refine rv_iload_n (q := 6) E.x dX12_parent_5 rfl rfl ?_
  refine rv_b1 (fun r2 e1 => ?_)
  refine rR_calli (q := 9) E (c12_current E.2.2.1 e1) gX12_current hX12_current ⟨rfl, rfl⟩ ⟨Nat.le_of_ble_eq_true rfl, Nat.le_of_ble_eq_true rfl⟩ rfl rfl rfl (Nat.le_of_ble_eq_true rfl) dX12_parent_6 rfl ?_
  refine rR_iald (q := 10) (n := 82) E (Nat.le_of_ble_eq_true rfl) rfl rfl dX12_parent_9 rfl ?_
  refine rv_istore_n (q := 11) (lv' := [_, _, _]) E.x dX12_parent_10 (Nat.le_of_ble_eq_true rfl) rfl rfl rfl ?_
  refine rv_aload_n (q := 12) E.x dX12_parent_11 rfl rfl ?_
  refine rR_get (q := 15) E 5 wf12_5 rfl (Nat.le_of_ble_eq_true rfl) rfl dX12_parent_12 rfl ?_
  refine rv_iload_n (q := 16) E.x dX12_parent_15 rfl rfl ?_
  refine rR_iald (q := 17) (n := 82) E (Nat.le_of_ble_eq_true rfl) rfl rfl dX12_parent_16 rfl ?_
  exact rR_iret E rfl dX12_parent_17
theorem c12_parent {l : Launch} {D : va_G} {cI cZ : ClassId} {ad : Nat → Nat} (hI : rR_I ad) {M : rv_Mem} {a1 : Int32} {r : Int32} (h : f12_parent M a1 = some r) : Met l yX12_parent (rv_ws yX12_parent cX12_parent 3 (some .int)) rm12_parent (rR_Pc D cI cZ ad [.ref (ad 67), .int a1] M) (rR_QI D cI cZ ad r M) 0 0 (rR_A ad) := rR_met hI rfl (rv_cat rfl) (Nat.le_of_ble_eq_true rfl) (fun p e s m args below meth c E => ⟨(rR_qI D cI cZ ad below args s M), rfl, b12_parent E M a1⟩) h
abbrev rm12_isOutdated : Room := { frames := 2, cells := 0, slots := 0, locals := 45 }
set_option maxRecDepth 100000 in
theorem b12_isOutdated {p : Program} {l : Launch} {e : Env} {s : State} {m : MethodId} {args : Array Value} {below : List Frame} {meth : Method} {c : Code} {D : va_G} {cI cZ : ClassId} {ad : Nat → Nat} (E : rR_E D cI cZ ad cX12_isOutdated 3 (some .boolean) p s m args meth c) (M : rv_Mem) (a1 : Int32) : rv_M (rR_G D cI cZ ad) (rR_A ad) p l e rm12_isOutdated s m args below meth c 0 0  (rR_qZ D cI cZ ad below args s M) (f12_isOutdated M a1) 0 [some (.ref (ad 67)), some (.int a1), none] [] M := by
  unfold f12_isOutdated
  refine rv_aload_n (q := 1) E.x dX12_isOutdated_0 rfl rfl ?_
  refine rR_get (q := 4) E 2 wf12_2 rfl (Nat.le_of_ble_eq_true rfl) rfl dX12_isOutdated_1 rfl ?_
  refine rv_aload_n (q := 5) E.x dX12_isOutdated_4 rfl rfl ?_
  refine rv_iload_n (q := 6) E.x dX12_isOutdated_5 rfl rfl ?_
  refine rv_b1 (fun r2 e1 => ?_)
  refine rR_calli (q := 9) E (c12_current E.2.2.1 e1) gX12_current hX12_current ⟨rfl, rfl⟩ ⟨Nat.le_of_ble_eq_true rfl, Nat.le_of_ble_eq_true rfl⟩ rfl rfl rfl (Nat.le_of_ble_eq_true rfl) dX12_isOutdated_6 rfl ?_
  refine rR_iald (q := 10) (n := 82) E (Nat.le_of_ble_eq_true rfl) rfl rfl dX12_isOutdated_9 rfl ?_
  refine rv_istore_n (q := 11) (lv' := [_, _, _]) E.x dX12_isOutdated_10 (Nat.le_of_ble_eq_true rfl) rfl rfl rfl ?_
  refine rv_aload_n (q := 12) E.x dX12_isOutdated_11 rfl rfl ?_
  refine rR_get (q := 15) E 5 wf12_5 rfl (Nat.le_of_ble_eq_true rfl) rfl dX12_isOutdated_12 rfl ?_
  refine rv_iload_n (q := 16) E.x dX12_isOutdated_15 rfl rfl ?_
  refine rR_iald (q := 17) (n := 82) E (Nat.le_of_ble_eq_true rfl) rfl rfl dX12_isOutdated_16 rfl ?_
  refine rv_iconst (q := 18) E.x dX12_isOutdated_17 rv_kim1 rfl ?_
  refine rv_icmp_eq (q := 21) (tgt := 39) E.x dX12_isOutdated_18 (by decide) rfl ?_ ?_
  · refine rv_iload_n (q := 22) E.x dX12_isOutdated_21 rfl rfl ?_
    refine rv_aload_n (q := 23) E.x dX12_isOutdated_22 rfl rfl ?_
    refine rv_aload_n (q := 24) E.x dX12_isOutdated_23 rfl rfl ?_
    refine rR_get (q := 27) E 5 wf12_5 rfl (Nat.le_of_ble_eq_true rfl) rfl dX12_isOutdated_24 rfl ?_
    refine rv_iload_n (q := 28) E.x dX12_isOutdated_27 rfl rfl ?_
    refine rR_iald (q := 29) (n := 82) E (Nat.le_of_ble_eq_true rfl) rfl rfl dX12_isOutdated_28 rfl ?_
    refine rv_b1 (fun r4 e3 => ?_)
    refine rR_calli (q := 32) E (c12_current E.2.2.1 e3) gX12_current hX12_current ⟨rfl, rfl⟩ ⟨Nat.le_of_ble_eq_true rfl, Nat.le_of_ble_eq_true rfl⟩ rfl rfl rfl (Nat.le_of_ble_eq_true rfl) dX12_isOutdated_29 rfl ?_
    refine rv_icmp_eq (q := 35) (tgt := 39) E.x dX12_isOutdated_32 (by decide) rfl ?_ ?_
    · refine rv_iconst (q := 36) E.x dX12_isOutdated_35 rv_ki1 rfl ?_
      refine rv_goto (q := 40) E.x dX12_isOutdated_36 (by decide) ?_
      exact rR_zret E true rfl dX12_isOutdated_40
    · refine rv_iconst (q := 40) E.x dX12_isOutdated_39 rv_ki0 rfl ?_
      exact rR_zret E false rfl dX12_isOutdated_40
  · refine rv_iconst (q := 40) E.x dX12_isOutdated_39 rv_ki0 rfl ?_
    exact rR_zret E false rfl dX12_isOutdated_40
theorem c12_isOutdated {l : Launch} {D : va_G} {cI cZ : ClassId} {ad : Nat → Nat} (hI : rR_I ad) {M : rv_Mem} {a1 : Int32} {r : Bool} (h : f12_isOutdated M a1 = some r) : Met l yX12_isOutdated (rv_ws yX12_isOutdated cX12_isOutdated 3 (some .boolean)) rm12_isOutdated (rR_Pc D cI cZ ad [.ref (ad 67), .int a1] M) (rR_QI D cI cZ ad (rv_i r) M) 0 0 (rR_A ad) := rR_met hI rfl (rv_cat rfl) (Nat.le_of_ble_eq_true rfl) (fun p e s m args below meth c E => ⟨(rR_qZ D cI cZ ad below args s M), rfl, b12_isOutdated E M a1⟩) h
abbrev rm12_repoOf : Room := { frames := 2, cells := 0, slots := 0, locals := 45 }
set_option maxRecDepth 100000 in
theorem b12_repoOf {p : Program} {l : Launch} {e : Env} {s : State} {m : MethodId} {args : Array Value} {below : List Frame} {meth : Method} {c : Code} {D : va_G} {cI cZ : ClassId} {ad : Nat → Nat} (E : rR_E D cI cZ ad cX12_repoOf 2 (some .int) p s m args meth c) (M : rv_Mem) (a1 : Int32) : rv_M (rR_G D cI cZ ad) (rR_A ad) p l e rm12_repoOf s m args below meth c 0 0  (rR_qI D cI cZ ad below args s M) (f12_repoOf M a1) 0 [some (.ref (ad 67)), some (.int a1)] [] M := by
  unfold f12_repoOf
  refine rv_aload_n (q := 1) E.x dX12_repoOf_0 rfl rfl ?_
  refine rR_get (q := 4) E 1 wf12_1 rfl (Nat.le_of_ble_eq_true rfl) rfl dX12_repoOf_1 rfl ?_
  refine rv_aload_n (q := 5) E.x dX12_repoOf_4 rfl rfl ?_
  refine rv_iload_n (q := 6) E.x dX12_repoOf_5 rfl rfl ?_
  refine rv_b1 (fun r2 e1 => ?_)
  refine rR_calli (q := 9) E (c12_current E.2.2.1 e1) gX12_current hX12_current ⟨rfl, rfl⟩ ⟨Nat.le_of_ble_eq_true rfl, Nat.le_of_ble_eq_true rfl⟩ rfl rfl rfl (Nat.le_of_ble_eq_true rfl) dX12_repoOf_6 rfl ?_
  refine rR_iald (q := 10) (n := 82) E (Nat.le_of_ble_eq_true rfl) rfl rfl dX12_repoOf_9 rfl ?_
  exact rR_iret E rfl dX12_repoOf_10
theorem c12_repoOf {l : Launch} {D : va_G} {cI cZ : ClassId} {ad : Nat → Nat} (hI : rR_I ad) {M : rv_Mem} {a1 : Int32} {r : Int32} (h : f12_repoOf M a1 = some r) : Met l yX12_repoOf (rv_ws yX12_repoOf cX12_repoOf 2 (some .int)) rm12_repoOf (rR_Pc D cI cZ ad [.ref (ad 67), .int a1] M) (rR_QI D cI cZ ad r M) 0 0 (rR_A ad) := rR_met hI rfl (rv_cat rfl) (Nat.le_of_ble_eq_true rfl) (fun p e s m args below meth c E => ⟨(rR_qI D cI cZ ad below args s M), rfl, b12_repoOf E M a1⟩) h
abbrev rm12_reviewersOf : Room := { frames := 0, cells := 0, slots := 0, locals := 0 }
set_option maxRecDepth 100000 in
theorem b12_reviewersOf_49 {p : Program} {l : Launch} {e : Env} {s : State} {m : MethodId} {args : Array Value} {below : List Frame} {meth : Method} {c : Code} {D : va_G} {cI cZ : ClassId} {ad : Nat → Nat} (E : rR_E D cI cZ ad cX12_reviewersOf 6 (some .int) p s m args meth c) (M : rv_Mem) (k9 : Int32 → Int32 → Int32 → Option (Int32)) (h9 : ∀ (x1 : Int32) (x2 : Int32) (x3 : Int32), rv_M (rR_G D cI cZ ad) (rR_A ad) p l e rm12_reviewersOf s m args below meth c 0 0 (rR_qI D cI cZ ad below args s M) (k9 x1 x2 x3) 9 [some (.ref (ad 67)), some (.int x1), some (.int x2), some (.int x3), none, none] [] M) : ∀ (x1 : Int32) (x3 : Int32) (s0 : Int32) (s1 : Int32), rv_M (rR_G D cI cZ ad) (rR_A ad) p l e rm12_reviewersOf s m args below meth c 0 0 (rR_qI D cI cZ ad below args s M) (f12_reviewersOf_49 M k9 x1 x3 s0 s1) 49 [some (.ref (ad 67)), some (.int x1), none, some (.int x3), none, none] [.int s1, .int s0] M := by
  intro x1 x3 s0 s1
  unfold f12_reviewersOf_49
  refine rv_ior (q := 50) E.x dX12_reviewersOf_49 rfl ?_
  refine rv_istore_n (q := 51) (lv' := [_, _, _, _, _, _]) E.x dX12_reviewersOf_50 (Nat.le_of_ble_eq_true rfl) rfl rfl rfl ?_
  refine rv_iinc (q := 54) (lv' := [_, _, _, _, _, _]) E.x dX12_reviewersOf_51 rv_ki1 rfl rfl rfl rfl ?_
  refine rv_goto (q := 9) E.x dX12_reviewersOf_54 (by decide) ?_
  refine rv_wk [true, true, true, true, false, false] ?_
  exact h9 x1 (s0 ||| s1) (x3 + 1)
set_option maxRecDepth 100000 in
theorem b12_reviewersOf_48 {p : Program} {l : Launch} {e : Env} {s : State} {m : MethodId} {args : Array Value} {below : List Frame} {meth : Method} {c : Code} {D : va_G} {cI cZ : ClassId} {ad : Nat → Nat} (E : rR_E D cI cZ ad cX12_reviewersOf 6 (some .int) p s m args meth c) (M : rv_Mem) (k9 : Int32 → Int32 → Int32 → Option (Int32)) (h9 : ∀ (x1 : Int32) (x2 : Int32) (x3 : Int32), rv_M (rR_G D cI cZ ad) (rR_A ad) p l e rm12_reviewersOf s m args below meth c 0 0 (rR_qI D cI cZ ad below args s M) (k9 x1 x2 x3) 9 [some (.ref (ad 67)), some (.int x1), some (.int x2), some (.int x3), none, none] [] M) : ∀ (x1 : Int32) (x3 : Int32) (s0 : Int32), rv_M (rR_G D cI cZ ad) (rR_A ad) p l e rm12_reviewersOf s m args below meth c 0 0 (rR_qI D cI cZ ad below args s M) (f12_reviewersOf_48 M k9 x1 x3 s0) 48 [some (.ref (ad 67)), some (.int x1), none, some (.int x3), none, none] [.int s0] M := by
  intro x1 x3 s0
  unfold f12_reviewersOf_48
  refine rv_iconst (q := 49) E.x dX12_reviewersOf_48 rv_ki0 rfl ?_
  refine rv_wk [true, true, false, true, false, false] ?_
  exact b12_reviewersOf_49 E M k9 h9 x1 x3 s0 0
set_option maxRecDepth 100000 in
theorem b12_reviewersOf_142 {p : Program} {l : Launch} {e : Env} {s : State} {m : MethodId} {args : Array Value} {below : List Frame} {meth : Method} {c : Code} {D : va_G} {cI cZ : ClassId} {ad : Nat → Nat} (E : rR_E D cI cZ ad cX12_reviewersOf 6 (some .int) p s m args meth c) (M : rv_Mem) (k59 : Int32 → Int32 → Int32 → Option (Int32)) (k70 : Int32 → Int32 → Int32 → Int32 → Option (Int32)) (h59 : ∀ (x1 : Int32) (x2 : Int32) (x3 : Int32), rv_M (rR_G D cI cZ ad) (rR_A ad) p l e rm12_reviewersOf s m args below meth c 0 0 (rR_qI D cI cZ ad below args s M) (k59 x1 x2 x3) 59 [some (.ref (ad 67)), some (.int x1), some (.int x2), some (.int x3), none, none] [] M) (h70 : ∀ (x1 : Int32) (x2 : Int32) (x3 : Int32) (x4 : Int32), rv_M (rR_G D cI cZ ad) (rR_A ad) p l e rm12_reviewersOf s m args below meth c 0 0 (rR_qI D cI cZ ad below args s M) (k70 x1 x2 x3 x4) 70 [some (.ref (ad 67)), some (.int x1), some (.int x2), some (.int x3), some (.int x4), none] [] M) : ∀ (x1 : Int32) (x3 : Int32) (x4 : Int32) (s0 : Int32) (s1 : Int32), rv_M (rR_G D cI cZ ad) (rR_A ad) p l e rm12_reviewersOf s m args below meth c 0 0 (rR_qI D cI cZ ad below args s M) (f12_reviewersOf_142 M k59 k70 x1 x3 x4 s0 s1) 142 [some (.ref (ad 67)), some (.int x1), none, some (.int x3), some (.int x4), none] [.int s1, .int s0] M := by
  intro x1 x3 x4 s0 s1
  unfold f12_reviewersOf_142
  refine rv_ior (q := 143) E.x dX12_reviewersOf_142 rfl ?_
  refine rv_istore_n (q := 144) (lv' := [_, _, _, _, _, _]) E.x dX12_reviewersOf_143 (Nat.le_of_ble_eq_true rfl) rfl rfl rfl ?_
  refine rv_iinc (q := 147) (lv' := [_, _, _, _, _, _]) E.x dX12_reviewersOf_144 rv_ki1 rfl rfl rfl rfl ?_
  refine rv_goto (q := 70) E.x dX12_reviewersOf_147 (by decide) ?_
  refine rv_wk [true, true, true, true, true, false] ?_
  exact h70 x1 (s0 ||| s1) x3 (x4 + 1)
set_option maxRecDepth 100000 in
theorem b12_reviewersOf_141 {p : Program} {l : Launch} {e : Env} {s : State} {m : MethodId} {args : Array Value} {below : List Frame} {meth : Method} {c : Code} {D : va_G} {cI cZ : ClassId} {ad : Nat → Nat} (E : rR_E D cI cZ ad cX12_reviewersOf 6 (some .int) p s m args meth c) (M : rv_Mem) (k59 : Int32 → Int32 → Int32 → Option (Int32)) (k70 : Int32 → Int32 → Int32 → Int32 → Option (Int32)) (h59 : ∀ (x1 : Int32) (x2 : Int32) (x3 : Int32), rv_M (rR_G D cI cZ ad) (rR_A ad) p l e rm12_reviewersOf s m args below meth c 0 0 (rR_qI D cI cZ ad below args s M) (k59 x1 x2 x3) 59 [some (.ref (ad 67)), some (.int x1), some (.int x2), some (.int x3), none, none] [] M) (h70 : ∀ (x1 : Int32) (x2 : Int32) (x3 : Int32) (x4 : Int32), rv_M (rR_G D cI cZ ad) (rR_A ad) p l e rm12_reviewersOf s m args below meth c 0 0 (rR_qI D cI cZ ad below args s M) (k70 x1 x2 x3 x4) 70 [some (.ref (ad 67)), some (.int x1), some (.int x2), some (.int x3), some (.int x4), none] [] M) : ∀ (x1 : Int32) (x3 : Int32) (x4 : Int32) (s0 : Int32), rv_M (rR_G D cI cZ ad) (rR_A ad) p l e rm12_reviewersOf s m args below meth c 0 0 (rR_qI D cI cZ ad below args s M) (f12_reviewersOf_141 M k59 k70 x1 x3 x4 s0) 141 [some (.ref (ad 67)), some (.int x1), none, some (.int x3), some (.int x4), none] [.int s0] M := by
  intro x1 x3 x4 s0
  unfold f12_reviewersOf_141
  refine rv_iconst (q := 142) E.x dX12_reviewersOf_141 rv_ki0 rfl ?_
  refine rv_wk [true, true, false, true, true, false] ?_
  exact b12_reviewersOf_142 E M k59 k70 h59 h70 x1 x3 x4 s0 0
set_option maxRecDepth 100000 in
theorem b12_reviewersOf_116 {p : Program} {l : Launch} {e : Env} {s : State} {m : MethodId} {args : Array Value} {below : List Frame} {meth : Method} {c : Code} {D : va_G} {cI cZ : ClassId} {ad : Nat → Nat} (E : rR_E D cI cZ ad cX12_reviewersOf 6 (some .int) p s m args meth c) (M : rv_Mem) (k59 : Int32 → Int32 → Int32 → Option (Int32)) (k70 : Int32 → Int32 → Int32 → Int32 → Option (Int32)) (h59 : ∀ (x1 : Int32) (x2 : Int32) (x3 : Int32), rv_M (rR_G D cI cZ ad) (rR_A ad) p l e rm12_reviewersOf s m args below meth c 0 0 (rR_qI D cI cZ ad below args s M) (k59 x1 x2 x3) 59 [some (.ref (ad 67)), some (.int x1), some (.int x2), some (.int x3), none, none] [] M) (h70 : ∀ (x1 : Int32) (x2 : Int32) (x3 : Int32) (x4 : Int32), rv_M (rR_G D cI cZ ad) (rR_A ad) p l e rm12_reviewersOf s m args below meth c 0 0 (rR_qI D cI cZ ad below args s M) (k70 x1 x2 x3 x4) 70 [some (.ref (ad 67)), some (.int x1), some (.int x2), some (.int x3), some (.int x4), none] [] M) : ∀ (x1 : Int32) (x2 : Int32) (x3 : Int32) (x4 : Int32) (s0 : Bool), rv_M (rR_G D cI cZ ad) (rR_A ad) p l e rm12_reviewersOf s m args below meth c 0 0 (rR_qI D cI cZ ad below args s M) (f12_reviewersOf_116 M k59 k70 x1 x2 x3 x4 s0) 116 [some (.ref (ad 67)), some (.int x1), some (.int x2), some (.int x3), some (.int x4), none] [.int (rv_i s0)] M := by
  intro x1 x2 x3 x4 s0
  unfold f12_reviewersOf_116
  refine rv_istore (q := 118) (lv' := [_, _, _, _, _, _]) E.x dX12_reviewersOf_116 (Nat.le_of_ble_eq_true rfl) rfl rfl rfl ?_
  refine rv_iload_n (q := 119) E.x dX12_reviewersOf_118 rfl rfl ?_
  refine rv_aload_n (q := 120) E.x dX12_reviewersOf_119 rfl rfl ?_
  refine rR_get (q := 123) E 5 wf12_5 rfl (Nat.le_of_ble_eq_true rfl) rfl dX12_reviewersOf_120 rfl ?_
  refine rv_iload_n (q := 124) E.x dX12_reviewersOf_123 rfl rfl ?_
  refine rR_iald (q := 125) (n := 82) E (Nat.le_of_ble_eq_true rfl) rfl rfl dX12_reviewersOf_124 rfl ?_
  refine rv_iload_n (q := 126) E.x dX12_reviewersOf_125 rfl rfl ?_
  refine rv_icmp_ne (q := 129) (tgt := 141) E.x dX12_reviewersOf_126 (by decide) rfl ?_ ?_
  · refine rv_iload (q := 131) E.x dX12_reviewersOf_129 rfl rfl ?_
    refine rv_ifz_eq (q := 134) (tgt := 141) E.x dX12_reviewersOf_131 (by decide) rfl ?_ ?_
    · refine rv_iconst (q := 135) E.x dX12_reviewersOf_134 rv_ki1 rfl ?_
      refine rv_iload (q := 137) E.x dX12_reviewersOf_135 rfl rfl ?_
      refine rv_ishl (q := 138) E.x dX12_reviewersOf_137 rfl ?_
      refine rv_goto (q := 142) E.x dX12_reviewersOf_138 (by decide) ?_
      refine rv_wk [true, true, false, true, true, false] ?_
      exact b12_reviewersOf_142 E M k59 k70 h59 h70 x1 x3 x4 x2 (1 <<< (x4 &&& 31))
    · refine rv_wk [true, true, false, true, true, false] ?_
      exact b12_reviewersOf_141 E M k59 k70 h59 h70 x1 x3 x4 x2
  · refine rv_wk [true, true, false, true, true, false] ?_
    exact b12_reviewersOf_141 E M k59 k70 h59 h70 x1 x3 x4 x2
set_option maxRecDepth 100000 in
theorem b12_reviewersOf_70_s {p : Program} {l : Launch} {e : Env} {s : State} {m : MethodId} {args : Array Value} {below : List Frame} {meth : Method} {c : Code} {D : va_G} {cI cZ : ClassId} {ad : Nat → Nat} (E : rR_E D cI cZ ad cX12_reviewersOf 6 (some .int) p s m args meth c) (M : rv_Mem) (k59 : Int32 → Int32 → Int32 → Option (Int32)) (h59 : ∀ (x1 : Int32) (x2 : Int32) (x3 : Int32), rv_M (rR_G D cI cZ ad) (rR_A ad) p l e rm12_reviewersOf s m args below meth c 0 0 (rR_qI D cI cZ ad below args s M) (k59 x1 x2 x3) 59 [some (.ref (ad 67)), some (.int x1), some (.int x2), some (.int x3), none, none] [] M) (k70 : Int32 → Int32 → Int32 → Int32 → Option (Int32)) (h70 : ∀ (x1 : Int32) (x2 : Int32) (x3 : Int32) (x4 : Int32), rv_M (rR_G D cI cZ ad) (rR_A ad) p l e rm12_reviewersOf s m args below meth c 0 0 (rR_qI D cI cZ ad below args s M) (k70 x1 x2 x3 x4) 70 [some (.ref (ad 67)), some (.int x1), some (.int x2), some (.int x3), some (.int x4), none] [] M) : ∀ (x1 : Int32) (x2 : Int32) (x3 : Int32) (x4 : Int32), rv_M (rR_G D cI cZ ad) (rR_A ad) p l e rm12_reviewersOf s m args below meth c 0 0 (rR_qI D cI cZ ad below args s M) (f12_reviewersOf_70_s M k59 k70 x1 x2 x3 x4) 70 [some (.ref (ad 67)), some (.int x1), some (.int x2), some (.int x3), some (.int x4), none] [] M := by
  intro x1 x2 x3 x4
  unfold f12_reviewersOf_70_s
  refine rv_iload (q := 72) E.x dX12_reviewersOf_70 rfl rfl ?_
  refine rv_bipush (q := 74) E.x dX12_reviewersOf_72 rv_kb6 rfl ?_
  refine rv_icmp_ge (q := 77) (tgt := 150) E.x dX12_reviewersOf_74 (by decide) rfl ?_ ?_
  · refine rv_aload_n (q := 78) E.x dX12_reviewersOf_77 rfl rfl ?_
    refine rR_get (q := 81) E 22 wf12_22 rfl (Nat.le_of_ble_eq_true rfl) rfl dX12_reviewersOf_78 rfl ?_
    refine rv_bipush (q := 83) E.x dX12_reviewersOf_81 rv_kb12 rfl ?_
    refine rv_iload_n (q := 84) E.x dX12_reviewersOf_83 rfl rfl ?_
    refine rv_imul (q := 85) E.x dX12_reviewersOf_84 rfl ?_
    refine rv_iconst (q := 86) E.x dX12_reviewersOf_85 rv_ki2 rfl ?_
    refine rv_iload (q := 88) E.x dX12_reviewersOf_86 rfl rfl ?_
    refine rv_imul (q := 89) E.x dX12_reviewersOf_88 rfl ?_
    refine rv_iadd (q := 90) E.x dX12_reviewersOf_89 rfl ?_
    refine rR_iald (q := 91) (n := 960) E (Nat.le_of_ble_eq_true rfl) rfl rfl dX12_reviewersOf_90 rfl ?_
    refine rv_aload_n (q := 92) E.x dX12_reviewersOf_91 rfl rfl ?_
    refine rR_get (q := 95) E 22 wf12_22 rfl (Nat.le_of_ble_eq_true rfl) rfl dX12_reviewersOf_92 rfl ?_
    refine rv_bipush (q := 97) E.x dX12_reviewersOf_95 rv_kb12 rfl ?_
    refine rv_iload_n (q := 98) E.x dX12_reviewersOf_97 rfl rfl ?_
    refine rv_imul (q := 99) E.x dX12_reviewersOf_98 rfl ?_
    refine rv_iconst (q := 100) E.x dX12_reviewersOf_99 rv_ki2 rfl ?_
    refine rv_iload (q := 102) E.x dX12_reviewersOf_100 rfl rfl ?_
    refine rv_imul (q := 103) E.x dX12_reviewersOf_102 rfl ?_
    refine rv_iadd (q := 104) E.x dX12_reviewersOf_103 rfl ?_
    refine rv_iconst (q := 105) E.x dX12_reviewersOf_104 rv_ki1 rfl ?_
    refine rv_iadd (q := 106) E.x dX12_reviewersOf_105 rfl ?_
    refine rR_iald (q := 107) (n := 960) E (Nat.le_of_ble_eq_true rfl) rfl rfl dX12_reviewersOf_106 rfl ?_
    refine rv_iadd (q := 108) E.x dX12_reviewersOf_107 rfl ?_
    refine rv_if_le (q := 111) (tgt := 115) E.x dX12_reviewersOf_108 (by decide) rfl ?_ ?_
    · refine rv_iconst (q := 112) E.x dX12_reviewersOf_111 rv_ki1 rfl ?_
      refine rv_goto (q := 116) E.x dX12_reviewersOf_112 (by decide) ?_
      refine rv_wk [true, true, true, true, true, false] ?_
      exact b12_reviewersOf_116 E M k59 k70 h59 h70 x1 x2 x3 x4 true
    · refine rv_iconst (q := 116) E.x dX12_reviewersOf_115 rv_ki0 rfl ?_
      refine rv_wk [true, true, true, true, true, false] ?_
      exact b12_reviewersOf_116 E M k59 k70 h59 h70 x1 x2 x3 x4 false
  · refine rv_iinc (q := 153) (lv' := [_, _, _, _, _, _]) E.x dX12_reviewersOf_150 rv_ki1 rfl rfl rfl rfl ?_
    refine rv_goto (q := 59) E.x dX12_reviewersOf_153 (by decide) ?_
    refine rv_wk [true, true, true, true, false, false] ?_
    exact h59 x1 x2 (x3 + 1)
theorem b12_reviewersOf_70 {p : Program} {l : Launch} {e : Env} {s : State} {m : MethodId} {args : Array Value} {below : List Frame} {meth : Method} {c : Code} {D : va_G} {cI cZ : ClassId} {ad : Nat → Nat} (E : rR_E D cI cZ ad cX12_reviewersOf 6 (some .int) p s m args meth c) (M : rv_Mem) (k59 : Int32 → Int32 → Int32 → Option (Int32)) (h59 : ∀ (x1 : Int32) (x2 : Int32) (x3 : Int32), rv_M (rR_G D cI cZ ad) (rR_A ad) p l e rm12_reviewersOf s m args below meth c 0 0 (rR_qI D cI cZ ad below args s M) (k59 x1 x2 x3) 59 [some (.ref (ad 67)), some (.int x1), some (.int x2), some (.int x3), none, none] [] M) : ∀ (n : Nat), ∀ (x1 : Int32) (x2 : Int32) (x3 : Int32) (x4 : Int32), rv_M (rR_G D cI cZ ad) (rR_A ad) p l e rm12_reviewersOf s m args below meth c 0 0 (rR_qI D cI cZ ad below args s M) (f12_reviewersOf_70 M k59 n x1 x2 x3 x4) 70 [some (.ref (ad 67)), some (.int x1), some (.int x2), some (.int x3), some (.int x4), none] [] M := by
  intro n
  induction n with
  | zero => exact fun _ _ _ _ => rv_stuck
  | succ n ih => exact b12_reviewersOf_70_s E M k59 h59 (f12_reviewersOf_70 M k59 n) ih
set_option maxRecDepth 100000 in
theorem b12_reviewersOf_59_s {p : Program} {l : Launch} {e : Env} {s : State} {m : MethodId} {args : Array Value} {below : List Frame} {meth : Method} {c : Code} {D : va_G} {cI cZ : ClassId} {ad : Nat → Nat} (E : rR_E D cI cZ ad cX12_reviewersOf 6 (some .int) p s m args meth c) (M : rv_Mem)   (k59 : Int32 → Int32 → Int32 → Option (Int32)) (h59 : ∀ (x1 : Int32) (x2 : Int32) (x3 : Int32), rv_M (rR_G D cI cZ ad) (rR_A ad) p l e rm12_reviewersOf s m args below meth c 0 0 (rR_qI D cI cZ ad below args s M) (k59 x1 x2 x3) 59 [some (.ref (ad 67)), some (.int x1), some (.int x2), some (.int x3), none, none] [] M) : ∀ (x1 : Int32) (x2 : Int32) (x3 : Int32), rv_M (rR_G D cI cZ ad) (rR_A ad) p l e rm12_reviewersOf s m args below meth c 0 0 (rR_qI D cI cZ ad below args s M) (f12_reviewersOf_59_s M k59 x1 x2 x3) 59 [some (.ref (ad 67)), some (.int x1), some (.int x2), some (.int x3), none, none] [] M := by
  intro x1 x2 x3
  unfold f12_reviewersOf_59_s
  refine rv_iload_n (q := 60) E.x dX12_reviewersOf_59 rfl rfl ?_
  refine rv_aload_n (q := 61) E.x dX12_reviewersOf_60 rfl rfl ?_
  refine rR_get (q := 64) E 0 wf12_0 rfl (Nat.le_of_ble_eq_true rfl) rfl dX12_reviewersOf_61 rfl ?_
  refine rv_icmp_ge (q := 67) (tgt := 156) E.x dX12_reviewersOf_64 (by decide) rfl ?_ ?_
  · refine rv_iconst (q := 68) E.x dX12_reviewersOf_67 rv_ki0 rfl ?_
    refine rv_istore (q := 70) (lv' := [_, _, _, _, _, _]) E.x dX12_reviewersOf_68 (Nat.le_of_ble_eq_true rfl) rfl rfl rfl ?_
    refine rv_wk [true, true, true, true, true, false] ?_
    exact b12_reviewersOf_70 E M k59 h59 rv_FU x1 x2 x3 0
  · refine rv_iload_n (q := 157) E.x dX12_reviewersOf_156 rfl rfl ?_
    refine rv_iconst (q := 158) E.x dX12_reviewersOf_157 rv_ki1 rfl ?_
    refine rv_aload_n (q := 159) E.x dX12_reviewersOf_158 rfl rfl ?_
    refine rR_get (q := 162) E 12 wf12_12 rfl (Nat.le_of_ble_eq_true rfl) rfl dX12_reviewersOf_159 rfl ?_
    refine rv_iload_n (q := 163) E.x dX12_reviewersOf_162 rfl rfl ?_
    refine rR_iald (q := 164) (n := 20) E (Nat.le_of_ble_eq_true rfl) rfl rfl dX12_reviewersOf_163 rfl ?_
    refine rv_ishl (q := 165) E.x dX12_reviewersOf_164 rfl ?_
    refine rv_iconst (q := 166) E.x dX12_reviewersOf_165 rv_kim1 rfl ?_
    refine rv_ixor (q := 167) E.x dX12_reviewersOf_166 rfl ?_
    refine rv_iand (q := 168) E.x dX12_reviewersOf_167 rfl ?_
    exact rR_iret E rfl dX12_reviewersOf_168
theorem b12_reviewersOf_59 {p : Program} {l : Launch} {e : Env} {s : State} {m : MethodId} {args : Array Value} {below : List Frame} {meth : Method} {c : Code} {D : va_G} {cI cZ : ClassId} {ad : Nat → Nat} (E : rR_E D cI cZ ad cX12_reviewersOf 6 (some .int) p s m args meth c) (M : rv_Mem)   : ∀ (n : Nat), ∀ (x1 : Int32) (x2 : Int32) (x3 : Int32), rv_M (rR_G D cI cZ ad) (rR_A ad) p l e rm12_reviewersOf s m args below meth c 0 0 (rR_qI D cI cZ ad below args s M) (f12_reviewersOf_59 M n x1 x2 x3) 59 [some (.ref (ad 67)), some (.int x1), some (.int x2), some (.int x3), none, none] [] M := by
  intro n
  induction n with
  | zero => exact fun _ _ _ => rv_stuck
  | succ n ih => exact b12_reviewersOf_59_s E M (f12_reviewersOf_59 M n) ih
set_option maxRecDepth 100000 in
theorem b12_reviewersOf_9_s {p : Program} {l : Launch} {e : Env} {s : State} {m : MethodId} {args : Array Value} {below : List Frame} {meth : Method} {c : Code} {D : va_G} {cI cZ : ClassId} {ad : Nat → Nat} (E : rR_E D cI cZ ad cX12_reviewersOf 6 (some .int) p s m args meth c) (M : rv_Mem)   (k9 : Int32 → Int32 → Int32 → Option (Int32)) (h9 : ∀ (x1 : Int32) (x2 : Int32) (x3 : Int32), rv_M (rR_G D cI cZ ad) (rR_A ad) p l e rm12_reviewersOf s m args below meth c 0 0 (rR_qI D cI cZ ad below args s M) (k9 x1 x2 x3) 9 [some (.ref (ad 67)), some (.int x1), some (.int x2), some (.int x3), none, none] [] M) : ∀ (x1 : Int32) (x2 : Int32) (x3 : Int32), rv_M (rR_G D cI cZ ad) (rR_A ad) p l e rm12_reviewersOf s m args below meth c 0 0 (rR_qI D cI cZ ad below args s M) (f12_reviewersOf_9_s M k9 x1 x2 x3) 9 [some (.ref (ad 67)), some (.int x1), some (.int x2), some (.int x3), none, none] [] M := by
  intro x1 x2 x3
  unfold f12_reviewersOf_9_s
  refine rv_iload_n (q := 10) E.x dX12_reviewersOf_9 rfl rfl ?_
  refine rv_aload_n (q := 11) E.x dX12_reviewersOf_10 rfl rfl ?_
  refine rR_get (q := 14) E 24 wf12_24 rfl (Nat.le_of_ble_eq_true rfl) rfl dX12_reviewersOf_11 rfl ?_
  refine rv_icmp_ge (q := 17) (tgt := 57) E.x dX12_reviewersOf_14 (by decide) rfl ?_ ?_
  · refine rv_iload_n (q := 18) E.x dX12_reviewersOf_17 rfl rfl ?_
    refine rv_aload_n (q := 19) E.x dX12_reviewersOf_18 rfl rfl ?_
    refine rR_get (q := 22) E 26 wf12_26 rfl (Nat.le_of_ble_eq_true rfl) rfl dX12_reviewersOf_19 rfl ?_
    refine rv_iload_n (q := 23) E.x dX12_reviewersOf_22 rfl rfl ?_
    refine rR_iald (q := 24) (n := 60) E (Nat.le_of_ble_eq_true rfl) rfl rfl dX12_reviewersOf_23 rfl ?_
    refine rv_iload_n (q := 25) E.x dX12_reviewersOf_24 rfl rfl ?_
    refine rv_icmp_ne (q := 28) (tgt := 48) E.x dX12_reviewersOf_25 (by decide) rfl ?_ ?_
    · refine rv_aload_n (q := 29) E.x dX12_reviewersOf_28 rfl rfl ?_
      refine rR_get (q := 32) E 32 wf12_32 rfl (Nat.le_of_ble_eq_true rfl) rfl dX12_reviewersOf_29 rfl ?_
      refine rv_iload_n (q := 33) E.x dX12_reviewersOf_32 rfl rfl ?_
      refine rR_zald (q := 34) (n := 60) E (Nat.le_of_ble_eq_true rfl) rfl rfl dX12_reviewersOf_33 rfl ?_
      refine rv_ifz_ne (q := 37) (tgt := 48) E.x dX12_reviewersOf_34 (by decide) rfl ?_ ?_
      · refine rv_iconst (q := 38) E.x dX12_reviewersOf_37 rv_ki1 rfl ?_
        refine rv_aload_n (q := 39) E.x dX12_reviewersOf_38 rfl rfl ?_
        refine rR_get (q := 42) E 25 wf12_25 rfl (Nat.le_of_ble_eq_true rfl) rfl dX12_reviewersOf_39 rfl ?_
        refine rv_iload_n (q := 43) E.x dX12_reviewersOf_42 rfl rfl ?_
        refine rR_iald (q := 44) (n := 60) E (Nat.le_of_ble_eq_true rfl) rfl rfl dX12_reviewersOf_43 rfl ?_
        refine rv_ishl (q := 45) E.x dX12_reviewersOf_44 rfl ?_
        refine rv_goto (q := 49) E.x dX12_reviewersOf_45 (by decide) ?_
        refine rv_wk [true, true, false, true, false, false] ?_
        exact b12_reviewersOf_49 E M k9 h9 x1 x3 x2 (1 <<< ((M 25 (x3).toNatClampNeg) &&& 31))
      · refine rv_wk [true, true, false, true, false, false] ?_
        exact b12_reviewersOf_48 E M k9 h9 x1 x3 x2
    · refine rv_wk [true, true, false, true, false, false] ?_
      exact b12_reviewersOf_48 E M k9 h9 x1 x3 x2
  · refine rv_iconst (q := 58) E.x dX12_reviewersOf_57 rv_ki0 rfl ?_
    refine rv_istore_n (q := 59) (lv' := [_, _, _, _, _, _]) E.x dX12_reviewersOf_58 (Nat.le_of_ble_eq_true rfl) rfl rfl rfl ?_
    refine rv_wk [true, true, true, true, false, false] ?_
    exact b12_reviewersOf_59 E M rv_FU x1 x2 0
theorem b12_reviewersOf_9 {p : Program} {l : Launch} {e : Env} {s : State} {m : MethodId} {args : Array Value} {below : List Frame} {meth : Method} {c : Code} {D : va_G} {cI cZ : ClassId} {ad : Nat → Nat} (E : rR_E D cI cZ ad cX12_reviewersOf 6 (some .int) p s m args meth c) (M : rv_Mem)   : ∀ (n : Nat), ∀ (x1 : Int32) (x2 : Int32) (x3 : Int32), rv_M (rR_G D cI cZ ad) (rR_A ad) p l e rm12_reviewersOf s m args below meth c 0 0 (rR_qI D cI cZ ad below args s M) (f12_reviewersOf_9 M n x1 x2 x3) 9 [some (.ref (ad 67)), some (.int x1), some (.int x2), some (.int x3), none, none] [] M := by
  intro n
  induction n with
  | zero => exact fun _ _ _ => rv_stuck
  | succ n ih => exact b12_reviewersOf_9_s E M (f12_reviewersOf_9 M n) ih
set_option maxRecDepth 100000 in
theorem b12_reviewersOf {p : Program} {l : Launch} {e : Env} {s : State} {m : MethodId} {args : Array Value} {below : List Frame} {meth : Method} {c : Code} {D : va_G} {cI cZ : ClassId} {ad : Nat → Nat} (E : rR_E D cI cZ ad cX12_reviewersOf 6 (some .int) p s m args meth c) (M : rv_Mem) (a1 : Int32) : rv_M (rR_G D cI cZ ad) (rR_A ad) p l e rm12_reviewersOf s m args below meth c 0 0  (rR_qI D cI cZ ad below args s M) (f12_reviewersOf M a1) 0 [some (.ref (ad 67)), some (.int a1), none, none, none, none] [] M := by
  unfold f12_reviewersOf
  refine rv_aload_n (q := 1) E.x dX12_reviewersOf_0 rfl rfl ?_
  refine rR_get (q := 4) E 19 wf12_19 rfl (Nat.le_of_ble_eq_true rfl) rfl dX12_reviewersOf_1 rfl ?_
  refine rv_iload_n (q := 5) E.x dX12_reviewersOf_4 rfl rfl ?_
  refine rR_iald (q := 6) (n := 20) E (Nat.le_of_ble_eq_true rfl) rfl rfl dX12_reviewersOf_5 rfl ?_
  refine rv_istore_n (q := 7) (lv' := [_, _, _, _, _, _]) E.x dX12_reviewersOf_6 (Nat.le_of_ble_eq_true rfl) rfl rfl rfl ?_
  refine rv_iconst (q := 8) E.x dX12_reviewersOf_7 rv_ki0 rfl ?_
  refine rv_istore_n (q := 9) (lv' := [_, _, _, _, _, _]) E.x dX12_reviewersOf_8 (Nat.le_of_ble_eq_true rfl) rfl rfl rfl ?_
  refine rv_wk [true, true, true, true, false, false] ?_
  exact b12_reviewersOf_9 E M rv_FU a1 (M 19 (a1).toNatClampNeg) 0
theorem c12_reviewersOf {l : Launch} {D : va_G} {cI cZ : ClassId} {ad : Nat → Nat} (hI : rR_I ad) {M : rv_Mem} {a1 : Int32} {r : Int32} (h : f12_reviewersOf M a1 = some r) : Met l yX12_reviewersOf (rv_ws yX12_reviewersOf cX12_reviewersOf 6 (some .int)) rm12_reviewersOf (rR_Pc D cI cZ ad [.ref (ad 67), .int a1] M) (rR_QI D cI cZ ad r M) 0 0 (rR_A ad) := rR_met hI rfl (rv_cat rfl) (Nat.le_of_ble_eq_true rfl) (fun p e s m args below meth c E => ⟨(rR_qI D cI cZ ad below args s M), rfl, b12_reviewersOf E M a1⟩) h
abbrev rm12_canSee : Room := { frames := 1, cells := 0, slots := 0, locals := 25 }
set_option maxRecDepth 100000 in
theorem b12_canSee_32 {p : Program} {l : Launch} {e : Env} {s : State} {m : MethodId} {args : Array Value} {below : List Frame} {meth : Method} {c : Code} {D : va_G} {cI cZ : ClassId} {ad : Nat → Nat} (E : rR_E D cI cZ ad cX12_canSee 3 (some .boolean) p s m args meth c) (M : rv_Mem)   : rv_M (rR_G D cI cZ ad) (rR_A ad) p l e rm12_canSee s m args below meth c 0 0 (rR_qZ D cI cZ ad below args s M) (f12_canSee_32 M) 32 [some (.ref (ad 67)), none, none] [] M := by
  unfold f12_canSee_32
  refine rv_iconst (q := 33) E.x dX12_canSee_32 rv_ki1 rfl ?_
  refine rv_goto (q := 37) E.x dX12_canSee_33 (by decide) ?_
  exact rR_zret E true rfl dX12_canSee_37
set_option maxRecDepth 100000 in
theorem b12_canSee {p : Program} {l : Launch} {e : Env} {s : State} {m : MethodId} {args : Array Value} {below : List Frame} {meth : Method} {c : Code} {D : va_G} {cI cZ : ClassId} {ad : Nat → Nat} (E : rR_E D cI cZ ad cX12_canSee 3 (some .boolean) p s m args meth c) (M : rv_Mem) (a1 : Int32) (a2 : Int32) : rv_M (rR_G D cI cZ ad) (rR_A ad) p l e rm12_canSee s m args below meth c 0 0  (rR_qZ D cI cZ ad below args s M) (f12_canSee M a1 a2) 0 [some (.ref (ad 67)), some (.int a1), some (.int a2)] [] M := by
  unfold f12_canSee
  refine rv_aload_n (q := 1) E.x dX12_canSee_0 rfl rfl ?_
  refine rR_get (q := 4) E 16 wf12_16 rfl (Nat.le_of_ble_eq_true rfl) rfl dX12_canSee_1 rfl ?_
  refine rv_iload_n (q := 5) E.x dX12_canSee_4 rfl rfl ?_
  refine rR_zald (q := 6) (n := 20) E (Nat.le_of_ble_eq_true rfl) rfl rfl dX12_canSee_5 rfl ?_
  refine rv_ifz_eq (q := 9) (tgt := 32) E.x dX12_canSee_6 (by decide) rfl ?_ ?_
  · refine rv_aload_n (q := 10) E.x dX12_canSee_9 rfl rfl ?_
    refine rR_get (q := 13) E 12 wf12_12 rfl (Nat.le_of_ble_eq_true rfl) rfl dX12_canSee_10 rfl ?_
    refine rv_iload_n (q := 14) E.x dX12_canSee_13 rfl rfl ?_
    refine rR_iald (q := 15) (n := 20) E (Nat.le_of_ble_eq_true rfl) rfl rfl dX12_canSee_14 rfl ?_
    refine rv_iload_n (q := 16) E.x dX12_canSee_15 rfl rfl ?_
    refine rv_icmp_eq (q := 19) (tgt := 32) E.x dX12_canSee_16 (by decide) rfl ?_ ?_
    · refine rv_aload_n (q := 20) E.x dX12_canSee_19 rfl rfl ?_
      refine rv_iload_n (q := 21) E.x dX12_canSee_20 rfl rfl ?_
      refine rv_b1 (fun r2 e1 => ?_)
      refine rR_calli (q := 24) E (c12_reviewersOf E.2.2.1 e1) gX12_reviewersOf hX12_reviewersOf ⟨rfl, rfl⟩ ⟨Nat.le_of_ble_eq_true rfl, Nat.le_of_ble_eq_true rfl⟩ rfl rfl rfl (Nat.le_of_ble_eq_true rfl) dX12_canSee_21 rfl ?_
      refine rv_iload_n (q := 25) E.x dX12_canSee_24 rfl rfl ?_
      refine rv_ishr (q := 26) E.x dX12_canSee_25 rfl ?_
      refine rv_iconst (q := 27) E.x dX12_canSee_26 rv_ki1 rfl ?_
      refine rv_iand (q := 28) E.x dX12_canSee_27 rfl ?_
      refine rv_iconst (q := 29) E.x dX12_canSee_28 rv_ki1 rfl ?_
      refine rv_icmp_ne (q := 32) (tgt := 36) E.x dX12_canSee_29 (by decide) rfl ?_ ?_
      · refine rv_wk [true, false, false] ?_
        exact b12_canSee_32 E M
      · refine rv_iconst (q := 37) E.x dX12_canSee_36 rv_ki0 rfl ?_
        exact rR_zret E false rfl dX12_canSee_37
    · refine rv_wk [true, false, false] ?_
      exact b12_canSee_32 E M
  · refine rv_wk [true, false, false] ?_
    exact b12_canSee_32 E M
theorem c12_canSee {l : Launch} {D : va_G} {cI cZ : ClassId} {ad : Nat → Nat} (hI : rR_I ad) {M : rv_Mem} {a1 : Int32} {a2 : Int32} {r : Bool} (h : f12_canSee M a1 a2 = some r) : Met l yX12_canSee (rv_ws yX12_canSee cX12_canSee 3 (some .boolean)) rm12_canSee (rR_Pc D cI cZ ad [.ref (ad 67), .int a1, .int a2] M) (rR_QI D cI cZ ad (rv_i r) M) 0 0 (rR_A ad) := rR_met hI rfl (rv_cat rfl) (Nat.le_of_ble_eq_true rfl) (fun p e s m args below meth c E => ⟨(rR_qZ D cI cZ ad below args s M), rfl, b12_canSee E M a1 a2⟩) h
abbrev rm12_tells : Room := { frames := 3, cells := 0, slots := 0, locals := 66 }
set_option maxRecDepth 100000 in
theorem b12_tells_89 {p : Program} {l : Launch} {e : Env} {s : State} {m : MethodId} {args : Array Value} {below : List Frame} {meth : Method} {c : Code} {D : va_G} {cI cZ : ClassId} {ad : Nat → Nat} (E : rR_E D cI cZ ad cX12_tells 5 none p s m args meth c) (k53 : rv_Mem → Int32 → Int32 → Int32 → Int32 → Option (rv_Mem)) (h53 : ∀ (M : rv_Mem) (x1 : Int32) (x2 : Int32) (x3 : Int32) (x4 : Int32), rv_M (rR_G D cI cZ ad) (rR_A ad) p l e rm12_tells s m args below meth c 0 0 (rR_qV D cI cZ ad below args s) (k53 M x1 x2 x3 x4) 53 [some (.ref (ad 67)), some (.int x1), some (.int x2), some (.int x3), some (.int x4)] [] M) : ∀ (M : rv_Mem) (x1 : Int32) (x2 : Int32) (x3 : Int32) (x4 : Int32) (s1 : Int32) (s2 : Int32) (s3 : Bool), rv_M (rR_G D cI cZ ad) (rR_A ad) p l e rm12_tells s m args below meth c 0 0 (rR_qV D cI cZ ad below args s) (f12_tells_89 k53 M x1 x2 x3 x4 s1 s2 s3) 89 [some (.ref (ad 67)), some (.int x1), some (.int x2), some (.int x3), some (.int x4)] [.int (rv_i s3), .int s2, .int s1, .ref (ad 51)] M := by
  intro M x1 x2 x3 x4 s1 s2 s3
  unfold f12_tells_89
  refine rv_iadd (q := 90) E.x dX12_tells_89 rfl ?_
  refine rR_iast (q := 91) (n := 6) E (Nat.le_of_ble_eq_true rfl) rfl rfl dX12_tells_90 rfl ?_
  refine rv_ltm (fun M1 => ?_)
  refine rv_iinc (q := 94) (lv' := [_, _, _, _, _]) E.x dX12_tells_91 rv_ki1 rfl rfl rfl rfl ?_
  refine rv_goto (q := 53) E.x dX12_tells_94 (by decide) ?_
  refine rv_wk [true, true, true, true, true] ?_
  exact h53 M1 x1 x2 x3 (x4 + 1)
set_option maxRecDepth 100000 in
theorem b12_tells_88 {p : Program} {l : Launch} {e : Env} {s : State} {m : MethodId} {args : Array Value} {below : List Frame} {meth : Method} {c : Code} {D : va_G} {cI cZ : ClassId} {ad : Nat → Nat} (E : rR_E D cI cZ ad cX12_tells 5 none p s m args meth c) (k53 : rv_Mem → Int32 → Int32 → Int32 → Int32 → Option (rv_Mem)) (h53 : ∀ (M : rv_Mem) (x1 : Int32) (x2 : Int32) (x3 : Int32) (x4 : Int32), rv_M (rR_G D cI cZ ad) (rR_A ad) p l e rm12_tells s m args below meth c 0 0 (rR_qV D cI cZ ad below args s) (k53 M x1 x2 x3 x4) 53 [some (.ref (ad 67)), some (.int x1), some (.int x2), some (.int x3), some (.int x4)] [] M) : ∀ (M : rv_Mem) (x1 : Int32) (x2 : Int32) (x3 : Int32) (x4 : Int32) (s1 : Int32) (s2 : Int32), rv_M (rR_G D cI cZ ad) (rR_A ad) p l e rm12_tells s m args below meth c 0 0 (rR_qV D cI cZ ad below args s) (f12_tells_88 k53 M x1 x2 x3 x4 s1 s2) 88 [some (.ref (ad 67)), some (.int x1), some (.int x2), some (.int x3), some (.int x4)] [.int s2, .int s1, .ref (ad 51)] M := by
  intro M x1 x2 x3 x4 s1 s2
  unfold f12_tells_88
  refine rv_iconst (q := 89) E.x dX12_tells_88 rv_ki0 rfl ?_
  refine rv_wk [true, true, true, true, true] ?_
  exact b12_tells_89 E k53 h53 M x1 x2 x3 x4 s1 s2 false
set_option maxRecDepth 100000 in
theorem b12_tells_53_s {p : Program} {l : Launch} {e : Env} {s : State} {m : MethodId} {args : Array Value} {below : List Frame} {meth : Method} {c : Code} {D : va_G} {cI cZ : ClassId} {ad : Nat → Nat} (E : rR_E D cI cZ ad cX12_tells 5 none p s m args meth c)   (k53 : rv_Mem → Int32 → Int32 → Int32 → Int32 → Option (rv_Mem)) (h53 : ∀ (M : rv_Mem) (x1 : Int32) (x2 : Int32) (x3 : Int32) (x4 : Int32), rv_M (rR_G D cI cZ ad) (rR_A ad) p l e rm12_tells s m args below meth c 0 0 (rR_qV D cI cZ ad below args s) (k53 M x1 x2 x3 x4) 53 [some (.ref (ad 67)), some (.int x1), some (.int x2), some (.int x3), some (.int x4)] [] M) : ∀ (M : rv_Mem) (x1 : Int32) (x2 : Int32) (x3 : Int32) (x4 : Int32), rv_M (rR_G D cI cZ ad) (rR_A ad) p l e rm12_tells s m args below meth c 0 0 (rR_qV D cI cZ ad below args s) (f12_tells_53_s k53 M x1 x2 x3 x4) 53 [some (.ref (ad 67)), some (.int x1), some (.int x2), some (.int x3), some (.int x4)] [] M := by
  intro M x1 x2 x3 x4
  unfold f12_tells_53_s
  refine rv_iload (q := 55) E.x dX12_tells_53 rfl rfl ?_
  refine rv_bipush (q := 57) E.x dX12_tells_55 rv_kb6 rfl ?_
  refine rv_icmp_ge (q := 60) (tgt := 97) E.x dX12_tells_57 (by decide) rfl ?_ ?_
  · refine rv_aload_n (q := 61) E.x dX12_tells_60 rfl rfl ?_
    refine rR_get (q := 64) E 51 wf12_51 rfl (Nat.le_of_ble_eq_true rfl) rfl dX12_tells_61 rfl ?_
    refine rv_iload (q := 66) E.x dX12_tells_64 rfl rfl ?_
    refine rv_dup2 (q := 67) E.x dX12_tells_66 rfl rfl rfl ?_
    refine rR_iald (q := 68) (n := 6) E (Nat.le_of_ble_eq_true rfl) rfl rfl dX12_tells_67 rfl ?_
    refine rv_iload (q := 70) E.x dX12_tells_68 rfl rfl ?_
    refine rv_iload_n (q := 71) E.x dX12_tells_70 rfl rfl ?_
    refine rv_icmp_eq (q := 74) (tgt := 88) E.x dX12_tells_71 (by decide) rfl ?_ ?_
    · refine rv_iload_n (q := 75) E.x dX12_tells_74 rfl rfl ?_
      refine rv_iload (q := 77) E.x dX12_tells_75 rfl rfl ?_
      refine rv_ishr (q := 78) E.x dX12_tells_77 rfl ?_
      refine rv_iconst (q := 79) E.x dX12_tells_78 rv_ki1 rfl ?_
      refine rv_iand (q := 80) E.x dX12_tells_79 rfl ?_
      refine rv_iconst (q := 81) E.x dX12_tells_80 rv_ki1 rfl ?_
      refine rv_icmp_ne (q := 84) (tgt := 88) E.x dX12_tells_81 (by decide) rfl ?_ ?_
      · refine rv_iconst (q := 85) E.x dX12_tells_84 rv_ki1 rfl ?_
        refine rv_goto (q := 89) E.x dX12_tells_85 (by decide) ?_
        refine rv_wk [true, true, true, true, true] ?_
        exact b12_tells_89 E k53 h53 M x1 x2 x3 x4 x4 (M 51 (x4).toNatClampNeg) true
      · refine rv_wk [true, true, true, true, true] ?_
        exact b12_tells_88 E k53 h53 M x1 x2 x3 x4 x4 (M 51 (x4).toNatClampNeg)
    · refine rv_wk [true, true, true, true, true] ?_
      exact b12_tells_88 E k53 h53 M x1 x2 x3 x4 x4 (M 51 (x4).toNatClampNeg)
  · refine rv_aload_n (q := 98) E.x dX12_tells_97 rfl rfl ?_
    refine rR_get (q := 101) E 21 wf12_21 rfl (Nat.le_of_ble_eq_true rfl) rfl dX12_tells_98 rfl ?_
    refine rv_iload_n (q := 102) E.x dX12_tells_101 rfl rfl ?_
    refine rv_aload_n (q := 103) E.x dX12_tells_102 rfl rfl ?_
    refine rR_get (q := 106) E 52 wf12_52 rfl (Nat.le_of_ble_eq_true rfl) rfl dX12_tells_103 rfl ?_
    refine rR_iast (q := 107) (n := 20) E (Nat.le_of_ble_eq_true rfl) rfl rfl dX12_tells_106 rfl ?_
    refine rv_ltm (fun M1 => ?_)
    exact rR_vret E rfl dX12_tells_107
theorem b12_tells_53 {p : Program} {l : Launch} {e : Env} {s : State} {m : MethodId} {args : Array Value} {below : List Frame} {meth : Method} {c : Code} {D : va_G} {cI cZ : ClassId} {ad : Nat → Nat} (E : rR_E D cI cZ ad cX12_tells 5 none p s m args meth c)   : ∀ (n : Nat), ∀ (M : rv_Mem) (x1 : Int32) (x2 : Int32) (x3 : Int32) (x4 : Int32), rv_M (rR_G D cI cZ ad) (rR_A ad) p l e rm12_tells s m args below meth c 0 0 (rR_qV D cI cZ ad below args s) (f12_tells_53 n M x1 x2 x3 x4) 53 [some (.ref (ad 67)), some (.int x1), some (.int x2), some (.int x3), some (.int x4)] [] M := by
  intro n
  induction n with
  | zero => exact fun _ _ _ _ _ => rv_stuck
  | succ n ih => exact b12_tells_53_s E  (f12_tells_53 n) ih
set_option maxRecDepth 100000 in
theorem b12_tells_48 {p : Program} {l : Launch} {e : Env} {s : State} {m : MethodId} {args : Array Value} {below : List Frame} {meth : Method} {c : Code} {D : va_G} {cI cZ : ClassId} {ad : Nat → Nat} (E : rR_E D cI cZ ad cX12_tells 5 none p s m args meth c)   : ∀ (M : rv_Mem) (x1 : Int32) (x2 : Int32) (s0 : Int32) (s1 : Int32), rv_M (rR_G D cI cZ ad) (rR_A ad) p l e rm12_tells s m args below meth c 0 0 (rR_qV D cI cZ ad below args s) (f12_tells_48 M x1 x2 s0 s1) 48 [some (.ref (ad 67)), some (.int x1), some (.int x2), none, none] [.int s1, .int s0] M := by
  intro M x1 x2 s0 s1
  unfold f12_tells_48
  refine rv_ior (q := 49) E.x dX12_tells_48 rfl ?_
  refine rv_istore_n (q := 50) (lv' := [_, _, _, _, _]) E.x dX12_tells_49 (Nat.le_of_ble_eq_true rfl) rfl rfl rfl ?_
  refine rv_iconst (q := 51) E.x dX12_tells_50 rv_ki0 rfl ?_
  refine rv_istore (q := 53) (lv' := [_, _, _, _, _]) E.x dX12_tells_51 (Nat.le_of_ble_eq_true rfl) rfl rfl rfl ?_
  refine rv_wk [true, true, true, true, true] ?_
  exact b12_tells_53 E rv_FU M x1 x2 (s0 ||| s1) 0
set_option maxRecDepth 100000 in
theorem b12_tells_34 {p : Program} {l : Launch} {e : Env} {s : State} {m : MethodId} {args : Array Value} {below : List Frame} {meth : Method} {c : Code} {D : va_G} {cI cZ : ClassId} {ad : Nat → Nat} (E : rR_E D cI cZ ad cX12_tells 5 none p s m args meth c)   : ∀ (M : rv_Mem) (x1 : Int32) (x2 : Int32) (s0 : Int32), rv_M (rR_G D cI cZ ad) (rR_A ad) p l e rm12_tells s m args below meth c 0 0 (rR_qV D cI cZ ad below args s) (f12_tells_34 M x1 x2 s0) 34 [some (.ref (ad 67)), some (.int x1), some (.int x2), none, none] [.int s0] M := by
  intro M x1 x2 s0
  unfold f12_tells_34
  refine rv_iconst (q := 35) E.x dX12_tells_34 rv_ki0 rfl ?_
  refine rv_goto (q := 48) E.x dX12_tells_35 (by decide) ?_
  refine rv_wk [true, true, true, false, false] ?_
  exact b12_tells_48 E M x1 x2 s0 0
set_option maxRecDepth 100000 in
theorem b12_tells {p : Program} {l : Launch} {e : Env} {s : State} {m : MethodId} {args : Array Value} {below : List Frame} {meth : Method} {c : Code} {D : va_G} {cI cZ : ClassId} {ad : Nat → Nat} (E : rR_E D cI cZ ad cX12_tells 5 none p s m args meth c) (M : rv_Mem) (a1 : Int32) (a2 : Int32) : rv_M (rR_G D cI cZ ad) (rR_A ad) p l e rm12_tells s m args below meth c 0 0  (rR_qV D cI cZ ad below args s) (f12_tells M a1 a2) 0 [some (.ref (ad 67)), some (.int a1), some (.int a2), none, none] [] M := by
  unfold f12_tells
  refine rv_aload_n (q := 1) E.x dX12_tells_0 rfl rfl ?_
  refine rv_iload_n (q := 2) E.x dX12_tells_1 rfl rfl ?_
  refine rv_b1 (fun r2 e1 => ?_)
  refine rR_calli (q := 5) E (c12_reviewersOf E.2.2.1 e1) gX12_reviewersOf hX12_reviewersOf ⟨rfl, rfl⟩ ⟨Nat.le_of_ble_eq_true rfl, Nat.le_of_ble_eq_true rfl⟩ rfl rfl rfl (Nat.le_of_ble_eq_true rfl) dX12_tells_2 rfl ?_
  refine rv_iconst (q := 6) E.x dX12_tells_5 rv_ki1 rfl ?_
  refine rv_aload_n (q := 7) E.x dX12_tells_6 rfl rfl ?_
  refine rR_get (q := 10) E 12 wf12_12 rfl (Nat.le_of_ble_eq_true rfl) rfl dX12_tells_7 rfl ?_
  refine rv_iload_n (q := 11) E.x dX12_tells_10 rfl rfl ?_
  refine rR_iald (q := 12) (n := 20) E (Nat.le_of_ble_eq_true rfl) rfl rfl dX12_tells_11 rfl ?_
  refine rv_ishl (q := 13) E.x dX12_tells_12 rfl ?_
  refine rv_ior (q := 14) E.x dX12_tells_13 rfl ?_
  refine rv_istore_n (q := 15) (lv' := [_, _, _, _, _]) E.x dX12_tells_14 (Nat.le_of_ble_eq_true rfl) rfl rfl rfl ?_
  refine rv_iload_n (q := 16) E.x dX12_tells_15 rfl rfl ?_
  refine rv_aload_n (q := 17) E.x dX12_tells_16 rfl rfl ?_
  refine rR_get (q := 20) E 16 wf12_16 rfl (Nat.le_of_ble_eq_true rfl) rfl dX12_tells_17 rfl ?_
  refine rv_iload_n (q := 21) E.x dX12_tells_20 rfl rfl ?_
  refine rR_zald (q := 22) (n := 20) E (Nat.le_of_ble_eq_true rfl) rfl rfl dX12_tells_21 rfl ?_
  refine rv_ifz_ne (q := 25) (tgt := 34) E.x dX12_tells_22 (by decide) rfl ?_ ?_
  · refine rv_aload_n (q := 26) E.x dX12_tells_25 rfl rfl ?_
    refine rR_get (q := 29) E 15 wf12_15 rfl (Nat.le_of_ble_eq_true rfl) rfl dX12_tells_26 rfl ?_
    refine rv_iload_n (q := 30) E.x dX12_tells_29 rfl rfl ?_
    refine rR_zald (q := 31) (n := 20) E (Nat.le_of_ble_eq_true rfl) rfl rfl dX12_tells_30 rfl ?_
    refine rv_ifz_eq (q := 34) (tgt := 38) E.x dX12_tells_31 (by decide) rfl ?_ ?_
    · refine rv_wk [true, true, true, false, false] ?_
      exact b12_tells_34 E M a1 a2 (r2 ||| (1 <<< ((M 12 (a1).toNatClampNeg) &&& 31)))
    · refine rv_aload_n (q := 39) E.x dX12_tells_38 rfl rfl ?_
      refine rR_get (q := 42) E 50 wf12_50 rfl (Nat.le_of_ble_eq_true rfl) rfl dX12_tells_39 rfl ?_
      refine rv_aload_n (q := 43) E.x dX12_tells_42 rfl rfl ?_
      refine rv_iload_n (q := 44) E.x dX12_tells_43 rfl rfl ?_
      refine rv_b1 (fun r4 e3 => ?_)
      refine rR_calli (q := 47) E (c12_repoOf E.2.2.1 e3) gX12_repoOf hX12_repoOf ⟨rfl, rfl⟩ ⟨Nat.le_of_ble_eq_true rfl, Nat.le_of_ble_eq_true rfl⟩ rfl rfl rfl (Nat.le_of_ble_eq_true rfl) dX12_tells_44 rfl ?_
      refine rR_iald (q := 48) (n := 2) E (Nat.le_of_ble_eq_true rfl) rfl rfl dX12_tells_47 rfl ?_
      refine rv_wk [true, true, true, false, false] ?_
      exact b12_tells_48 E M a1 a2 (r2 ||| (1 <<< ((M 12 (a1).toNatClampNeg) &&& 31))) (M 50 (r4).toNatClampNeg)
  · refine rv_wk [true, true, true, false, false] ?_
    exact b12_tells_34 E M a1 a2 (r2 ||| (1 <<< ((M 12 (a1).toNatClampNeg) &&& 31)))
theorem c12_tells {l : Launch} {D : va_G} {cI cZ : ClassId} {ad : Nat → Nat} (hI : rR_I ad) {M : rv_Mem} {a1 : Int32} {a2 : Int32} {M1 : rv_Mem} (h : f12_tells M a1 a2 = some M1) : Met l yX12_tells (rv_ws yX12_tells cX12_tells 5 none) rm12_tells (rR_Pc D cI cZ ad [.ref (ad 67), .int a1, .int a2] M) (rR_QV D cI cZ ad M1) 0 0 (rR_A ad) := rR_met hI rfl (rv_cat rfl) (Nat.le_of_ble_eq_true rfl) (fun p e s m args below meth c E => ⟨(rR_qV D cI cZ ad below args s), rfl, b12_tells E M a1 a2⟩) h
abbrev rm12_givesTurns : Room := { frames := 0, cells := 0, slots := 0, locals := 0 }
set_option maxRecDepth 100000 in
theorem b12_givesTurns_30 {p : Program} {l : Launch} {e : Env} {s : State} {m : MethodId} {args : Array Value} {below : List Frame} {meth : Method} {c : Code} {D : va_G} {cI cZ : ClassId} {ad : Nat → Nat} (E : rR_E D cI cZ ad cX12_givesTurns 3 none p s m args meth c)   : ∀ (M : rv_Mem) (s1 : Int32) (s2 : Int32) (s3 : Int32), rv_M (rR_G D cI cZ ad) (rR_A ad) p l e rm12_givesTurns s m args below meth c 0 0 (rR_qV D cI cZ ad below args s) (f12_givesTurns_30 M s1 s2 s3) 30 [some (.ref (ad 67)), none, none] [.int s3, .int s2, .int s1, .ref (ad 20)] M := by
  intro M s1 s2 s3
  unfold f12_givesTurns_30
  refine rv_ior (q := 31) E.x dX12_givesTurns_30 rfl ?_
  refine rR_iast (q := 32) (n := 20) E (Nat.le_of_ble_eq_true rfl) rfl rfl dX12_givesTurns_31 rfl ?_
  refine rv_ltm (fun M1 => ?_)
  exact rR_vret E rfl dX12_givesTurns_32
set_option maxRecDepth 100000 in
theorem b12_givesTurns_29 {p : Program} {l : Launch} {e : Env} {s : State} {m : MethodId} {args : Array Value} {below : List Frame} {meth : Method} {c : Code} {D : va_G} {cI cZ : ClassId} {ad : Nat → Nat} (E : rR_E D cI cZ ad cX12_givesTurns 3 none p s m args meth c)   : ∀ (M : rv_Mem) (s1 : Int32) (s2 : Int32), rv_M (rR_G D cI cZ ad) (rR_A ad) p l e rm12_givesTurns s m args below meth c 0 0 (rR_qV D cI cZ ad below args s) (f12_givesTurns_29 M s1 s2) 29 [some (.ref (ad 67)), none, none] [.int s2, .int s1, .ref (ad 20)] M := by
  intro M s1 s2
  unfold f12_givesTurns_29
  refine rv_iconst (q := 30) E.x dX12_givesTurns_29 rv_ki0 rfl ?_
  refine rv_wk [true, false, false] ?_
  exact b12_givesTurns_30 E M s1 s2 0
set_option maxRecDepth 100000 in
theorem b12_givesTurns {p : Program} {l : Launch} {e : Env} {s : State} {m : MethodId} {args : Array Value} {below : List Frame} {meth : Method} {c : Code} {D : va_G} {cI cZ : ClassId} {ad : Nat → Nat} (E : rR_E D cI cZ ad cX12_givesTurns 3 none p s m args meth c) (M : rv_Mem) (a1 : Int32) (a2 : Int32) : rv_M (rR_G D cI cZ ad) (rR_A ad) p l e rm12_givesTurns s m args below meth c 0 0  (rR_qV D cI cZ ad below args s) (f12_givesTurns M a1 a2) 0 [some (.ref (ad 67)), some (.int a1), some (.int a2)] [] M := by
  unfold f12_givesTurns
  refine rv_aload_n (q := 1) E.x dX12_givesTurns_0 rfl rfl ?_
  refine rR_get (q := 4) E 20 wf12_20 rfl (Nat.le_of_ble_eq_true rfl) rfl dX12_givesTurns_1 rfl ?_
  refine rv_iload_n (q := 5) E.x dX12_givesTurns_4 rfl rfl ?_
  refine rv_dup2 (q := 6) E.x dX12_givesTurns_5 rfl rfl rfl ?_
  refine rR_iald (q := 7) (n := 20) E (Nat.le_of_ble_eq_true rfl) rfl rfl dX12_givesTurns_6 rfl ?_
  refine rv_aload_n (q := 8) E.x dX12_givesTurns_7 rfl rfl ?_
  refine rR_get (q := 11) E 13 wf12_13 rfl (Nat.le_of_ble_eq_true rfl) rfl dX12_givesTurns_8 rfl ?_
  refine rv_iload_n (q := 12) E.x dX12_givesTurns_11 rfl rfl ?_
  refine rR_iald (q := 13) (n := 20) E (Nat.le_of_ble_eq_true rfl) rfl rfl dX12_givesTurns_12 rfl ?_
  refine rv_if_ne (q := 16) (tgt := 29) E.x dX12_givesTurns_13 (by decide) rfl ?_ ?_
  · refine rv_aload_n (q := 17) E.x dX12_givesTurns_16 rfl rfl ?_
    refine rR_get (q := 20) E 15 wf12_15 rfl (Nat.le_of_ble_eq_true rfl) rfl dX12_givesTurns_17 rfl ?_
    refine rv_iload_n (q := 21) E.x dX12_givesTurns_20 rfl rfl ?_
    refine rR_zald (q := 22) (n := 20) E (Nat.le_of_ble_eq_true rfl) rfl rfl dX12_givesTurns_21 rfl ?_
    refine rv_ifz_ne (q := 25) (tgt := 29) E.x dX12_givesTurns_22 (by decide) rfl ?_ ?_
    · refine rv_iload_n (q := 26) E.x dX12_givesTurns_25 rfl rfl ?_
      refine rv_goto (q := 30) E.x dX12_givesTurns_26 (by decide) ?_
      refine rv_wk [true, false, false] ?_
      exact b12_givesTurns_30 E M a1 (M 20 (a1).toNatClampNeg) a2
    · refine rv_wk [true, false, false] ?_
      exact b12_givesTurns_29 E M a1 (M 20 (a1).toNatClampNeg)
  · refine rv_wk [true, false, false] ?_
    exact b12_givesTurns_29 E M a1 (M 20 (a1).toNatClampNeg)
theorem c12_givesTurns {l : Launch} {D : va_G} {cI cZ : ClassId} {ad : Nat → Nat} (hI : rR_I ad) {M : rv_Mem} {a1 : Int32} {a2 : Int32} {M1 : rv_Mem} (h : f12_givesTurns M a1 a2 = some M1) : Met l yX12_givesTurns (rv_ws yX12_givesTurns cX12_givesTurns 3 none) rm12_givesTurns (rR_Pc D cI cZ ad [.ref (ad 67), .int a1, .int a2] M) (rR_QV D cI cZ ad M1) 0 0 (rR_A ad) := rR_met hI rfl (rv_cat rfl) (Nat.le_of_ble_eq_true rfl) (fun p e s m args below meth c E => ⟨(rR_qV D cI cZ ad below args s), rfl, b12_givesTurns E M a1 a2⟩) h
abbrev rm12_areAllAlike : Room := { frames := 4, cells := 0, slots := 0, locals := 111 }
set_option maxRecDepth 100000 in
theorem b12_areAllAlike_98 {p : Program} {l : Launch} {e : Env} {s : State} {m : MethodId} {args : Array Value} {below : List Frame} {meth : Method} {c : Code} {D : va_G} {cI cZ : ClassId} {ad : Nat → Nat} (E : rR_E D cI cZ ad cX12_areAllAlike 8 (some .boolean) p s m args meth c) (k6 : rv_Mem → Int32 → Int32 → Int32 → Int32 → Bool → Int32 → Option (Bool × rv_Mem)) (h6 : ∀ (M : rv_Mem) (x1 : Int32) (x2 : Int32) (x3 : Int32) (x4 : Int32) (x5 : Bool) (x6 : Int32), rv_M (rR_G D cI cZ ad) (rR_A ad) p l e rm12_areAllAlike s m args below meth c 0 0 (rR_qZW D cI cZ ad below args s) (k6 M x1 x2 x3 x4 x5 x6) 6 [some (.ref (ad 67)), some (.int x1), some (.int x2), some (.int x3), some (.int x4), some (.int (rv_i x5)), some (.int x6), none] [] M) : ∀ (M : rv_Mem) (x1 : Int32) (x2 : Int32) (x3 : Int32) (x4 : Int32) (x5 : Bool) (x6 : Int32), rv_M (rR_G D cI cZ ad) (rR_A ad) p l e rm12_areAllAlike s m args below meth c 0 0 (rR_qZW D cI cZ ad below args s) (f12_areAllAlike_98 k6 M x1 x2 x3 x4 x5 x6) 98 [some (.ref (ad 67)), some (.int x1), some (.int x2), some (.int x3), some (.int x4), some (.int (rv_i x5)), some (.int x6), none] [] M := by
  intro M x1 x2 x3 x4 x5 x6
  unfold f12_areAllAlike_98
  refine rv_iinc (q := 101) (lv' := [_, _, _, _, _, _, _, _]) E.x dX12_areAllAlike_98 rv_ki1 rfl rfl rfl rfl ?_
  refine rv_goto (q := 6) E.x dX12_areAllAlike_101 (by decide) ?_
  refine rv_wk [true, true, true, true, true, true, true, false] ?_
  exact h6 M x1 x2 x3 x4 x5 (x6 + 1)
set_option maxRecDepth 100000 in
theorem b12_areAllAlike_61_s {p : Program} {l : Launch} {e : Env} {s : State} {m : MethodId} {args : Array Value} {below : List Frame} {meth : Method} {c : Code} {D : va_G} {cI cZ : ClassId} {ad : Nat → Nat} (E : rR_E D cI cZ ad cX12_areAllAlike 8 (some .boolean) p s m args meth c) (k6 : rv_Mem → Int32 → Int32 → Int32 → Int32 → Bool → Int32 → Option (Bool × rv_Mem)) (h6 : ∀ (M : rv_Mem) (x1 : Int32) (x2 : Int32) (x3 : Int32) (x4 : Int32) (x5 : Bool) (x6 : Int32), rv_M (rR_G D cI cZ ad) (rR_A ad) p l e rm12_areAllAlike s m args below meth c 0 0 (rR_qZW D cI cZ ad below args s) (k6 M x1 x2 x3 x4 x5 x6) 6 [some (.ref (ad 67)), some (.int x1), some (.int x2), some (.int x3), some (.int x4), some (.int (rv_i x5)), some (.int x6), none] [] M) (k61 : rv_Mem → Int32 → Int32 → Int32 → Int32 → Bool → Int32 → Int32 → Option (Bool × rv_Mem)) (h61 : ∀ (M : rv_Mem) (x1 : Int32) (x2 : Int32) (x3 : Int32) (x4 : Int32) (x5 : Bool) (x6 : Int32) (x7 : Int32), rv_M (rR_G D cI cZ ad) (rR_A ad) p l e rm12_areAllAlike s m args below meth c 0 0 (rR_qZW D cI cZ ad below args s) (k61 M x1 x2 x3 x4 x5 x6 x7) 61 [some (.ref (ad 67)), some (.int x1), some (.int x2), some (.int x3), some (.int x4), some (.int (rv_i x5)), some (.int x6), some (.int x7)] [] M) : ∀ (M : rv_Mem) (x1 : Int32) (x2 : Int32) (x3 : Int32) (x4 : Int32) (x5 : Bool) (x6 : Int32) (x7 : Int32), rv_M (rR_G D cI cZ ad) (rR_A ad) p l e rm12_areAllAlike s m args below meth c 0 0 (rR_qZW D cI cZ ad below args s) (f12_areAllAlike_61_s k6 k61 M x1 x2 x3 x4 x5 x6 x7) 61 [some (.ref (ad 67)), some (.int x1), some (.int x2), some (.int x3), some (.int x4), some (.int (rv_i x5)), some (.int x6), some (.int x7)] [] M := by
  intro M x1 x2 x3 x4 x5 x6 x7
  unfold f12_areAllAlike_61_s
  refine rv_iload (q := 63) E.x dX12_areAllAlike_61 rfl rfl ?_
  refine rv_aload_n (q := 64) E.x dX12_areAllAlike_63 rfl rfl ?_
  refine rR_get (q := 67) E 61 wf12_61 rfl (Nat.le_of_ble_eq_true rfl) rfl dX12_areAllAlike_64 rfl ?_
  refine rv_iconst (q := 68) E.x dX12_areAllAlike_67 rv_ki0 rfl ?_
  refine rR_iald (q := 69) (n := 4) E (Nat.le_of_ble_eq_true rfl) rfl rfl dX12_areAllAlike_68 rfl ?_
  refine rv_icmp_ge (q := 72) (tgt := 98) E.x dX12_areAllAlike_69 (by decide) rfl ?_ ?_
  · refine rv_iload (q := 74) E.x dX12_areAllAlike_72 rfl rfl ?_
    refine rv_ifz_eq (q := 77) (tgt := 98) E.x dX12_areAllAlike_74 (by decide) rfl ?_ ?_
    · refine rv_aload_n (q := 78) E.x dX12_areAllAlike_77 rfl rfl ?_
      refine rv_iload (q := 80) E.x dX12_areAllAlike_78 rfl rfl ?_
      refine rv_bipush (q := 82) E.x dX12_areAllAlike_80 rv_kb15 rfl ?_
      refine rv_iload (q := 84) E.x dX12_areAllAlike_82 rfl rfl ?_
      refine rv_iadd (q := 85) E.x dX12_areAllAlike_84 rfl ?_
      refine rv_iload (q := 87) E.x dX12_areAllAlike_85 rfl rfl ?_
      refine rv_b1 (fun r2 e1 => ?_)
      refine rR_calli (q := 90) E (c12_areAlike E.2.2.1 e1) gX12_areAlike hX12_areAlike ⟨rfl, rfl⟩ ⟨Nat.le_of_ble_eq_true rfl, Nat.le_of_ble_eq_true rfl⟩ rfl rfl rfl (Nat.le_of_ble_eq_true rfl) dX12_areAllAlike_87 rfl ?_
      refine rv_istore (q := 92) (lv' := [_, _, _, _, _, _, _, _]) E.x dX12_areAllAlike_90 (Nat.le_of_ble_eq_true rfl) rfl rfl rfl ?_
      refine rv_iinc (q := 95) (lv' := [_, _, _, _, _, _, _, _]) E.x dX12_areAllAlike_92 rv_ki1 rfl rfl rfl rfl ?_
      refine rv_goto (q := 61) E.x dX12_areAllAlike_95 (by decide) ?_
      refine rv_wk [true, true, true, true, true, true, true, true] ?_
      exact h61 M x1 x2 x3 x4 r2 x6 (x7 + 1)
    · refine rv_wk [true, true, true, true, true, true, true, false] ?_
      exact b12_areAllAlike_98 E k6 h6 M x1 x2 x3 x4 x5 x6
  · refine rv_wk [true, true, true, true, true, true, true, false] ?_
    exact b12_areAllAlike_98 E k6 h6 M x1 x2 x3 x4 x5 x6
theorem b12_areAllAlike_61 {p : Program} {l : Launch} {e : Env} {s : State} {m : MethodId} {args : Array Value} {below : List Frame} {meth : Method} {c : Code} {D : va_G} {cI cZ : ClassId} {ad : Nat → Nat} (E : rR_E D cI cZ ad cX12_areAllAlike 8 (some .boolean) p s m args meth c) (k6 : rv_Mem → Int32 → Int32 → Int32 → Int32 → Bool → Int32 → Option (Bool × rv_Mem)) (h6 : ∀ (M : rv_Mem) (x1 : Int32) (x2 : Int32) (x3 : Int32) (x4 : Int32) (x5 : Bool) (x6 : Int32), rv_M (rR_G D cI cZ ad) (rR_A ad) p l e rm12_areAllAlike s m args below meth c 0 0 (rR_qZW D cI cZ ad below args s) (k6 M x1 x2 x3 x4 x5 x6) 6 [some (.ref (ad 67)), some (.int x1), some (.int x2), some (.int x3), some (.int x4), some (.int (rv_i x5)), some (.int x6), none] [] M) : ∀ (n : Nat), ∀ (M : rv_Mem) (x1 : Int32) (x2 : Int32) (x3 : Int32) (x4 : Int32) (x5 : Bool) (x6 : Int32) (x7 : Int32), rv_M (rR_G D cI cZ ad) (rR_A ad) p l e rm12_areAllAlike s m args below meth c 0 0 (rR_qZW D cI cZ ad below args s) (f12_areAllAlike_61 k6 n M x1 x2 x3 x4 x5 x6 x7) 61 [some (.ref (ad 67)), some (.int x1), some (.int x2), some (.int x3), some (.int x4), some (.int (rv_i x5)), some (.int x6), some (.int x7)] [] M := by
  intro n
  induction n with
  | zero => exact fun _ _ _ _ _ _ _ _ => rv_stuck
  | succ n ih => exact b12_areAllAlike_61_s E k6 h6 (f12_areAllAlike_61 k6 n) ih
set_option maxRecDepth 100000 in
theorem b12_areAllAlike_56 {p : Program} {l : Launch} {e : Env} {s : State} {m : MethodId} {args : Array Value} {below : List Frame} {meth : Method} {c : Code} {D : va_G} {cI cZ : ClassId} {ad : Nat → Nat} (E : rR_E D cI cZ ad cX12_areAllAlike 8 (some .boolean) p s m args meth c) (k6 : rv_Mem → Int32 → Int32 → Int32 → Int32 → Bool → Int32 → Option (Bool × rv_Mem)) (h6 : ∀ (M : rv_Mem) (x1 : Int32) (x2 : Int32) (x3 : Int32) (x4 : Int32) (x5 : Bool) (x6 : Int32), rv_M (rR_G D cI cZ ad) (rR_A ad) p l e rm12_areAllAlike s m args below meth c 0 0 (rR_qZW D cI cZ ad below args s) (k6 M x1 x2 x3 x4 x5 x6) 6 [some (.ref (ad 67)), some (.int x1), some (.int x2), some (.int x3), some (.int x4), some (.int (rv_i x5)), some (.int x6), none] [] M) : ∀ (M : rv_Mem) (x1 : Int32) (x2 : Int32) (x3 : Int32) (x4 : Int32) (x6 : Int32) (s0 : Bool), rv_M (rR_G D cI cZ ad) (rR_A ad) p l e rm12_areAllAlike s m args below meth c 0 0 (rR_qZW D cI cZ ad below args s) (f12_areAllAlike_56 k6 M x1 x2 x3 x4 x6 s0) 56 [some (.ref (ad 67)), some (.int x1), some (.int x2), some (.int x3), some (.int x4), none, some (.int x6), none] [.int (rv_i s0)] M := by
  intro M x1 x2 x3 x4 x6 s0
  unfold f12_areAllAlike_56
  refine rv_istore (q := 58) (lv' := [_, _, _, _, _, _, _, _]) E.x dX12_areAllAlike_56 (Nat.le_of_ble_eq_true rfl) rfl rfl rfl ?_
  refine rv_iconst (q := 59) E.x dX12_areAllAlike_58 rv_ki0 rfl ?_
  refine rv_istore (q := 61) (lv' := [_, _, _, _, _, _, _, _]) E.x dX12_areAllAlike_59 (Nat.le_of_ble_eq_true rfl) rfl rfl rfl ?_
  refine rv_wk [true, true, true, true, true, true, true, true] ?_
  exact b12_areAllAlike_61 E k6 h6 rv_FU M x1 x2 x3 x4 s0 x6 0
set_option maxRecDepth 100000 in
theorem b12_areAllAlike_6_s {p : Program} {l : Launch} {e : Env} {s : State} {m : MethodId} {args : Array Value} {below : List Frame} {meth : Method} {c : Code} {D : va_G} {cI cZ : ClassId} {ad : Nat → Nat} (E : rR_E D cI cZ ad cX12_areAllAlike 8 (some .boolean) p s m args meth c)   (k6 : rv_Mem → Int32 → Int32 → Int32 → Int32 → Bool → Int32 → Option (Bool × rv_Mem)) (h6 : ∀ (M : rv_Mem) (x1 : Int32) (x2 : Int32) (x3 : Int32) (x4 : Int32) (x5 : Bool) (x6 : Int32), rv_M (rR_G D cI cZ ad) (rR_A ad) p l e rm12_areAllAlike s m args below meth c 0 0 (rR_qZW D cI cZ ad below args s) (k6 M x1 x2 x3 x4 x5 x6) 6 [some (.ref (ad 67)), some (.int x1), some (.int x2), some (.int x3), some (.int x4), some (.int (rv_i x5)), some (.int x6), none] [] M) : ∀ (M : rv_Mem) (x1 : Int32) (x2 : Int32) (x3 : Int32) (x4 : Int32) (x5 : Bool) (x6 : Int32), rv_M (rR_G D cI cZ ad) (rR_A ad) p l e rm12_areAllAlike s m args below meth c 0 0 (rR_qZW D cI cZ ad below args s) (f12_areAllAlike_6_s k6 M x1 x2 x3 x4 x5 x6) 6 [some (.ref (ad 67)), some (.int x1), some (.int x2), some (.int x3), some (.int x4), some (.int (rv_i x5)), some (.int x6), none] [] M := by
  intro M x1 x2 x3 x4 x5 x6
  unfold f12_areAllAlike_6_s
  refine rv_iload (q := 8) E.x dX12_areAllAlike_6 rfl rfl ?_
  refine rv_iconst (q := 9) E.x dX12_areAllAlike_8 rv_ki4 rfl ?_
  refine rv_icmp_ge (q := 12) (tgt := 104) E.x dX12_areAllAlike_9 (by decide) rfl ?_ ?_
  · refine rv_iload (q := 14) E.x dX12_areAllAlike_12 rfl rfl ?_
    refine rv_ifz_eq (q := 17) (tgt := 104) E.x dX12_areAllAlike_14 (by decide) rfl ?_ ?_
    · refine rv_aload_n (q := 18) E.x dX12_areAllAlike_17 rfl rfl ?_
      refine rv_iconst (q := 19) E.x dX12_areAllAlike_18 rv_ki0 rfl ?_
      refine rv_iload_n (q := 20) E.x dX12_areAllAlike_19 rfl rfl ?_
      refine rv_iload_n (q := 21) E.x dX12_areAllAlike_20 rfl rfl ?_
      refine rv_iload (q := 23) E.x dX12_areAllAlike_21 rfl rfl ?_
      refine rv_b1 (fun M2 e1 => ?_)
      refine rR_callv (q := 26) E (c12_laysHunks E.2.2.1 e1) gX12_laysHunks hX12_laysHunks ⟨rfl, rfl⟩ ⟨Nat.le_of_ble_eq_true rfl, Nat.le_of_ble_eq_true rfl⟩ rfl rfl rfl (Nat.le_of_ble_eq_true rfl) dX12_areAllAlike_23 rfl ?_
      refine rv_aload_n (q := 27) E.x dX12_areAllAlike_26 rfl rfl ?_
      refine rv_iconst (q := 28) E.x dX12_areAllAlike_27 rv_ki1 rfl ?_
      refine rv_iload_n (q := 29) E.x dX12_areAllAlike_28 rfl rfl ?_
      refine rv_iload (q := 31) E.x dX12_areAllAlike_29 rfl rfl ?_
      refine rv_iload (q := 33) E.x dX12_areAllAlike_31 rfl rfl ?_
      refine rv_b1 (fun M4 e3 => ?_)
      refine rR_callv (q := 36) E (c12_laysHunks E.2.2.1 e3) gX12_laysHunks hX12_laysHunks ⟨rfl, rfl⟩ ⟨Nat.le_of_ble_eq_true rfl, Nat.le_of_ble_eq_true rfl⟩ rfl rfl rfl (Nat.le_of_ble_eq_true rfl) dX12_areAllAlike_33 rfl ?_
      refine rv_aload_n (q := 37) E.x dX12_areAllAlike_36 rfl rfl ?_
      refine rR_get (q := 40) E 61 wf12_61 rfl (Nat.le_of_ble_eq_true rfl) rfl dX12_areAllAlike_37 rfl ?_
      refine rv_iconst (q := 41) E.x dX12_areAllAlike_40 rv_ki0 rfl ?_
      refine rR_iald (q := 42) (n := 4) E (Nat.le_of_ble_eq_true rfl) rfl rfl dX12_areAllAlike_41 rfl ?_
      refine rv_aload_n (q := 43) E.x dX12_areAllAlike_42 rfl rfl ?_
      refine rR_get (q := 46) E 61 wf12_61 rfl (Nat.le_of_ble_eq_true rfl) rfl dX12_areAllAlike_43 rfl ?_
      refine rv_iconst (q := 47) E.x dX12_areAllAlike_46 rv_ki1 rfl ?_
      refine rR_iald (q := 48) (n := 4) E (Nat.le_of_ble_eq_true rfl) rfl rfl dX12_areAllAlike_47 rfl ?_
      refine rv_icmp_ne (q := 51) (tgt := 55) E.x dX12_areAllAlike_48 (by decide) rfl ?_ ?_
      · refine rv_iconst (q := 52) E.x dX12_areAllAlike_51 rv_ki1 rfl ?_
        refine rv_goto (q := 56) E.x dX12_areAllAlike_52 (by decide) ?_
        refine rv_wk [true, true, true, true, true, false, true, false] ?_
        exact b12_areAllAlike_56 E k6 h6 M4 x1 x2 x3 x4 x6 true
      · refine rv_iconst (q := 56) E.x dX12_areAllAlike_55 rv_ki0 rfl ?_
        refine rv_wk [true, true, true, true, true, false, true, false] ?_
        exact b12_areAllAlike_56 E k6 h6 M4 x1 x2 x3 x4 x6 false
    · refine rv_iload (q := 106) E.x dX12_areAllAlike_104 rfl rfl ?_
      exact rR_zret E x5 rfl dX12_areAllAlike_106
  · refine rv_iload (q := 106) E.x dX12_areAllAlike_104 rfl rfl ?_
    exact rR_zret E x5 rfl dX12_areAllAlike_106
theorem b12_areAllAlike_6 {p : Program} {l : Launch} {e : Env} {s : State} {m : MethodId} {args : Array Value} {below : List Frame} {meth : Method} {c : Code} {D : va_G} {cI cZ : ClassId} {ad : Nat → Nat} (E : rR_E D cI cZ ad cX12_areAllAlike 8 (some .boolean) p s m args meth c)   : ∀ (n : Nat), ∀ (M : rv_Mem) (x1 : Int32) (x2 : Int32) (x3 : Int32) (x4 : Int32) (x5 : Bool) (x6 : Int32), rv_M (rR_G D cI cZ ad) (rR_A ad) p l e rm12_areAllAlike s m args below meth c 0 0 (rR_qZW D cI cZ ad below args s) (f12_areAllAlike_6 n M x1 x2 x3 x4 x5 x6) 6 [some (.ref (ad 67)), some (.int x1), some (.int x2), some (.int x3), some (.int x4), some (.int (rv_i x5)), some (.int x6), none] [] M := by
  intro n
  induction n with
  | zero => exact fun _ _ _ _ _ _ _ => rv_stuck
  | succ n ih => exact b12_areAllAlike_6_s E  (f12_areAllAlike_6 n) ih
set_option maxRecDepth 100000 in
theorem b12_areAllAlike {p : Program} {l : Launch} {e : Env} {s : State} {m : MethodId} {args : Array Value} {below : List Frame} {meth : Method} {c : Code} {D : va_G} {cI cZ : ClassId} {ad : Nat → Nat} (E : rR_E D cI cZ ad cX12_areAllAlike 8 (some .boolean) p s m args meth c) (M : rv_Mem) (a1 : Int32) (a2 : Int32) (a3 : Int32) (a4 : Int32) : rv_M (rR_G D cI cZ ad) (rR_A ad) p l e rm12_areAllAlike s m args below meth c 0 0  (rR_qZW D cI cZ ad below args s) (f12_areAllAlike M a1 a2 a3 a4) 0 [some (.ref (ad 67)), some (.int a1), some (.int a2), some (.int a3), some (.int a4), none, none, none] [] M := by
  unfold f12_areAllAlike
  refine rv_iconst (q := 1) E.x dX12_areAllAlike_0 rv_ki1 rfl ?_
  refine rv_istore (q := 3) (lv' := [_, _, _, _, _, _, _, _]) E.x dX12_areAllAlike_1 (Nat.le_of_ble_eq_true rfl) rfl rfl rfl ?_
  refine rv_iconst (q := 4) E.x dX12_areAllAlike_3 rv_ki0 rfl ?_
  refine rv_istore (q := 6) (lv' := [_, _, _, _, _, _, _, _]) E.x dX12_areAllAlike_4 (Nat.le_of_ble_eq_true rfl) rfl rfl rfl ?_
  refine rv_wk [true, true, true, true, true, true, true, false] ?_
  exact b12_areAllAlike_6 E rv_FU M a1 a2 a3 a4 true 0
theorem c12_areAllAlike {l : Launch} {D : va_G} {cI cZ : ClassId} {ad : Nat → Nat} (hI : rR_I ad) {M : rv_Mem} {a1 : Int32} {a2 : Int32} {a3 : Int32} {a4 : Int32} {r : Bool} {M1 : rv_Mem} (h : f12_areAllAlike M a1 a2 a3 a4 = some (r, M1)) : Met l yX12_areAllAlike (rv_ws yX12_areAllAlike cX12_areAllAlike 8 (some .boolean)) rm12_areAllAlike (rR_Pc D cI cZ ad [.ref (ad 67), .int a1, .int a2, .int a3, .int a4] M) (rR_QI D cI cZ ad (rv_i r) M1) 0 0 (rR_A ad) := rR_met hI rfl (rv_cat rfl) (Nat.le_of_ble_eq_true rfl) (fun p e s m args below meth c E => ⟨(rR_qZW D cI cZ ad below args s), rfl, b12_areAllAlike E M a1 a2 a3 a4⟩) h
abbrev rm12_kindAt : Room := { frames := 5, cells := 0, slots := 0, locals := 138 }
set_option maxRecDepth 100000 in
theorem b12_kindAt_50 {p : Program} {l : Launch} {e : Env} {s : State} {m : MethodId} {args : Array Value} {below : List Frame} {meth : Method} {c : Code} {D : va_G} {cI cZ : ClassId} {ad : Nat → Nat} (E : rR_E D cI cZ ad cX12_kindAt 4 (some .int) p s m args meth c)   : ∀ (M : rv_Mem) (x1 : Int32) (x2 : Int32) (s0 : Bool), rv_M (rR_G D cI cZ ad) (rR_A ad) p l e rm12_kindAt s m args below meth c 0 0 (rR_qIW D cI cZ ad below args s) (f12_kindAt_50 M x1 x2 s0) 50 [some (.ref (ad 67)), some (.int x1), some (.int x2), none] [.int (rv_i s0)] M := by
  intro M x1 x2 s0
  unfold f12_kindAt_50
  refine rv_istore_n (q := 51) (lv' := [_, _, _, _]) E.x dX12_kindAt_50 (Nat.le_of_ble_eq_true rfl) rfl rfl rfl ?_
  refine rv_iload_n (q := 52) E.x dX12_kindAt_51 rfl rfl ?_
  refine rv_ifz_eq (q := 55) (tgt := 70) E.x dX12_kindAt_52 (by decide) rfl ?_ ?_
  · refine rv_aload_n (q := 56) E.x dX12_kindAt_55 rfl rfl ?_
    refine rv_iload_n (q := 57) E.x dX12_kindAt_56 rfl rfl ?_
    refine rv_iload_n (q := 58) E.x dX12_kindAt_57 rfl rfl ?_
    refine rv_b1 (fun r2 e1 => ?_)
    refine rR_calli (q := 61) E (c12_areSameFiles E.2.2.1 e1) gX12_areSameFiles hX12_areSameFiles ⟨rfl, rfl⟩ ⟨Nat.le_of_ble_eq_true rfl, Nat.le_of_ble_eq_true rfl⟩ rfl rfl rfl (Nat.le_of_ble_eq_true rfl) dX12_kindAt_58 rfl ?_
    refine rv_ifz_eq (q := 64) (tgt := 68) E.x dX12_kindAt_61 (by decide) rfl ?_ ?_
    · refine rv_iconst (q := 65) E.x dX12_kindAt_64 rv_ki2 rfl ?_
      refine rv_goto (q := 69) E.x dX12_kindAt_65 (by decide) ?_
      exact rR_iret E rfl dX12_kindAt_69
    · refine rv_iconst (q := 69) E.x dX12_kindAt_68 rv_ki0 rfl ?_
      exact rR_iret E rfl dX12_kindAt_69
  · refine rv_aload_n (q := 71) E.x dX12_kindAt_70 rfl rfl ?_
    refine rv_aload_n (q := 72) E.x dX12_kindAt_71 rfl rfl ?_
    refine rR_get (q := 75) E 2 wf12_2 rfl (Nat.le_of_ble_eq_true rfl) rfl dX12_kindAt_72 rfl ?_
    refine rv_iload_n (q := 76) E.x dX12_kindAt_75 rfl rfl ?_
    refine rR_iald (q := 77) (n := 82) E (Nat.le_of_ble_eq_true rfl) rfl rfl dX12_kindAt_76 rfl ?_
    refine rv_iload_n (q := 78) E.x dX12_kindAt_77 rfl rfl ?_
    refine rv_aload_n (q := 79) E.x dX12_kindAt_78 rfl rfl ?_
    refine rR_get (q := 82) E 2 wf12_2 rfl (Nat.le_of_ble_eq_true rfl) rfl dX12_kindAt_79 rfl ?_
    refine rv_iload_n (q := 83) E.x dX12_kindAt_82 rfl rfl ?_
    refine rR_iald (q := 84) (n := 82) E (Nat.le_of_ble_eq_true rfl) rfl rfl dX12_kindAt_83 rfl ?_
    refine rv_iload_n (q := 85) E.x dX12_kindAt_84 rfl rfl ?_
    refine rv_b2 (fun r4 M5 e3 => ?_)
    refine rR_calli (q := 88) E (c12_areAllAlike E.2.2.1 e3) gX12_areAllAlike hX12_areAllAlike ⟨rfl, rfl⟩ ⟨Nat.le_of_ble_eq_true rfl, Nat.le_of_ble_eq_true rfl⟩ rfl rfl rfl (Nat.le_of_ble_eq_true rfl) dX12_kindAt_85 rfl ?_
    refine rv_ifz_eq (q := 91) (tgt := 95) E.x dX12_kindAt_88 (by decide) rfl ?_ ?_
    · refine rv_iconst (q := 92) E.x dX12_kindAt_91 rv_ki1 rfl ?_
      refine rv_goto (q := 96) E.x dX12_kindAt_92 (by decide) ?_
      exact rR_iret E rfl dX12_kindAt_96
    · refine rv_iconst (q := 96) E.x dX12_kindAt_95 rv_ki0 rfl ?_
      exact rR_iret E rfl dX12_kindAt_96
set_option maxRecDepth 100000 in
theorem b12_kindAt {p : Program} {l : Launch} {e : Env} {s : State} {m : MethodId} {args : Array Value} {below : List Frame} {meth : Method} {c : Code} {D : va_G} {cI cZ : ClassId} {ad : Nat → Nat} (E : rR_E D cI cZ ad cX12_kindAt 4 (some .int) p s m args meth c) (M : rv_Mem) (a1 : Int32) : rv_M (rR_G D cI cZ ad) (rR_A ad) p l e rm12_kindAt s m args below meth c 0 0  (rR_qIW D cI cZ ad below args s) (f12_kindAt M a1) 0 [some (.ref (ad 67)), some (.int a1), none, none] [] M := by
  unfold f12_kindAt
  refine rv_aload_n (q := 1) E.x dX12_kindAt_0 rfl rfl ?_
  refine rR_get (q := 4) E 6 wf12_6 rfl (Nat.le_of_ble_eq_true rfl) rfl dX12_kindAt_1 rfl ?_
  refine rv_iload_n (q := 5) E.x dX12_kindAt_4 rfl rfl ?_
  refine rR_iald (q := 6) (n := 82) E (Nat.le_of_ble_eq_true rfl) rfl rfl dX12_kindAt_5 rfl ?_
  refine rv_if_ne (q := 9) (tgt := 11) E.x dX12_kindAt_6 (by decide) rfl ?_ ?_
  · refine rv_iconst (q := 10) E.x dX12_kindAt_9 rv_ki0 rfl ?_
    exact rR_iret E rfl dX12_kindAt_10
  · refine rv_aload_n (q := 12) E.x dX12_kindAt_11 rfl rfl ?_
    refine rv_aload_n (q := 13) E.x dX12_kindAt_12 rfl rfl ?_
    refine rR_get (q := 16) E 5 wf12_5 rfl (Nat.le_of_ble_eq_true rfl) rfl dX12_kindAt_13 rfl ?_
    refine rv_iload_n (q := 17) E.x dX12_kindAt_16 rfl rfl ?_
    refine rR_iald (q := 18) (n := 82) E (Nat.le_of_ble_eq_true rfl) rfl rfl dX12_kindAt_17 rfl ?_
    refine rv_aload_n (q := 19) E.x dX12_kindAt_18 rfl rfl ?_
    refine rR_get (q := 22) E 6 wf12_6 rfl (Nat.le_of_ble_eq_true rfl) rfl dX12_kindAt_19 rfl ?_
    refine rv_iload_n (q := 23) E.x dX12_kindAt_22 rfl rfl ?_
    refine rR_iald (q := 24) (n := 82) E (Nat.le_of_ble_eq_true rfl) rfl rfl dX12_kindAt_23 rfl ?_
    refine rv_iconst (q := 25) E.x dX12_kindAt_24 rv_ki1 rfl ?_
    refine rv_isub (q := 26) E.x dX12_kindAt_25 rfl ?_
    refine rv_b1 (fun r2 e1 => ?_)
    refine rR_calli (q := 29) E (c12_commitAt E.2.2.1 e1) gX12_commitAt hX12_commitAt ⟨rfl, rfl⟩ ⟨Nat.le_of_ble_eq_true rfl, Nat.le_of_ble_eq_true rfl⟩ rfl rfl rfl (Nat.le_of_ble_eq_true rfl) dX12_kindAt_26 rfl ?_
    refine rv_istore_n (q := 30) (lv' := [_, _, _, _]) E.x dX12_kindAt_29 (Nat.le_of_ble_eq_true rfl) rfl rfl rfl ?_
    refine rv_aload_n (q := 31) E.x dX12_kindAt_30 rfl rfl ?_
    refine rR_get (q := 34) E 2 wf12_2 rfl (Nat.le_of_ble_eq_true rfl) rfl dX12_kindAt_31 rfl ?_
    refine rv_iload_n (q := 35) E.x dX12_kindAt_34 rfl rfl ?_
    refine rR_iald (q := 36) (n := 82) E (Nat.le_of_ble_eq_true rfl) rfl rfl dX12_kindAt_35 rfl ?_
    refine rv_aload_n (q := 37) E.x dX12_kindAt_36 rfl rfl ?_
    refine rR_get (q := 40) E 2 wf12_2 rfl (Nat.le_of_ble_eq_true rfl) rfl dX12_kindAt_37 rfl ?_
    refine rv_iload_n (q := 41) E.x dX12_kindAt_40 rfl rfl ?_
    refine rR_iald (q := 42) (n := 82) E (Nat.le_of_ble_eq_true rfl) rfl rfl dX12_kindAt_41 rfl ?_
    refine rv_icmp_ne (q := 45) (tgt := 49) E.x dX12_kindAt_42 (by decide) rfl ?_ ?_
    · refine rv_iconst (q := 46) E.x dX12_kindAt_45 rv_ki1 rfl ?_
      refine rv_goto (q := 50) E.x dX12_kindAt_46 (by decide) ?_
      refine rv_wk [true, true, true, false] ?_
      exact b12_kindAt_50 E M a1 r2 true
    · refine rv_iconst (q := 50) E.x dX12_kindAt_49 rv_ki0 rfl ?_
      refine rv_wk [true, true, true, false] ?_
      exact b12_kindAt_50 E M a1 r2 false
theorem c12_kindAt {l : Launch} {D : va_G} {cI cZ : ClassId} {ad : Nat → Nat} (hI : rR_I ad) {M : rv_Mem} {a1 : Int32} {r : Int32} {M1 : rv_Mem} (h : f12_kindAt M a1 = some (r, M1)) : Met l yX12_kindAt (rv_ws yX12_kindAt cX12_kindAt 4 (some .int)) rm12_kindAt (rR_Pc D cI cZ ad [.ref (ad 67), .int a1] M) (rR_QI D cI cZ ad r M1) 0 0 (rR_A ad) := rR_met hI rfl (rv_cat rfl) (Nat.le_of_ble_eq_true rfl) (fun p e s m args below meth c E => ⟨(rR_qIW D cI cZ ad below args s), rfl, b12_kindAt E M a1⟩) h
