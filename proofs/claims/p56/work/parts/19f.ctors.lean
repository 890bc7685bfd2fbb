/-! THE CONSTRUCTORS, by program (tools/mk27.py) -/
theorem rK_kbm9 : (Int8.ofInt (-9)).toInt32 = (-9) := by decide
theorem rK_kb6 : (Int8.ofInt 6).toInt32 = 6 := by decide
theorem rK_kb7 : (Int8.ofInt 7).toInt32 = 7 := by decide
theorem rK_kb10 : (Int8.ofInt 10).toInt32 = 10 := by decide
theorem rK_kb11 : (Int8.ofInt 11).toInt32 = 11 := by decide
theorem rK_kb14 : (Int8.ofInt 14).toInt32 = 14 := by decide
theorem rK_kb15 : (Int8.ofInt 15).toInt32 = 15 := by decide
theorem rK_kb16 : (Int8.ofInt 16).toInt32 = 16 := by decide
theorem rK_kb17 : (Int8.ofInt 17).toInt32 = 17 := by decide
theorem rK_kb20 : (Int8.ofInt 20).toInt32 = 20 := by decide
theorem rK_kb24 : (Int8.ofInt 24).toInt32 = 24 := by decide
theorem rK_kb31 : (Int8.ofInt 31).toInt32 = 31 := by decide
theorem rK_kb40 : (Int8.ofInt 40).toInt32 = 40 := by decide
theorem rK_kb48 : (Int8.ofInt 48).toInt32 = 48 := by decide
theorem rK_kb60 : (Int8.ofInt 60).toInt32 = 60 := by decide
theorem rK_kb80 : (Int8.ofInt 80).toInt32 = 80 := by decide
theorem rK_kb81 : (Int8.ofInt 81).toInt32 = 81 := by decide
theorem rK_kb82 : (Int8.ofInt 82).toInt32 = 82 := by decide
theorem rK_kb121 : (Int8.ofInt 121).toInt32 = 121 := by decide
theorem rK_kim1 : Int32.ofInt (-1) = (-1) := by decide
theorem rK_ki0 : Int32.ofInt 0 = 0 := by decide
theorem rK_ki1 : Int32.ofInt 1 = 1 := by decide
theorem rK_ki2 : Int32.ofInt 2 = 2 := by decide
theorem rK_ki3 : Int32.ofInt 3 = 3 := by decide
theorem rK_ki4 : Int32.ofInt 4 = 4 := by decide
theorem rK_ki5 : Int32.ofInt 5 = 5 := by decide
theorem rK_ks328 : (Int16.ofInt 328).toInt32 = 328 := by decide
theorem rK_ks960 : (Int16.ofInt 960).toInt32 = 960 := by decide
theorem rK_ks3280 : (Int16.ofInt 3280).toInt32 = 3280 := by decide
abbrev rmK_Jxa1e45_init_da8c8 : Room := { frames := 1, cells := 0, slots := 0, locals := 24 }
def kf_Jxa1e45_init_da8c8 (b : Nat) : List Value := [.int 0, .null, .int 0]
def kw_Jxa1e45_init_da8c8 (cI cZ cO : ClassId) (b : Nat) : List va_E := []
set_option maxRecDepth 100000 in
set_option maxHeartbeats 4000000 in
theorem kJxa1e45_init_da8c8 {l : Launch} {D : va_G} {cI cZ cO : ClassId} {de b : Nat} : Met l yJxa1e45_init_da8c8 (rv_ws yJxa1e45_init_da8c8 cJxa1e45_init_da8c8 1 none) rmK_Jxa1e45_init_da8c8 (va_Pc [.ref b] (rK_P D cI cZ cO de b 0 ([.int 0, .null, .int 0], []))) (rK_Q D b 0 (kf_Jxa1e45_init_da8c8 b, kw_Jxa1e45_init_da8c8 cI cZ cO b)) 0 0 (fun q => b ≤ q) := by
  refine rK_met (own := RJxa1e45) rfl (by decide) rfl (Nat.le_of_ble_eq_true rfl) (fun p e s m args below meth c E hnm hret hlk => ?_)
  show rv_M _ _ p l e _ s m args below meth c 0 0 _ (some ()) 0 [some (.ref b)] [] (([.int 0, .null, .int 0], []) : rK_mu)
  refine rv_aload_n (q := 1) E.x dJxa1e45_init_da8c8_0 rfl rfl ?_
  refine rK_obj (q := 4) E (rv_al (rv_t1 (List.mem_of_getElem? (i := 230) rfl)) rfl) rfl (Nat.le_of_ble_eq_true rfl) (Nat.le_of_ble_eq_true rfl) dJxa1e45_init_da8c8_1 rfl ?_
  exact rK_ret hret hlk E rfl (Nat.le_of_ble_eq_true rfl) (Nat.le_of_ble_eq_true rfl) dJxa1e45_init_da8c8_4
abbrev rmK_Jxc12de_init_da8c8 : Room := { frames := 2, cells := 0, slots := 0, locals := 44 }
def kf_Jxc12de_init_da8c8 (b : Nat) : List Value := [.int 0, .null, .int 0]
def kw_Jxc12de_init_da8c8 (cI cZ cO : ClassId) (b : Nat) : List va_E := []
set_option maxRecDepth 100000 in
set_option maxHeartbeats 4000000 in
theorem kJxc12de_init_da8c8 {l : Launch} {D : va_G} {cI cZ cO : ClassId} {de b : Nat} : Met l yJxc12de_init_da8c8 (rv_ws yJxc12de_init_da8c8 cJxc12de_init_da8c8 1 none) rmK_Jxc12de_init_da8c8 (va_Pc [.ref b] (rK_P D cI cZ cO de b 0 ([.int 0, .null, .int 0], []))) (rK_Q D b 0 (kf_Jxc12de_init_da8c8 b, kw_Jxc12de_init_da8c8 cI cZ cO b)) 0 0 (fun q => b ≤ q) := by
  refine rK_met (own := RJxc12de) rfl (by decide) rfl (Nat.le_of_ble_eq_true rfl) (fun p e s m args below meth c E hnm hret hlk => ?_)
  show rv_M _ _ p l e _ s m args below meth c 0 0 _ (some ()) 0 [some (.ref b)] [] (([.int 0, .null, .int 0], []) : rK_mu)
  refine rv_aload_n (q := 1) E.x dJxc12de_init_da8c8_0 rfl rfl ?_
  refine rK_callS (host := "") (n := 0) (q := 4) (As := []) (rest := []) E kJxa1e45_init_da8c8 (rv_al (rv_t1 (List.mem_of_getElem? (i := 229) rfl)) rfl) (rv_al (rv_t1 (List.mem_of_getElem? (i := 227) rfl)) rfl) (rv_al (rv_t1 (List.mem_of_getElem? (i := 9) rfl)) rfl) (rv_al (rv_t1 (List.mem_of_getElem? (i := 228) rfl)) rfl) rfl ⟨rfl, rfl⟩ (by decide +kernel) ⟨Nat.le_of_ble_eq_true rfl, Nat.le_of_ble_eq_true rfl⟩ rfl rfl rfl (Nat.le_of_ble_eq_true rfl) ⟨Nat.le_of_ble_eq_true rfl, Nat.le_of_ble_eq_true rfl⟩ dJxc12de_init_da8c8_1 rfl ?_
  refine rv_aload_n (q := 5) E.x dJxc12de_init_da8c8_4 rfl rfl ?_
  refine rv_iconst (q := 6) E.x dJxc12de_init_da8c8_5 rK_ki0 rfl ?_
  refine rK_putN (q := 9) (ty := .int) E 0 rfl wlJL tyJx4a65c_ok nmJx4a65c (rv_al (rv_t1 (List.mem_of_getElem? (i := 235) rfl)) rfl) rfl (Nat.le_of_ble_eq_true rfl) rfl rfl rfl (Nat.le_of_ble_eq_true rfl) dJxc12de_init_da8c8_6 rfl ?_
  exact rK_ret hret hlk E rfl (Nat.le_of_ble_eq_true rfl) (Nat.le_of_ble_eq_true rfl) dJxc12de_init_da8c8_9
abbrev rmK_Jx4a65c_init_da8c8 : Room := { frames := 3, cells := 0, slots := 0, locals := 64 }
def kf_Jx4a65c_init_da8c8 (de : Nat) (b : Nat) : List Value := [.int 0, .ref de, .int 0]
def kw_Jx4a65c_init_da8c8 (cI cZ cO : ClassId) (b : Nat) : List va_E := []
set_option maxRecDepth 100000 in
set_option maxHeartbeats 4000000 in
theorem kJx4a65c_init_da8c8 {l : Launch} {D : va_G} {cI cZ cO : ClassId} {de b : Nat} : Met l yJx4a65c_init_da8c8 (rv_ws yJx4a65c_init_da8c8 cJx4a65c_init_da8c8 1 none) rmK_Jx4a65c_init_da8c8 (va_Pc [.ref b] (rK_P D cI cZ cO de b 0 ([.int 0, .null, .int 0], []))) (rK_Q D b 0 (kf_Jx4a65c_init_da8c8 de b, kw_Jx4a65c_init_da8c8 cI cZ cO b)) 0 0 (fun q => b ≤ q) := by
  refine rK_met (own := RJx4a65c) rfl (by decide) rfl (Nat.le_of_ble_eq_true rfl) (fun p e s m args below meth c E hnm hret hlk => ?_)
  show rv_M _ _ p l e _ s m args below meth c 0 0 _ (some ()) 0 [some (.ref b)] [] (([.int 0, .null, .int 0], []) : rK_mu)
  refine rv_aload_n (q := 1) E.x dJx4a65c_init_da8c8_0 rfl rfl ?_
  refine rK_callS (host := "") (n := 0) (q := 4) (As := []) (rest := []) E kJxc12de_init_da8c8 (rv_al (rv_t1 (List.mem_of_getElem? (i := 226) rfl)) rfl) (rv_al (rv_t1 (List.mem_of_getElem? (i := 224) rfl)) rfl) (rv_al (rv_t1 (List.mem_of_getElem? (i := 10) rfl)) rfl) (rv_al (rv_t1 (List.mem_of_getElem? (i := 225) rfl)) rfl) rfl ⟨rfl, rfl⟩ (by decide +kernel) ⟨Nat.le_of_ble_eq_true rfl, Nat.le_of_ble_eq_true rfl⟩ rfl rfl rfl (Nat.le_of_ble_eq_true rfl) ⟨Nat.le_of_ble_eq_true rfl, Nat.le_of_ble_eq_true rfl⟩ dJx4a65c_init_da8c8_1 rfl ?_
  refine rv_aload_n (q := 5) E.x dJx4a65c_init_da8c8_4 rfl rfl ?_
  refine rK_static (q := 8) E dJx4a65c_init_da8c8_5 rfl ?_
  refine rK_putN (q := 11) (ty := .array (.object "java/lang/Object")) E 1 rfl wlJL tyJx4a65c_ok nmJx4a65c (rv_al (rv_t1 (List.mem_of_getElem? (i := 233) rfl)) rfl) rfl (Nat.le_of_ble_eq_true rfl) rfl rfl rfl (Nat.le_of_ble_eq_true rfl) dJx4a65c_init_da8c8_8 rfl ?_
  exact rK_ret hret hlk E rfl (Nat.le_of_ble_eq_true rfl) (Nat.le_of_ble_eq_true rfl) dJx4a65c_init_da8c8_11
abbrev rmK_X9_init : Room := { frames := 1, cells := 10, slots := 4122, locals := 24 }
def kf_X9_init (b : Nat) : List Value := [.ref (b + 1 + 0), .ref (b + 1 + 1), .ref (b + 1 + 2), .ref (b + 1 + 3), .ref (b + 1 + 4), .ref (b + 1 + 5), .ref (b + 1 + 6), .ref (b + 1 + 7), .ref (b + 1 + 8), .ref (b + 1 + 9), .int 2]
def kw_X9_init (cI cZ cO : ClassId) (b : Nat) : List va_E := ([.inl (cI, 3280, .inl (fun _ => 0)), .inl (cI, 328, .inl (fun _ => 0)), .inl (cI, 82, .inl (upd (upd (fun _ => 0) 0 0) 1 1)), .inl (cI, 82, .inl (upd (upd (fun _ => 0) 0 (-1)) 1 (-1))), .inl (cI, 82, .inl (fun _ => (-1))), .inl (cI, 82, .inl (fun _ => (-1))), .inl (cI, 82, .inl (fun _ => 0)), .inl (cI, 82, .inl (fun _ => 0)), .inl (cI, 2, .inl (upd (upd (fun _ => 0) 0 0) 1 1)), .inl (cI, 20, .inl (fun _ => (-1)))])
set_option maxRecDepth 100000 in
set_option maxHeartbeats 4000000 in
theorem kX9_init {l : Launch} {D : va_G} {cI cZ cO : ClassId} {de b : Nat} : Met l yX9_init (rv_ws yX9_init cX9_init 2 none) rmK_X9_init (va_Pc [.ref b] (rK_P D cI cZ cO de b 10 ([.null, .null, .null, .null, .null, .null, .null, .null, .null, .null, .int 0], []))) (rK_Q D b 10 (kf_X9_init b, kw_X9_init cI cZ cO b)) 10 4122 (fun q => b ≤ q) := by
  refine rK_met (own := RX9) rfl (by decide) rfl (Nat.le_of_ble_eq_true rfl) (fun p e s m args below meth c E hnm hret hlk => ?_)
  show rv_M _ _ p l e _ s m args below meth c 0 0 _ (some ()) 0 [some (.ref b), none] [] (([.null, .null, .null, .null, .null, .null, .null, .null, .null, .null, .int 0], []) : rK_mu)
  refine rv_aload_n (q := 1) E.x dX9_init_0 rfl rfl ?_
  refine rK_obj (q := 4) E (rv_al (rv_t1 (List.mem_of_getElem? (i := 42) rfl)) rfl) rfl (Nat.le_of_ble_eq_true rfl) (Nat.le_of_ble_eq_true rfl) dX9_init_1 rfl ?_
  refine rv_aload_n (q := 5) E.x dX9_init_4 rfl rfl ?_
  refine rv_sipush (q := 8) E.x dX9_init_5 rK_ks3280 rfl ?_
  refine rK_newI (q := 10) (N := 3280) (k := 0) E (by decide) (by decide) rfl (by decide) (Nat.le_of_ble_eq_true rfl) (Nat.le_of_ble_eq_true rfl) dX9_init_8 rfl ?_
  refine rK_putF (q := 13) (ty := .array .int) E hnm 0 rfl wlX9 tyX9_ok nmX9 (rv_al (rv_t1 (List.mem_of_getElem? (i := 46) rfl)) rfl) rfl rfl (Nat.le_of_ble_eq_true rfl) rfl rfl rfl (Nat.le_of_ble_eq_true rfl) dX9_init_10 rfl ?_
  refine rv_aload_n (q := 14) E.x dX9_init_13 rfl rfl ?_
  refine rv_sipush (q := 17) E.x dX9_init_14 rK_ks328 rfl ?_
  refine rK_newI (q := 19) (N := 328) (k := 1) E (by decide) (by decide) rfl (by decide) (Nat.le_of_ble_eq_true rfl) (Nat.le_of_ble_eq_true rfl) dX9_init_17 rfl ?_
  refine rK_putF (q := 22) (ty := .array .int) E hnm 1 rfl wlX9 tyX9_ok nmX9 (rv_al (rv_t1 (List.mem_of_getElem? (i := 47) rfl)) rfl) rfl rfl (Nat.le_of_ble_eq_true rfl) rfl rfl rfl (Nat.le_of_ble_eq_true rfl) dX9_init_19 rfl ?_
  refine rv_aload_n (q := 23) E.x dX9_init_22 rfl rfl ?_
  refine rv_bipush (q := 25) E.x dX9_init_23 rK_kb82 rfl ?_
  refine rK_newI (q := 27) (N := 82) (k := 2) E (by decide) (by decide) rfl (by decide) (Nat.le_of_ble_eq_true rfl) (Nat.le_of_ble_eq_true rfl) dX9_init_25 rfl ?_
  refine rK_putF (q := 30) (ty := .array .int) E hnm 2 rfl wlX9 tyX9_ok nmX9 (rv_al (rv_t1 (List.mem_of_getElem? (i := 48) rfl)) rfl) rfl rfl (Nat.le_of_ble_eq_true rfl) rfl rfl rfl (Nat.le_of_ble_eq_true rfl) dX9_init_27 rfl ?_
  refine rv_aload_n (q := 31) E.x dX9_init_30 rfl rfl ?_
  refine rv_bipush (q := 33) E.x dX9_init_31 rK_kb82 rfl ?_
  refine rK_newI (q := 35) (N := 82) (k := 3) E (by decide) (by decide) rfl (by decide) (Nat.le_of_ble_eq_true rfl) (Nat.le_of_ble_eq_true rfl) dX9_init_33 rfl ?_
  refine rK_putF (q := 38) (ty := .array .int) E hnm 3 rfl wlX9 tyX9_ok nmX9 (rv_al (rv_t1 (List.mem_of_getElem? (i := 49) rfl)) rfl) rfl rfl (Nat.le_of_ble_eq_true rfl) rfl rfl rfl (Nat.le_of_ble_eq_true rfl) dX9_init_35 rfl ?_
  refine rv_aload_n (q := 39) E.x dX9_init_38 rfl rfl ?_
  refine rv_bipush (q := 41) E.x dX9_init_39 rK_kb82 rfl ?_
  refine rK_newI (q := 43) (N := 82) (k := 4) E (by decide) (by decide) rfl (by decide) (Nat.le_of_ble_eq_true rfl) (Nat.le_of_ble_eq_true rfl) dX9_init_41 rfl ?_
  refine rK_putF (q := 46) (ty := .array .int) E hnm 4 rfl wlX9 tyX9_ok nmX9 (rv_al (rv_t1 (List.mem_of_getElem? (i := 50) rfl)) rfl) rfl rfl (Nat.le_of_ble_eq_true rfl) rfl rfl rfl (Nat.le_of_ble_eq_true rfl) dX9_init_43 rfl ?_
  refine rv_aload_n (q := 47) E.x dX9_init_46 rfl rfl ?_
  refine rv_bipush (q := 49) E.x dX9_init_47 rK_kb82 rfl ?_
  refine rK_newI (q := 51) (N := 82) (k := 5) E (by decide) (by decide) rfl (by decide) (Nat.le_of_ble_eq_true rfl) (Nat.le_of_ble_eq_true rfl) dX9_init_49 rfl ?_
  refine rK_putF (q := 54) (ty := .array .int) E hnm 5 rfl wlX9 tyX9_ok nmX9 (rv_al (rv_t1 (List.mem_of_getElem? (i := 52) rfl)) rfl) rfl rfl (Nat.le_of_ble_eq_true rfl) rfl rfl rfl (Nat.le_of_ble_eq_true rfl) dX9_init_51 rfl ?_
  refine rv_aload_n (q := 55) E.x dX9_init_54 rfl rfl ?_
  refine rv_bipush (q := 57) E.x dX9_init_55 rK_kb82 rfl ?_
  refine rK_newI (q := 59) (N := 82) (k := 6) E (by decide) (by decide) rfl (by decide) (Nat.le_of_ble_eq_true rfl) (Nat.le_of_ble_eq_true rfl) dX9_init_57 rfl ?_
  refine rK_putF (q := 62) (ty := .array .int) E hnm 6 rfl wlX9 tyX9_ok nmX9 (rv_al (rv_t1 (List.mem_of_getElem? (i := 53) rfl)) rfl) rfl rfl (Nat.le_of_ble_eq_true rfl) rfl rfl rfl (Nat.le_of_ble_eq_true rfl) dX9_init_59 rfl ?_
  refine rv_aload_n (q := 63) E.x dX9_init_62 rfl rfl ?_
  refine rv_bipush (q := 65) E.x dX9_init_63 rK_kb82 rfl ?_
  refine rK_newI (q := 67) (N := 82) (k := 7) E (by decide) (by decide) rfl (by decide) (Nat.le_of_ble_eq_true rfl) (Nat.le_of_ble_eq_true rfl) dX9_init_65 rfl ?_
  refine rK_putF (q := 70) (ty := .array .int) E hnm 7 rfl wlX9 tyX9_ok nmX9 (rv_al (rv_t1 (List.mem_of_getElem? (i := 54) rfl)) rfl) rfl rfl (Nat.le_of_ble_eq_true rfl) rfl rfl rfl (Nat.le_of_ble_eq_true rfl) dX9_init_67 rfl ?_
  refine rv_aload_n (q := 71) E.x dX9_init_70 rfl rfl ?_
  refine rv_iconst (q := 72) E.x dX9_init_71 rK_ki2 rfl ?_
  refine rK_newI (q := 74) (N := 2) (k := 8) E (by decide) (by decide) rfl (by decide) (Nat.le_of_ble_eq_true rfl) (Nat.le_of_ble_eq_true rfl) dX9_init_72 rfl ?_
  refine rK_putF (q := 77) (ty := .array .int) E hnm 8 rfl wlX9 tyX9_ok nmX9 (rv_al (rv_t1 (List.mem_of_getElem? (i := 55) rfl)) rfl) rfl rfl (Nat.le_of_ble_eq_true rfl) rfl rfl rfl (Nat.le_of_ble_eq_true rfl) dX9_init_74 rfl ?_
  refine rv_aload_n (q := 78) E.x dX9_init_77 rfl rfl ?_
  refine rv_bipush (q := 80) E.x dX9_init_78 rK_kb20 rfl ?_
  refine rK_newI (q := 82) (N := 20) (k := 9) E (by decide) (by decide) rfl (by decide) (Nat.le_of_ble_eq_true rfl) (Nat.le_of_ble_eq_true rfl) dX9_init_80 rfl ?_
  refine rK_putF (q := 85) (ty := .array .int) E hnm 9 rfl wlX9 tyX9_ok nmX9 (rv_al (rv_t1 (List.mem_of_getElem? (i := 57) rfl)) rfl) rfl rfl (Nat.le_of_ble_eq_true rfl) rfl rfl rfl (Nat.le_of_ble_eq_true rfl) dX9_init_82 rfl ?_
  refine rv_aload_n (q := 86) E.x dX9_init_85 rfl rfl ?_
  refine rK_getS (q := 89) E 4 rfl wlX9 (rv_al (rv_t1 (List.mem_of_getElem? (i := 50) rfl)) rfl) (Nat.le_of_ble_eq_true rfl) rfl dX9_init_86 rfl ?_
  refine rv_iconst (q := 90) E.x dX9_init_89 rK_kim1 rfl ?_
  refine rK_fill (q := 93) (N := 82) (k := 4) E rfl (by decide) (rv_gS (rv_al (rv_t1 (List.mem_of_getElem? (i := 43) rfl)) rfl) (rv_al (rv_t1 (List.mem_of_getElem? (i := 44) rfl)) rfl) (rv_al (rv_t1 (List.mem_of_getElem? (i := 3) rfl)) rfl) wcJ7_fill_53178) ⟨Nat.le_of_ble_eq_true rfl, Nat.le_of_ble_eq_true rfl⟩ rfl (Nat.le_of_ble_eq_true rfl) ⟨Nat.le_of_ble_eq_true rfl, Nat.le_of_ble_eq_true rfl⟩ dX9_init_90 rfl ?_
  refine rv_aload_n (q := 94) E.x dX9_init_93 rfl rfl ?_
  refine rK_getS (q := 97) E 5 rfl wlX9 (rv_al (rv_t1 (List.mem_of_getElem? (i := 52) rfl)) rfl) (Nat.le_of_ble_eq_true rfl) rfl dX9_init_94 rfl ?_
  refine rv_iconst (q := 98) E.x dX9_init_97 rK_kim1 rfl ?_
  refine rK_fill (q := 101) (N := 82) (k := 5) E rfl (by decide) (rv_gS (rv_al (rv_t1 (List.mem_of_getElem? (i := 43) rfl)) rfl) (rv_al (rv_t1 (List.mem_of_getElem? (i := 44) rfl)) rfl) (rv_al (rv_t1 (List.mem_of_getElem? (i := 3) rfl)) rfl) wcJ7_fill_53178) ⟨Nat.le_of_ble_eq_true rfl, Nat.le_of_ble_eq_true rfl⟩ rfl (Nat.le_of_ble_eq_true rfl) ⟨Nat.le_of_ble_eq_true rfl, Nat.le_of_ble_eq_true rfl⟩ dX9_init_98 rfl ?_
  refine rv_aload_n (q := 102) E.x dX9_init_101 rfl rfl ?_
  refine rK_getS (q := 105) E 9 rfl wlX9 (rv_al (rv_t1 (List.mem_of_getElem? (i := 57) rfl)) rfl) (Nat.le_of_ble_eq_true rfl) rfl dX9_init_102 rfl ?_
  refine rv_iconst (q := 106) E.x dX9_init_105 rK_kim1 rfl ?_
  refine rK_fill (q := 109) (N := 20) (k := 9) E rfl (by decide) (rv_gS (rv_al (rv_t1 (List.mem_of_getElem? (i := 43) rfl)) rfl) (rv_al (rv_t1 (List.mem_of_getElem? (i := 44) rfl)) rfl) (rv_al (rv_t1 (List.mem_of_getElem? (i := 3) rfl)) rfl) wcJ7_fill_53178) ⟨Nat.le_of_ble_eq_true rfl, Nat.le_of_ble_eq_true rfl⟩ rfl (Nat.le_of_ble_eq_true rfl) ⟨Nat.le_of_ble_eq_true rfl, Nat.le_of_ble_eq_true rfl⟩ dX9_init_106 rfl ?_
  refine rv_iconst (q := 110) E.x dX9_init_109 rK_ki0 rfl ?_
  refine rv_istore_n (q := 111) (lv' := [some (.ref b), some (.int 0)]) E.x dX9_init_110 (Nat.le_of_ble_eq_true rfl) rfl rfl rfl ?_
  refine rv_iload_n (q := 112) E.x dX9_init_111 rfl rfl ?_
  refine rv_iconst (q := 113) E.x dX9_init_112 rK_ki2 rfl ?_
  refine rv_ge_no (q := 116) (tgt := 143) E.x dX9_init_113 (by decide) rfl (by decide) ?_
  refine rv_aload_n (q := 117) E.x dX9_init_116 rfl rfl ?_
  refine rK_getS (q := 120) E 2 rfl wlX9 (rv_al (rv_t1 (List.mem_of_getElem? (i := 48) rfl)) rfl) (Nat.le_of_ble_eq_true rfl) rfl dX9_init_117 rfl ?_
  refine rv_iload_n (q := 121) E.x dX9_init_120 rfl rfl ?_
  refine rv_iload_n (q := 122) E.x dX9_init_121 rfl rfl ?_
  refine rK_iast (q := 123) (N := 82) (k := 2) E rfl (by decide) dX9_init_122 rfl ?_
  refine rv_aload_n (q := 124) E.x dX9_init_123 rfl rfl ?_
  refine rK_getS (q := 127) E 3 rfl wlX9 (rv_al (rv_t1 (List.mem_of_getElem? (i := 49) rfl)) rfl) (Nat.le_of_ble_eq_true rfl) rfl dX9_init_124 rfl ?_
  refine rv_iload_n (q := 128) E.x dX9_init_127 rfl rfl ?_
  refine rv_iconst (q := 129) E.x dX9_init_128 rK_kim1 rfl ?_
  refine rK_iast (q := 130) (N := 82) (k := 3) E rfl (by decide) dX9_init_129 rfl ?_
  refine rv_aload_n (q := 131) E.x dX9_init_130 rfl rfl ?_
  refine rK_getS (q := 134) E 8 rfl wlX9 (rv_al (rv_t1 (List.mem_of_getElem? (i := 55) rfl)) rfl) (Nat.le_of_ble_eq_true rfl) rfl dX9_init_131 rfl ?_
  refine rv_iload_n (q := 135) E.x dX9_init_134 rfl rfl ?_
  refine rv_iload_n (q := 136) E.x dX9_init_135 rfl rfl ?_
  refine rK_iast (q := 137) (N := 2) (k := 8) E rfl (by decide) dX9_init_136 rfl ?_
  refine rv_iinc (q := 140) (lv' := [some (.ref b), some (.int 1)]) E.x dX9_init_137 rK_ki1 rfl rfl rfl rfl ?_
  refine rv_goto (q := 111) E.x dX9_init_140 (by decide) ?_
  refine rv_iload_n (q := 112) E.x dX9_init_111 rfl rfl ?_
  refine rv_iconst (q := 113) E.x dX9_init_112 rK_ki2 rfl ?_
  refine rv_ge_no (q := 116) (tgt := 143) E.x dX9_init_113 (by decide) rfl (by decide) ?_
  refine rv_aload_n (q := 117) E.x dX9_init_116 rfl rfl ?_
  refine rK_getS (q := 120) E 2 rfl wlX9 (rv_al (rv_t1 (List.mem_of_getElem? (i := 48) rfl)) rfl) (Nat.le_of_ble_eq_true rfl) rfl dX9_init_117 rfl ?_
  refine rv_iload_n (q := 121) E.x dX9_init_120 rfl rfl ?_
  refine rv_iload_n (q := 122) E.x dX9_init_121 rfl rfl ?_
  refine rK_iast (q := 123) (N := 82) (k := 2) E rfl (by decide) dX9_init_122 rfl ?_
  refine rv_aload_n (q := 124) E.x dX9_init_123 rfl rfl ?_
  refine rK_getS (q := 127) E 3 rfl wlX9 (rv_al (rv_t1 (List.mem_of_getElem? (i := 49) rfl)) rfl) (Nat.le_of_ble_eq_true rfl) rfl dX9_init_124 rfl ?_
  refine rv_iload_n (q := 128) E.x dX9_init_127 rfl rfl ?_
  refine rv_iconst (q := 129) E.x dX9_init_128 rK_kim1 rfl ?_
  refine rK_iast (q := 130) (N := 82) (k := 3) E rfl (by decide) dX9_init_129 rfl ?_
  refine rv_aload_n (q := 131) E.x dX9_init_130 rfl rfl ?_
  refine rK_getS (q := 134) E 8 rfl wlX9 (rv_al (rv_t1 (List.mem_of_getElem? (i := 55) rfl)) rfl) (Nat.le_of_ble_eq_true rfl) rfl dX9_init_131 rfl ?_
  refine rv_iload_n (q := 135) E.x dX9_init_134 rfl rfl ?_
  refine rv_iload_n (q := 136) E.x dX9_init_135 rfl rfl ?_
  refine rK_iast (q := 137) (N := 2) (k := 8) E rfl (by decide) dX9_init_136 rfl ?_
  refine rv_iinc (q := 140) (lv' := [some (.ref b), some (.int 2)]) E.x dX9_init_137 rK_ki1 rfl rfl rfl rfl ?_
  refine rv_goto (q := 111) E.x dX9_init_140 (by decide) ?_
  refine rv_iload_n (q := 112) E.x dX9_init_111 rfl rfl ?_
  refine rv_iconst (q := 113) E.x dX9_init_112 rK_ki2 rfl ?_
  refine rv_ge_yes (tgt := 143) E.x dX9_init_113 (by decide) (by decide) ?_
  refine rv_aload_n (q := 144) E.x dX9_init_143 rfl rfl ?_
  refine rv_iconst (q := 145) E.x dX9_init_144 rK_ki2 rfl ?_
  refine rK_putN (q := 148) (ty := .int) E 10 rfl wlX9 tyX9_ok nmX9 (rv_al (rv_t1 (List.mem_of_getElem? (i := 58) rfl)) rfl) rfl (Nat.le_of_ble_eq_true rfl) rfl rfl rfl (Nat.le_of_ble_eq_true rfl) dX9_init_145 rfl ?_
  exact rK_ret hret hlk E rfl (Nat.le_of_ble_eq_true rfl) (Nat.le_of_ble_eq_true rfl) dX9_init_148
abbrev rmK_X3_init : Room := { frames := 1, cells := 8, slots := 195, locals := 24 }
def kf_X3_init (b : Nat) : List Value := [.ref (b + 1 + 0), .ref (b + 1 + 1), .ref (b + 1 + 2), .ref (b + 1 + 3), .ref (b + 1 + 4), .ref (b + 1 + 5), .ref (b + 1 + 6), .ref (b + 1 + 7), .int 0, .int 0, .int 0]
def kw_X3_init (cI cZ cO : ClassId) (b : Nat) : List va_E := ([.inl (cI, 10, .inl (fun _ => 0)), .inl (cI, 10, .inl (fun _ => 0)), .inl (cI, 121, .inl (fun _ => 0)), .inl (cI, 10, .inl (fun _ => 0)), .inl (cI, 11, .inl (fun _ => 0)), .inl (cI, 11, .inl (fun _ => 0)), .inl (cI, 11, .inl (fun _ => 0)), .inl (cI, 11, .inl (fun _ => 0))])
set_option maxRecDepth 100000 in
set_option maxHeartbeats 4000000 in
theorem kX3_init {l : Launch} {D : va_G} {cI cZ cO : ClassId} {de b : Nat} : Met l yX3_init (rv_ws yX3_init cX3_init 1 none) rmK_X3_init (va_Pc [.ref b] (rK_P D cI cZ cO de b 4 ([.null, .null, .null, .null, .null, .null, .null, .null, .int 0, .int 0, .int 0], []))) (rK_Q D b 4 (kf_X3_init b, kw_X3_init cI cZ cO b)) 8 195 (fun q => b ≤ q) := by
  refine rK_met (own := RX3) rfl (by decide) rfl (Nat.le_of_ble_eq_true rfl) (fun p e s m args below meth c E hnm hret hlk => ?_)
  show rv_M _ _ p l e _ s m args below meth c 0 0 _ (some ()) 0 [some (.ref b)] [] (([.null, .null, .null, .null, .null, .null, .null, .null, .int 0, .int 0, .int 0], []) : rK_mu)
  refine rv_aload_n (q := 1) E.x dX3_init_0 rfl rfl ?_
  refine rK_obj (q := 4) E (rv_al (rv_t1 (List.mem_of_getElem? (i := 96) rfl)) rfl) rfl (Nat.le_of_ble_eq_true rfl) (Nat.le_of_ble_eq_true rfl) dX3_init_1 rfl ?_
  refine rv_aload_n (q := 5) E.x dX3_init_4 rfl rfl ?_
  refine rv_bipush (q := 7) E.x dX3_init_5 rK_kb10 rfl ?_
  refine rK_newI (q := 9) (N := 10) (k := 0) E (by decide) (by decide) rfl (by decide) (Nat.le_of_ble_eq_true rfl) (Nat.le_of_ble_eq_true rfl) dX3_init_7 rfl ?_
  refine rK_putF (q := 12) (ty := .array .int) E hnm 0 rfl wlX3 tyX3_ok nmX3 (rv_al (rv_t1 (List.mem_of_getElem? (i := 97) rfl)) rfl) rfl rfl (Nat.le_of_ble_eq_true rfl) rfl rfl rfl (Nat.le_of_ble_eq_true rfl) dX3_init_9 rfl ?_
  refine rv_aload_n (q := 13) E.x dX3_init_12 rfl rfl ?_
  refine rv_bipush (q := 15) E.x dX3_init_13 rK_kb10 rfl ?_
  refine rK_newI (q := 17) (N := 10) (k := 1) E (by decide) (by decide) rfl (by decide) (Nat.le_of_ble_eq_true rfl) (Nat.le_of_ble_eq_true rfl) dX3_init_15 rfl ?_
  refine rK_putF (q := 20) (ty := .array .int) E hnm 1 rfl wlX3 tyX3_ok nmX3 (rv_al (rv_t1 (List.mem_of_getElem? (i := 99) rfl)) rfl) rfl rfl (Nat.le_of_ble_eq_true rfl) rfl rfl rfl (Nat.le_of_ble_eq_true rfl) dX3_init_17 rfl ?_
  refine rv_aload_n (q := 21) E.x dX3_init_20 rfl rfl ?_
  refine rv_bipush (q := 23) E.x dX3_init_21 rK_kb121 rfl ?_
  refine rK_newI (q := 25) (N := 121) (k := 2) E (by decide) (by decide) rfl (by decide) (Nat.le_of_ble_eq_true rfl) (Nat.le_of_ble_eq_true rfl) dX3_init_23 rfl ?_
  refine rK_putF (q := 28) (ty := .array .int) E hnm 2 rfl wlX3 tyX3_ok nmX3 (rv_al (rv_t1 (List.mem_of_getElem? (i := 101) rfl)) rfl) rfl rfl (Nat.le_of_ble_eq_true rfl) rfl rfl rfl (Nat.le_of_ble_eq_true rfl) dX3_init_25 rfl ?_
  refine rv_aload_n (q := 29) E.x dX3_init_28 rfl rfl ?_
  refine rv_bipush (q := 31) E.x dX3_init_29 rK_kb10 rfl ?_
  refine rK_newI (q := 33) (N := 10) (k := 3) E (by decide) (by decide) rfl (by decide) (Nat.le_of_ble_eq_true rfl) (Nat.le_of_ble_eq_true rfl) dX3_init_31 rfl ?_
  refine rK_putF (q := 36) (ty := .array .int) E hnm 3 rfl wlX3 tyX3_ok nmX3 (rv_al (rv_t1 (List.mem_of_getElem? (i := 102) rfl)) rfl) rfl rfl (Nat.le_of_ble_eq_true rfl) rfl rfl rfl (Nat.le_of_ble_eq_true rfl) dX3_init_33 rfl ?_
  refine rv_aload_n (q := 37) E.x dX3_init_36 rfl rfl ?_
  refine rv_bipush (q := 39) E.x dX3_init_37 rK_kb11 rfl ?_
  refine rK_newI (q := 41) (N := 11) (k := 4) E (by decide) (by decide) rfl (by decide) (Nat.le_of_ble_eq_true rfl) (Nat.le_of_ble_eq_true rfl) dX3_init_39 rfl ?_
  refine rK_putF (q := 44) (ty := .array .int) E hnm 4 rfl wlX3 tyX3_ok nmX3 (rv_al (rv_t1 (List.mem_of_getElem? (i := 104) rfl)) rfl) rfl rfl (Nat.le_of_ble_eq_true rfl) rfl rfl rfl (Nat.le_of_ble_eq_true rfl) dX3_init_41 rfl ?_
  refine rv_aload_n (q := 45) E.x dX3_init_44 rfl rfl ?_
  refine rv_bipush (q := 47) E.x dX3_init_45 rK_kb11 rfl ?_
  refine rK_newI (q := 49) (N := 11) (k := 5) E (by decide) (by decide) rfl (by decide) (Nat.le_of_ble_eq_true rfl) (Nat.le_of_ble_eq_true rfl) dX3_init_47 rfl ?_
  refine rK_putF (q := 52) (ty := .array .int) E hnm 5 rfl wlX3 tyX3_ok nmX3 (rv_al (rv_t1 (List.mem_of_getElem? (i := 106) rfl)) rfl) rfl rfl (Nat.le_of_ble_eq_true rfl) rfl rfl rfl (Nat.le_of_ble_eq_true rfl) dX3_init_49 rfl ?_
  refine rv_aload_n (q := 53) E.x dX3_init_52 rfl rfl ?_
  refine rv_bipush (q := 55) E.x dX3_init_53 rK_kb11 rfl ?_
  refine rK_newI (q := 57) (N := 11) (k := 6) E (by decide) (by decide) rfl (by decide) (Nat.le_of_ble_eq_true rfl) (Nat.le_of_ble_eq_true rfl) dX3_init_55 rfl ?_
  refine rK_putF (q := 60) (ty := .array .int) E hnm 6 rfl wlX3 tyX3_ok nmX3 (rv_al (rv_t1 (List.mem_of_getElem? (i := 108) rfl)) rfl) rfl rfl (Nat.le_of_ble_eq_true rfl) rfl rfl rfl (Nat.le_of_ble_eq_true rfl) dX3_init_57 rfl ?_
  refine rv_aload_n (q := 61) E.x dX3_init_60 rfl rfl ?_
  refine rv_bipush (q := 63) E.x dX3_init_61 rK_kb11 rfl ?_
  refine rK_newI (q := 65) (N := 11) (k := 7) E (by decide) (by decide) rfl (by decide) (Nat.le_of_ble_eq_true rfl) (Nat.le_of_ble_eq_true rfl) dX3_init_63 rfl ?_
  refine rK_putF (q := 68) (ty := .array .int) E hnm 7 rfl wlX3 tyX3_ok nmX3 (rv_al (rv_t1 (List.mem_of_getElem? (i := 110) rfl)) rfl) rfl rfl (Nat.le_of_ble_eq_true rfl) rfl rfl rfl (Nat.le_of_ble_eq_true rfl) dX3_init_65 rfl ?_
  exact rK_ret hret hlk E rfl (Nat.le_of_ble_eq_true rfl) (Nat.le_of_ble_eq_true rfl) dX3_init_68
abbrev rmK_X2_init : Room := { frames := 2, cells := 19, slots := 423, locals := 44 }
def kf_X2_init (b : Nat) (a1 : Nat) : List Value := [.ref a1, .ref (b + 1 + 0), .ref (b + 1 + 9), .ref (b + 1 + 18)]
def kw_X2_init (cI cZ cO : ClassId) (b : Nat) (a1 : Nat) : List va_E := [.inr (4, kf_X3_init (b + 1 + 0))] ++ ((kw_X3_init cI cZ cO (b + 1 + 0)) ++ ([.inr (4, kf_X3_init (b + 1 + 9))] ++ ((kw_X3_init cI cZ cO (b + 1 + 9)) ++ ([.inl (cI, 11, .inl (fun _ => 0))]))))
set_option maxRecDepth 100000 in
set_option maxHeartbeats 4000000 in
theorem kX2_init {l : Launch} {D : va_G} {cI cZ cO : ClassId} {de b : Nat} {a1 : Nat} : Met l yX2_init (rv_ws yX2_init cX2_init 2 none) rmK_X2_init (va_Pc [.ref b, .ref a1] (rK_P D cI cZ cO de b 3 ([.null, .null, .null, .null], []))) (rK_Q D b 3 (kf_X2_init b a1, kw_X2_init cI cZ cO b a1)) 19 423 (fun q => b ≤ q) := by
  refine rK_met (own := RX2) rfl (by decide) rfl (Nat.le_of_ble_eq_true rfl) (fun p e s m args below meth c E hnm hret hlk => ?_)
  show rv_M _ _ p l e _ s m args below meth c 0 0 _ (some ()) 0 [some (.ref b), some (.ref a1)] [] (([.null, .null, .null, .null], []) : rK_mu)
  refine rv_aload_n (q := 1) E.x dX2_init_0 rfl rfl ?_
  refine rK_obj (q := 4) E (rv_al (rv_t1 (List.mem_of_getElem? (i := 90) rfl)) rfl) rfl (Nat.le_of_ble_eq_true rfl) (Nat.le_of_ble_eq_true rfl) dX2_init_1 rfl ?_
  refine rv_aload_n (q := 5) E.x dX2_init_4 rfl rfl ?_
  refine rK_new (q := 8) (N := 11) (k := 0) (ci2 := 4) (f2 := [.null, .null, .null, .null, .null, .null, .null, .null, .int 0, .int 0, .int 0]) E rfl wlX3 tyX3_ok (rv_al (rv_t1 (List.mem_of_getElem? (i := 91) rfl)) rfl) (rv_al (rv_t1 (List.mem_of_getElem? (i := 92) rfl)) rfl) (rv_al (rv_t1 (List.mem_of_getElem? (i := 5) rfl)) rfl) (fun j hj => (match j, hj with | 0, _ => rfl | 1, _ => rfl | 2, _ => rfl | 3, _ => rfl | 4, _ => rfl | 5, _ => rfl | 6, _ => rfl | 7, _ => rfl | 8, _ => rfl | 9, _ => rfl | 10, _ => rfl | j + 11, h => absurd h (by omega))) rfl (Nat.le_of_ble_eq_true rfl) (Nat.le_of_ble_eq_true rfl) dX2_init_5 rfl ?_
  refine rv_dup (q := 9) E.x dX2_init_8 rfl rfl ?_
  refine rK_callLn (n := 0) (q := 12) (k := 0) (As := []) (rest := [.ref (b + 1 + 0), .ref b]) E kX3_init (rv_al (rv_t1 (List.mem_of_getElem? (i := 95) rfl)) rfl) E.2.1.2.2.1 (rv_al (rv_t1 (List.mem_of_getElem? (i := 5) rfl)) rfl) (rv_al (rv_t1 (List.mem_of_getElem? (i := 94) rfl)) rfl) rfl ⟨rfl, rfl⟩ (by decide +kernel) ⟨Nat.le_of_ble_eq_true rfl, Nat.le_of_ble_eq_true rfl⟩ rfl rfl rfl rfl (Nat.le_of_ble_eq_true rfl) ⟨Nat.le_of_ble_eq_true rfl, Nat.le_of_ble_eq_true rfl⟩ dX2_init_9 rfl ?_
  refine rK_putF (q := 15) (ty := .object "ReviewForge$Comparison") E hnm 1 rfl wlX2 tyX2_ok nmX2 (rv_al (rv_t1 (List.mem_of_getElem? (i := 141) rfl)) rfl) rfl rfl (Nat.le_of_ble_eq_true rfl) rfl rfl rfl (Nat.le_of_ble_eq_true rfl) dX2_init_12 rfl ?_
  refine rv_aload_n (q := 16) E.x dX2_init_15 rfl rfl ?_
  refine rK_new (q := 19) (N := 11) (k := 9) (ci2 := 4) (f2 := [.null, .null, .null, .null, .null, .null, .null, .null, .int 0, .int 0, .int 0]) E rfl wlX3 tyX3_ok (rv_al (rv_t1 (List.mem_of_getElem? (i := 91) rfl)) rfl) (rv_al (rv_t1 (List.mem_of_getElem? (i := 92) rfl)) rfl) (rv_al (rv_t1 (List.mem_of_getElem? (i := 5) rfl)) rfl) (fun j hj => (match j, hj with | 0, _ => rfl | 1, _ => rfl | 2, _ => rfl | 3, _ => rfl | 4, _ => rfl | 5, _ => rfl | 6, _ => rfl | 7, _ => rfl | 8, _ => rfl | 9, _ => rfl | 10, _ => rfl | j + 11, h => absurd h (by omega))) rfl (Nat.le_of_ble_eq_true rfl) (Nat.le_of_ble_eq_true rfl) dX2_init_16 rfl ?_
  refine rv_dup (q := 20) E.x dX2_init_19 rfl rfl ?_
  refine rK_callLn (n := 0) (q := 23) (k := 9) (As := []) (rest := [.ref (b + 1 + 9), .ref b]) E kX3_init (rv_al (rv_t1 (List.mem_of_getElem? (i := 95) rfl)) rfl) E.2.1.2.2.1 (rv_al (rv_t1 (List.mem_of_getElem? (i := 5) rfl)) rfl) (rv_al (rv_t1 (List.mem_of_getElem? (i := 94) rfl)) rfl) rfl ⟨rfl, rfl⟩ (by decide +kernel) ⟨Nat.le_of_ble_eq_true rfl, Nat.le_of_ble_eq_true rfl⟩ rfl rfl rfl rfl (Nat.le_of_ble_eq_true rfl) ⟨Nat.le_of_ble_eq_true rfl, Nat.le_of_ble_eq_true rfl⟩ dX2_init_20 rfl ?_
  refine rK_putF (q := 26) (ty := .object "ReviewForge$Comparison") E hnm 2 rfl wlX2 tyX2_ok nmX2 (rv_al (rv_t1 (List.mem_of_getElem? (i := 142) rfl)) rfl) rfl rfl (Nat.le_of_ble_eq_true rfl) rfl rfl rfl (Nat.le_of_ble_eq_true rfl) dX2_init_23 rfl ?_
  refine rv_aload_n (q := 27) E.x dX2_init_26 rfl rfl ?_
  refine rv_bipush (q := 29) E.x dX2_init_27 rK_kb11 rfl ?_
  refine rK_newI (q := 31) (N := 11) (k := 18) E (by decide) (by decide) rfl (by decide) (Nat.le_of_ble_eq_true rfl) (Nat.le_of_ble_eq_true rfl) dX2_init_29 rfl ?_
  refine rK_putF (q := 34) (ty := .array .int) E hnm 3 rfl wlX2 tyX2_ok nmX2 (rv_al (rv_t1 (List.mem_of_getElem? (i := 143) rfl)) rfl) rfl rfl (Nat.le_of_ble_eq_true rfl) rfl rfl rfl (Nat.le_of_ble_eq_true rfl) dX2_init_31 rfl ?_
  refine rv_aload_n (q := 35) E.x dX2_init_34 rfl rfl ?_
  refine rv_aload_n (q := 36) E.x dX2_init_35 rfl rfl ?_
  refine rK_putF (q := 39) (ty := .object "ReviewForge$Store") E hnm 0 rfl wlX2 tyX2_ok nmX2 (rv_al (rv_t1 (List.mem_of_getElem? (i := 140) rfl)) rfl) rfl rfl (Nat.le_of_ble_eq_true rfl) rfl rfl rfl (Nat.le_of_ble_eq_true rfl) dX2_init_36 rfl ?_
  exact rK_ret hret hlk E rfl (Nat.le_of_ble_eq_true rfl) (Nat.le_of_ble_eq_true rfl) dX2_init_39
abbrev rmK_X10_init : Room := { frames := 1, cells := 2, slots := 966, locals := 24 }
def kf_X10_init (b : Nat) (a1 : Nat) : List Value := [.ref a1, .ref (b + 1 + 0), .ref (b + 1 + 1)]
def kw_X10_init (cI cZ cO : ClassId) (b : Nat) (a1 : Nat) : List va_E := ([.inl (cI, 960, .inl (fun _ => (-9))), .inl (cI, 6, .inl (upd (upd (upd (upd (upd (upd (fun _ => 0) 0 1) 1 17) 2 31) 3 2) 4 10) 5 14))])
set_option maxRecDepth 100000 in
set_option maxHeartbeats 4000000 in
theorem kX10_init {l : Launch} {D : va_G} {cI cZ cO : ClassId} {de b : Nat} {a1 : Nat} : Met l yX10_init (rv_ws yX10_init cX10_init 2 none) rmK_X10_init (va_Pc [.ref b, .ref a1] (rK_P D cI cZ cO de b 11 ([.null, .null, .null], []))) (rK_Q D b 11 (kf_X10_init b a1, kw_X10_init cI cZ cO b a1)) 2 966 (fun q => b ≤ q) := by
  refine rK_met (own := RX10) rfl (by decide) rfl (Nat.le_of_ble_eq_true rfl) (fun p e s m args below meth c E hnm hret hlk => ?_)
  show rv_M _ _ p l e _ s m args below meth c 0 0 _ (some ()) 0 [some (.ref b), some (.ref a1)] [] (([.null, .null, .null], []) : rK_mu)
  refine rv_aload_n (q := 1) E.x dX10_init_0 rfl rfl ?_
  refine rK_obj (q := 4) E (rv_al (rv_t1 (List.mem_of_getElem? (i := 158) rfl)) rfl) rfl (Nat.le_of_ble_eq_true rfl) (Nat.le_of_ble_eq_true rfl) dX10_init_1 rfl ?_
  refine rv_aload_n (q := 5) E.x dX10_init_4 rfl rfl ?_
  refine rv_sipush (q := 8) E.x dX10_init_5 rK_ks960 rfl ?_
  refine rK_newI (q := 10) (N := 960) (k := 0) E (by decide) (by decide) rfl (by decide) (Nat.le_of_ble_eq_true rfl) (Nat.le_of_ble_eq_true rfl) dX10_init_8 rfl ?_
  refine rK_putF (q := 13) (ty := .array .int) E hnm 1 rfl wlX10 tyX10_ok nmX10 (rv_al (rv_t1 (List.mem_of_getElem? (i := 161) rfl)) rfl) rfl rfl (Nat.le_of_ble_eq_true rfl) rfl rfl rfl (Nat.le_of_ble_eq_true rfl) dX10_init_10 rfl ?_
  refine rv_aload_n (q := 14) E.x dX10_init_13 rfl rfl ?_
  refine rv_bipush (q := 16) E.x dX10_init_14 rK_kb6 rfl ?_
  refine rK_newI (q := 18) (N := 6) (k := 1) E (by decide) (by decide) rfl (by decide) (Nat.le_of_ble_eq_true rfl) (Nat.le_of_ble_eq_true rfl) dX10_init_16 rfl ?_
  refine rv_dup (q := 19) E.x dX10_init_18 rfl rfl ?_
  refine rv_iconst (q := 20) E.x dX10_init_19 rK_ki0 rfl ?_
  refine rv_iconst (q := 21) E.x dX10_init_20 rK_ki1 rfl ?_
  refine rK_iast (q := 22) (N := 6) (k := 1) E rfl (by decide) dX10_init_21 rfl ?_
  refine rv_dup (q := 23) E.x dX10_init_22 rfl rfl ?_
  refine rv_iconst (q := 24) E.x dX10_init_23 rK_ki1 rfl ?_
  refine rv_bipush (q := 26) E.x dX10_init_24 rK_kb17 rfl ?_
  refine rK_iast (q := 27) (N := 6) (k := 1) E rfl (by decide) dX10_init_26 rfl ?_
  refine rv_dup (q := 28) E.x dX10_init_27 rfl rfl ?_
  refine rv_iconst (q := 29) E.x dX10_init_28 rK_ki2 rfl ?_
  refine rv_bipush (q := 31) E.x dX10_init_29 rK_kb31 rfl ?_
  refine rK_iast (q := 32) (N := 6) (k := 1) E rfl (by decide) dX10_init_31 rfl ?_
  refine rv_dup (q := 33) E.x dX10_init_32 rfl rfl ?_
  refine rv_iconst (q := 34) E.x dX10_init_33 rK_ki3 rfl ?_
  refine rv_iconst (q := 35) E.x dX10_init_34 rK_ki2 rfl ?_
  refine rK_iast (q := 36) (N := 6) (k := 1) E rfl (by decide) dX10_init_35 rfl ?_
  refine rv_dup (q := 37) E.x dX10_init_36 rfl rfl ?_
  refine rv_iconst (q := 38) E.x dX10_init_37 rK_ki4 rfl ?_
  refine rv_bipush (q := 40) E.x dX10_init_38 rK_kb10 rfl ?_
  refine rK_iast (q := 41) (N := 6) (k := 1) E rfl (by decide) dX10_init_40 rfl ?_
  refine rv_dup (q := 42) E.x dX10_init_41 rfl rfl ?_
  refine rv_iconst (q := 43) E.x dX10_init_42 rK_ki5 rfl ?_
  refine rv_bipush (q := 45) E.x dX10_init_43 rK_kb14 rfl ?_
  refine rK_iast (q := 46) (N := 6) (k := 1) E rfl (by decide) dX10_init_45 rfl ?_
  refine rK_putF (q := 49) (ty := .array .int) E hnm 2 rfl wlX10 tyX10_ok nmX10 (rv_al (rv_t1 (List.mem_of_getElem? (i := 162) rfl)) rfl) rfl rfl (Nat.le_of_ble_eq_true rfl) rfl rfl rfl (Nat.le_of_ble_eq_true rfl) dX10_init_46 rfl ?_
  refine rv_aload_n (q := 50) E.x dX10_init_49 rfl rfl ?_
  refine rv_aload_n (q := 51) E.x dX10_init_50 rfl rfl ?_
  refine rK_putF (q := 54) (ty := .object "ReviewForge$Store") E hnm 0 rfl wlX10 tyX10_ok nmX10 (rv_al (rv_t1 (List.mem_of_getElem? (i := 160) rfl)) rfl) rfl rfl (Nat.le_of_ble_eq_true rfl) rfl rfl rfl (Nat.le_of_ble_eq_true rfl) dX10_init_51 rfl ?_
  refine rv_aload_n (q := 55) E.x dX10_init_54 rfl rfl ?_
  refine rK_getS (q := 58) E 1 rfl wlX10 (rv_al (rv_t1 (List.mem_of_getElem? (i := 161) rfl)) rfl) (Nat.le_of_ble_eq_true rfl) rfl dX10_init_55 rfl ?_
  refine rv_bipush (q := 60) E.x dX10_init_58 rK_kbm9 rfl ?_
  refine rK_fill (q := 63) (N := 960) (k := 0) E rfl (by decide) (rv_gS (rv_al (rv_t1 (List.mem_of_getElem? (i := 159) rfl)) rfl) (rv_al (rv_t1 (List.mem_of_getElem? (i := 44) rfl)) rfl) (rv_al (rv_t1 (List.mem_of_getElem? (i := 3) rfl)) rfl) wcJ7_fill_53178) ⟨Nat.le_of_ble_eq_true rfl, Nat.le_of_ble_eq_true rfl⟩ rfl (Nat.le_of_ble_eq_true rfl) ⟨Nat.le_of_ble_eq_true rfl, Nat.le_of_ble_eq_true rfl⟩ dX10_init_60 rfl ?_
  exact rK_ret hret hlk E rfl (Nat.le_of_ble_eq_true rfl) (Nat.le_of_ble_eq_true rfl) dX10_init_63
abbrev rmK_X8_init : Room := { frames := 1, cells := 5, slots := 96, locals := 24 }
def kf_X8_init (b : Nat) : List Value := [.ref (b + 1 + 0), .ref (b + 1 + 1), .ref (b + 1 + 2), .ref (b + 1 + 3), .ref (b + 1 + 4), .int 0, .int 1]
def kw_X8_init (cI cZ cO : ClassId) (b : Nat) : List va_E := ([.inl (cI, 20, .inl (upd (fun _ => 0) 0 15)), .inl (cI, 20, .inl (upd (fun _ => 0) 0 7)), .inl (cI, 20, .inl (upd (fun _ => 0) 0 48)), .inl (cZ, 20, .inl (fun _ => 0)), .inl (cI, 16, .inl (fun _ => 0))])
set_option maxRecDepth 100000 in
set_option maxHeartbeats 4000000 in
theorem kX8_init {l : Launch} {D : va_G} {cI cZ cO : ClassId} {de b : Nat} : Met l yX8_init (rv_ws yX8_init cX8_init 1 none) rmK_X8_init (va_Pc [.ref b] (rK_P D cI cZ cO de b 9 ([.null, .null, .null, .null, .null, .int 0, .int 0], []))) (rK_Q D b 9 (kf_X8_init b, kw_X8_init cI cZ cO b)) 5 96 (fun q => b ≤ q) := by
  refine rK_met (own := RX8) rfl (by decide) rfl (Nat.le_of_ble_eq_true rfl) (fun p e s m args below meth c E hnm hret hlk => ?_)
  show rv_M _ _ p l e _ s m args below meth c 0 0 _ (some ()) 0 [some (.ref b)] [] (([.null, .null, .null, .null, .null, .int 0, .int 0], []) : rK_mu)
  refine rv_aload_n (q := 1) E.x dX8_init_0 rfl rfl ?_
  refine rK_obj (q := 4) E (rv_al (rv_t1 (List.mem_of_getElem? (i := 175) rfl)) rfl) rfl (Nat.le_of_ble_eq_true rfl) (Nat.le_of_ble_eq_true rfl) dX8_init_1 rfl ?_
  refine rv_aload_n (q := 5) E.x dX8_init_4 rfl rfl ?_
  refine rv_bipush (q := 7) E.x dX8_init_5 rK_kb20 rfl ?_
  refine rK_newI (q := 9) (N := 20) (k := 0) E (by decide) (by decide) rfl (by decide) (Nat.le_of_ble_eq_true rfl) (Nat.le_of_ble_eq_true rfl) dX8_init_7 rfl ?_
  refine rK_putF (q := 12) (ty := .array .int) E hnm 0 rfl wlX8 tyX8_ok nmX8 (rv_al (rv_t1 (List.mem_of_getElem? (i := 176) rfl)) rfl) rfl rfl (Nat.le_of_ble_eq_true rfl) rfl rfl rfl (Nat.le_of_ble_eq_true rfl) dX8_init_9 rfl ?_
  refine rv_aload_n (q := 13) E.x dX8_init_12 rfl rfl ?_
  refine rv_bipush (q := 15) E.x dX8_init_13 rK_kb20 rfl ?_
  refine rK_newI (q := 17) (N := 20) (k := 1) E (by decide) (by decide) rfl (by decide) (Nat.le_of_ble_eq_true rfl) (Nat.le_of_ble_eq_true rfl) dX8_init_15 rfl ?_
  refine rK_putF (q := 20) (ty := .array .int) E hnm 1 rfl wlX8 tyX8_ok nmX8 (rv_al (rv_t1 (List.mem_of_getElem? (i := 177) rfl)) rfl) rfl rfl (Nat.le_of_ble_eq_true rfl) rfl rfl rfl (Nat.le_of_ble_eq_true rfl) dX8_init_17 rfl ?_
  refine rv_aload_n (q := 21) E.x dX8_init_20 rfl rfl ?_
  refine rv_bipush (q := 23) E.x dX8_init_21 rK_kb20 rfl ?_
  refine rK_newI (q := 25) (N := 20) (k := 2) E (by decide) (by decide) rfl (by decide) (Nat.le_of_ble_eq_true rfl) (Nat.le_of_ble_eq_true rfl) dX8_init_23 rfl ?_
  refine rK_putF (q := 28) (ty := .array .int) E hnm 2 rfl wlX8 tyX8_ok nmX8 (rv_al (rv_t1 (List.mem_of_getElem? (i := 178) rfl)) rfl) rfl rfl (Nat.le_of_ble_eq_true rfl) rfl rfl rfl (Nat.le_of_ble_eq_true rfl) dX8_init_25 rfl ?_
  refine rv_aload_n (q := 29) E.x dX8_init_28 rfl rfl ?_
  refine rv_bipush (q := 31) E.x dX8_init_29 rK_kb20 rfl ?_
  refine rK_newZ (q := 33) (N := 20) (k := 3) E (by decide) (by decide) rfl (by decide) (Nat.le_of_ble_eq_true rfl) (Nat.le_of_ble_eq_true rfl) dX8_init_31 rfl ?_
  refine rK_putF (q := 36) (ty := .array .boolean) E hnm 3 rfl wlX8 tyX8_ok nmX8 (rv_al (rv_t1 (List.mem_of_getElem? (i := 179) rfl)) rfl) rfl rfl (Nat.le_of_ble_eq_true rfl) rfl rfl rfl (Nat.le_of_ble_eq_true rfl) dX8_init_33 rfl ?_
  refine rv_aload_n (q := 37) E.x dX8_init_36 rfl rfl ?_
  refine rv_bipush (q := 39) E.x dX8_init_37 rK_kb16 rfl ?_
  refine rK_newI (q := 41) (N := 16) (k := 4) E (by decide) (by decide) rfl (by decide) (Nat.le_of_ble_eq_true rfl) (Nat.le_of_ble_eq_true rfl) dX8_init_39 rfl ?_
  refine rK_putF (q := 44) (ty := .array .int) E hnm 4 rfl wlX8 tyX8_ok nmX8 (rv_al (rv_t1 (List.mem_of_getElem? (i := 180) rfl)) rfl) rfl rfl (Nat.le_of_ble_eq_true rfl) rfl rfl rfl (Nat.le_of_ble_eq_true rfl) dX8_init_41 rfl ?_
  refine rv_aload_n (q := 45) E.x dX8_init_44 rfl rfl ?_
  refine rK_getS (q := 48) E 0 rfl wlX8 (rv_al (rv_t1 (List.mem_of_getElem? (i := 176) rfl)) rfl) (Nat.le_of_ble_eq_true rfl) rfl dX8_init_45 rfl ?_
  refine rv_iconst (q := 49) E.x dX8_init_48 rK_ki0 rfl ?_
  refine rv_bipush (q := 51) E.x dX8_init_49 rK_kb15 rfl ?_
  refine rK_iast (q := 52) (N := 20) (k := 0) E rfl (by decide) dX8_init_51 rfl ?_
  refine rv_aload_n (q := 53) E.x dX8_init_52 rfl rfl ?_
  refine rK_getS (q := 56) E 1 rfl wlX8 (rv_al (rv_t1 (List.mem_of_getElem? (i := 177) rfl)) rfl) (Nat.le_of_ble_eq_true rfl) rfl dX8_init_53 rfl ?_
  refine rv_iconst (q := 57) E.x dX8_init_56 rK_ki0 rfl ?_
  refine rv_bipush (q := 59) E.x dX8_init_57 rK_kb7 rfl ?_
  refine rK_iast (q := 60) (N := 20) (k := 1) E rfl (by decide) dX8_init_59 rfl ?_
  refine rv_aload_n (q := 61) E.x dX8_init_60 rfl rfl ?_
  refine rK_getS (q := 64) E 2 rfl wlX8 (rv_al (rv_t1 (List.mem_of_getElem? (i := 178) rfl)) rfl) (Nat.le_of_ble_eq_true rfl) rfl dX8_init_61 rfl ?_
  refine rv_iconst (q := 65) E.x dX8_init_64 rK_ki0 rfl ?_
  refine rv_bipush (q := 67) E.x dX8_init_65 rK_kb48 rfl ?_
  refine rK_iast (q := 68) (N := 20) (k := 2) E rfl (by decide) dX8_init_67 rfl ?_
  refine rv_aload_n (q := 69) E.x dX8_init_68 rfl rfl ?_
  refine rv_iconst (q := 70) E.x dX8_init_69 rK_ki1 rfl ?_
  refine rK_putN (q := 73) (ty := .int) E 6 rfl wlX8 tyX8_ok nmX8 (rv_al (rv_t1 (List.mem_of_getElem? (i := 182) rfl)) rfl) rfl (Nat.le_of_ble_eq_true rfl) rfl rfl rfl (Nat.le_of_ble_eq_true rfl) dX8_init_70 rfl ?_
  exact rK_ret hret hlk E rfl (Nat.le_of_ble_eq_true rfl) (Nat.le_of_ble_eq_true rfl) dX8_init_73
abbrev rmK_X6_init : Room := { frames := 1, cells := 3, slots := 32, locals := 24 }
def kf_X6_init (b : Nat) : List Value := [.ref (b + 1 + 0), .ref (b + 1 + 1), .ref (b + 1 + 2), .int 0]
def kw_X6_init (cI cZ cO : ClassId) (b : Nat) : List va_E := ([.inl (cI, 14, .inl (fun _ => 0)), .inl (cZ, 14, .inl (fun _ => 0)), .inl (cZ, 4, .inl (fun _ => 0))])
set_option maxRecDepth 100000 in
set_option maxHeartbeats 4000000 in
theorem kX6_init {l : Launch} {D : va_G} {cI cZ cO : ClassId} {de b : Nat} : Met l yX6_init (rv_ws yX6_init cX6_init 1 none) rmK_X6_init (va_Pc [.ref b] (rK_P D cI cZ cO de b 7 ([.null, .null, .null, .int 0], []))) (rK_Q D b 7 (kf_X6_init b, kw_X6_init cI cZ cO b)) 3 32 (fun q => b ≤ q) := by
  refine rK_met (own := RX6) rfl (by decide) rfl (Nat.le_of_ble_eq_true rfl) (fun p e s m args below meth c E hnm hret hlk => ?_)
  show rv_M _ _ p l e _ s m args below meth c 0 0 _ (some ()) 0 [some (.ref b)] [] (([.null, .null, .null, .int 0], []) : rK_mu)
  refine rv_aload_n (q := 1) E.x dX6_init_0 rfl rfl ?_
  refine rK_obj (q := 4) E (rv_al (rv_t1 (List.mem_of_getElem? (i := 204) rfl)) rfl) rfl (Nat.le_of_ble_eq_true rfl) (Nat.le_of_ble_eq_true rfl) dX6_init_1 rfl ?_
  refine rv_aload_n (q := 5) E.x dX6_init_4 rfl rfl ?_
  refine rv_bipush (q := 7) E.x dX6_init_5 rK_kb14 rfl ?_
  refine rK_newI (q := 9) (N := 14) (k := 0) E (by decide) (by decide) rfl (by decide) (Nat.le_of_ble_eq_true rfl) (Nat.le_of_ble_eq_true rfl) dX6_init_7 rfl ?_
  refine rK_putF (q := 12) (ty := .array .int) E hnm 0 rfl wlX6 tyX6_ok nmX6 (rv_al (rv_t1 (List.mem_of_getElem? (i := 205) rfl)) rfl) rfl rfl (Nat.le_of_ble_eq_true rfl) rfl rfl rfl (Nat.le_of_ble_eq_true rfl) dX6_init_9 rfl ?_
  refine rv_aload_n (q := 13) E.x dX6_init_12 rfl rfl ?_
  refine rv_bipush (q := 15) E.x dX6_init_13 rK_kb14 rfl ?_
  refine rK_newZ (q := 17) (N := 14) (k := 1) E (by decide) (by decide) rfl (by decide) (Nat.le_of_ble_eq_true rfl) (Nat.le_of_ble_eq_true rfl) dX6_init_15 rfl ?_
  refine rK_putF (q := 20) (ty := .array .boolean) E hnm 1 rfl wlX6 tyX6_ok nmX6 (rv_al (rv_t1 (List.mem_of_getElem? (i := 206) rfl)) rfl) rfl rfl (Nat.le_of_ble_eq_true rfl) rfl rfl rfl (Nat.le_of_ble_eq_true rfl) dX6_init_17 rfl ?_
  refine rv_aload_n (q := 21) E.x dX6_init_20 rfl rfl ?_
  refine rv_iconst (q := 22) E.x dX6_init_21 rK_ki4 rfl ?_
  refine rK_newZ (q := 24) (N := 4) (k := 2) E (by decide) (by decide) rfl (by decide) (Nat.le_of_ble_eq_true rfl) (Nat.le_of_ble_eq_true rfl) dX6_init_22 rfl ?_
  refine rK_putF (q := 27) (ty := .array .boolean) E hnm 2 rfl wlX6 tyX6_ok nmX6 (rv_al (rv_t1 (List.mem_of_getElem? (i := 207) rfl)) rfl) rfl rfl (Nat.le_of_ble_eq_true rfl) rfl rfl rfl (Nat.le_of_ble_eq_true rfl) dX6_init_24 rfl ?_
  exact rK_ret hret hlk E rfl (Nat.le_of_ble_eq_true rfl) (Nat.le_of_ble_eq_true rfl) dX6_init_27
abbrev rmK_X5_init : Room := { frames := 1, cells := 2, slots := 22, locals := 24 }
def kf_X5_init (b : Nat) (a1 : Nat) (a2 : Nat) (a3 : Nat) : List Value := [.ref a1, .ref a2, .ref a3, .ref (b + 1 + 0), .ref (b + 1 + 1), .int 0]
def kw_X5_init (cI cZ cO : ClassId) (b : Nat) (a1 : Nat) (a2 : Nat) (a3 : Nat) : List va_E := ([.inl (cI, 2, .inl (upd (upd (fun _ => 0) 0 1) 1 1)), .inl (cI, 20, .inl (fun _ => 0))])
set_option maxRecDepth 100000 in
set_option maxHeartbeats 4000000 in
theorem kX5_init {l : Launch} {D : va_G} {cI cZ cO : ClassId} {de b : Nat} {a1 : Nat} {a2 : Nat} {a3 : Nat} : Met l yX5_init (rv_ws yX5_init cX5_init 4 none) rmK_X5_init (va_Pc [.ref b, .ref a1, .ref a2, .ref a3] (rK_P D cI cZ cO de b 6 ([.null, .null, .null, .null, .null, .int 0], []))) (rK_Q D b 6 (kf_X5_init b a1 a2 a3, kw_X5_init cI cZ cO b a1 a2 a3)) 2 22 (fun q => b ≤ q) := by
  refine rK_met (own := RX5) rfl (by decide) rfl (Nat.le_of_ble_eq_true rfl) (fun p e s m args below meth c E hnm hret hlk => ?_)
  show rv_M _ _ p l e _ s m args below meth c 0 0 _ (some ()) 0 [some (.ref b), some (.ref a1), some (.ref a2), some (.ref a3)] [] (([.null, .null, .null, .null, .null, .int 0], []) : rK_mu)
  refine rv_aload_n (q := 1) E.x dX5_init_0 rfl rfl ?_
  refine rK_obj (q := 4) E (rv_al (rv_t2 (List.mem_of_getElem? (i := 10) rfl)) rfl) rfl (Nat.le_of_ble_eq_true rfl) (Nat.le_of_ble_eq_true rfl) dX5_init_1 rfl ?_
  refine rv_aload_n (q := 5) E.x dX5_init_4 rfl rfl ?_
  refine rv_iconst (q := 6) E.x dX5_init_5 rK_ki2 rfl ?_
  refine rK_newI (q := 8) (N := 2) (k := 0) E (by decide) (by decide) rfl (by decide) (Nat.le_of_ble_eq_true rfl) (Nat.le_of_ble_eq_true rfl) dX5_init_6 rfl ?_
  refine rv_dup (q := 9) E.x dX5_init_8 rfl rfl ?_
  refine rv_iconst (q := 10) E.x dX5_init_9 rK_ki0 rfl ?_
  refine rv_iconst (q := 11) E.x dX5_init_10 rK_ki1 rfl ?_
  refine rK_iast (q := 12) (N := 2) (k := 0) E rfl (by decide) dX5_init_11 rfl ?_
  refine rv_dup (q := 13) E.x dX5_init_12 rfl rfl ?_
  refine rv_iconst (q := 14) E.x dX5_init_13 rK_ki1 rfl ?_
  refine rv_iconst (q := 15) E.x dX5_init_14 rK_ki1 rfl ?_
  refine rK_iast (q := 16) (N := 2) (k := 0) E rfl (by decide) dX5_init_15 rfl ?_
  refine rK_putF (q := 19) (ty := .array .int) E hnm 3 rfl wlX5 tyX5_ok nmX5 (rv_al (rv_t2 (List.mem_of_getElem? (i := 14) rfl)) rfl) rfl rfl (Nat.le_of_ble_eq_true rfl) rfl rfl rfl (Nat.le_of_ble_eq_true rfl) dX5_init_16 rfl ?_
  refine rv_aload_n (q := 20) E.x dX5_init_19 rfl rfl ?_
  refine rv_bipush (q := 22) E.x dX5_init_20 rK_kb20 rfl ?_
  refine rK_newI (q := 24) (N := 20) (k := 1) E (by decide) (by decide) rfl (by decide) (Nat.le_of_ble_eq_true rfl) (Nat.le_of_ble_eq_true rfl) dX5_init_22 rfl ?_
  refine rK_putF (q := 27) (ty := .array .int) E hnm 4 rfl wlX5 tyX5_ok nmX5 (rv_al (rv_t2 (List.mem_of_getElem? (i := 15) rfl)) rfl) rfl rfl (Nat.le_of_ble_eq_true rfl) rfl rfl rfl (Nat.le_of_ble_eq_true rfl) dX5_init_24 rfl ?_
  refine rv_aload_n (q := 28) E.x dX5_init_27 rfl rfl ?_
  refine rv_aload_n (q := 29) E.x dX5_init_28 rfl rfl ?_
  refine rK_putF (q := 32) (ty := .object "ReviewForge$Store") E hnm 0 rfl wlX5 tyX5_ok nmX5 (rv_al (rv_t2 (List.mem_of_getElem? (i := 11) rfl)) rfl) rfl rfl (Nat.le_of_ble_eq_true rfl) rfl rfl rfl (Nat.le_of_ble_eq_true rfl) dX5_init_29 rfl ?_
  refine rv_aload_n (q := 33) E.x dX5_init_32 rfl rfl ?_
  refine rv_aload_n (q := 34) E.x dX5_init_33 rfl rfl ?_
  refine rK_putF (q := 37) (ty := .object "ReviewForge$Comparer") E hnm 1 rfl wlX5 tyX5_ok nmX5 (rv_al (rv_t2 (List.mem_of_getElem? (i := 12) rfl)) rfl) rfl rfl (Nat.le_of_ble_eq_true rfl) rfl rfl rfl (Nat.le_of_ble_eq_true rfl) dX5_init_34 rfl ?_
  refine rv_aload_n (q := 38) E.x dX5_init_37 rfl rfl ?_
  refine rv_aload_n (q := 39) E.x dX5_init_38 rfl rfl ?_
  refine rK_putF (q := 42) (ty := .object "java/util/ArrayList") E hnm 2 rfl wlX5 tyX5_ok nmX5 (rv_al (rv_t2 (List.mem_of_getElem? (i := 13) rfl)) rfl) rfl rfl (Nat.le_of_ble_eq_true rfl) rfl rfl rfl (Nat.le_of_ble_eq_true rfl) dX5_init_39 rfl ?_
  exact rK_ret hret hlk E rfl (Nat.le_of_ble_eq_true rfl) (Nat.le_of_ble_eq_true rfl) dX5_init_42
abbrev rmK_X7_init : Room := { frames := 1, cells := 0, slots := 0, locals := 24 }
def kf_X7_init (b : Nat) (a1 : Int32) (a2 : Int32) (a3 : Int32) (a4 : Int32) (a5 : Int32) : List Value := [.int a1, .int a2, .int a3, .int a4, .int a5]
def kw_X7_init (cI cZ cO : ClassId) (b : Nat) (a1 : Int32) (a2 : Int32) (a3 : Int32) (a4 : Int32) (a5 : Int32) : List va_E := []
set_option maxRecDepth 100000 in
set_option maxHeartbeats 4000000 in
theorem kX7_init {l : Launch} {D : va_G} {cI cZ cO : ClassId} {de b : Nat} {a1 : Int32} {a2 : Int32} {a3 : Int32} {a4 : Int32} {a5 : Int32} : Met l yX7_init (rv_ws yX7_init cX7_init 6 none) rmK_X7_init (va_Pc [.ref b, .int a1, .int a2, .int a3, .int a4, .int a5] (rK_P D cI cZ cO de b 8 ([.int 0, .int 0, .int 0, .int 0, .int 0], []))) (rK_Q D b 8 (kf_X7_init b a1 a2 a3 a4 a5, kw_X7_init cI cZ cO b a1 a2 a3 a4 a5)) 0 0 (fun q => b ≤ q) := by
  refine rK_met (own := RX7) rfl (by decide) rfl (Nat.le_of_ble_eq_true rfl) (fun p e s m args below meth c E hnm hret hlk => ?_)
  show rv_M _ _ p l e _ s m args below meth c 0 0 _ (some ()) 0 [some (.ref b), some (.int a1), some (.int a2), some (.int a3), some (.int a4), some (.int a5)] [] (([.int 0, .int 0, .int 0, .int 0, .int 0], []) : rK_mu)
  refine rv_aload_n (q := 1) E.x dX7_init_0 rfl rfl ?_
  refine rK_obj (q := 4) E (rv_al (rv_t6 (List.mem_of_getElem? (i := 28) rfl)) rfl) rfl (Nat.le_of_ble_eq_true rfl) (Nat.le_of_ble_eq_true rfl) dX7_init_1 rfl ?_
  refine rv_aload_n (q := 5) E.x dX7_init_4 rfl rfl ?_
  refine rv_iload_n (q := 6) E.x dX7_init_5 rfl rfl ?_
  refine rK_putF (q := 9) (ty := .int) E hnm 0 rfl wlX7 tyX7_ok nmX7 (rv_al (rv_t6 (List.mem_of_getElem? (i := 29) rfl)) rfl) rfl rfl (Nat.le_of_ble_eq_true rfl) rfl rfl rfl (Nat.le_of_ble_eq_true rfl) dX7_init_6 rfl ?_
  refine rv_aload_n (q := 10) E.x dX7_init_9 rfl rfl ?_
  refine rv_iload_n (q := 11) E.x dX7_init_10 rfl rfl ?_
  refine rK_putF (q := 14) (ty := .int) E hnm 1 rfl wlX7 tyX7_ok nmX7 (rv_al (rv_t6 (List.mem_of_getElem? (i := 31) rfl)) rfl) rfl rfl (Nat.le_of_ble_eq_true rfl) rfl rfl rfl (Nat.le_of_ble_eq_true rfl) dX7_init_11 rfl ?_
  refine rv_aload_n (q := 15) E.x dX7_init_14 rfl rfl ?_
  refine rv_iload_n (q := 16) E.x dX7_init_15 rfl rfl ?_
  refine rK_putF (q := 19) (ty := .int) E hnm 2 rfl wlX7 tyX7_ok nmX7 (rv_al (rv_t6 (List.mem_of_getElem? (i := 33) rfl)) rfl) rfl rfl (Nat.le_of_ble_eq_true rfl) rfl rfl rfl (Nat.le_of_ble_eq_true rfl) dX7_init_16 rfl ?_
  refine rv_aload_n (q := 20) E.x dX7_init_19 rfl rfl ?_
  refine rv_iload (q := 22) E.x dX7_init_20 rfl rfl ?_
  refine rK_putF (q := 25) (ty := .int) E hnm 3 rfl wlX7 tyX7_ok nmX7 (rv_al (rv_t6 (List.mem_of_getElem? (i := 36) rfl)) rfl) rfl rfl (Nat.le_of_ble_eq_true rfl) rfl rfl rfl (Nat.le_of_ble_eq_true rfl) dX7_init_22 rfl ?_
  refine rv_aload_n (q := 26) E.x dX7_init_25 rfl rfl ?_
  refine rv_iload (q := 28) E.x dX7_init_26 rfl rfl ?_
  refine rK_putF (q := 31) (ty := .int) E hnm 4 rfl wlX7 tyX7_ok nmX7 (rv_al (rv_t6 (List.mem_of_getElem? (i := 39) rfl)) rfl) rfl rfl (Nat.le_of_ble_eq_true rfl) rfl rfl rfl (Nat.le_of_ble_eq_true rfl) dX7_init_28 rfl ?_
  exact rK_ret hret hlk E rfl (Nat.le_of_ble_eq_true rfl) (Nat.le_of_ble_eq_true rfl) dX7_init_31
abbrev rmK_X0_init : Room := { frames := 1, cells := 1, slots := 80, locals := 24 }
def kf_X0_init (b : Nat) (a1 : Int32) (a2 : Int32) (a3 : Int32) : List Value := [.int a1, .int a2, .int a3, .ref (b + 1 + 0), .int 0, .int 0, .int 0, .int 0, .int (-1), .int 0, .int 0, .int 0, .int (-1)]
def kw_X0_init (cI cZ cO : ClassId) (b : Nat) (a1 : Int32) (a2 : Int32) (a3 : Int32) : List va_E := ([.inl (cI, 80, .inl (fun _ => 0))])
set_option maxRecDepth 100000 in
set_option maxHeartbeats 4000000 in
theorem kX0_init {l : Launch} {D : va_G} {cI cZ cO : ClassId} {de b : Nat} {a1 : Int32} {a2 : Int32} {a3 : Int32} : Met l yX0_init (rv_ws yX0_init cX0_init 4 none) rmK_X0_init (va_Pc [.ref b, .int a1, .int a2, .int a3] (rK_P D cI cZ cO de b 1 ([.int 0, .int 0, .int 0, .null, .int 0, .int 0, .int 0, .int 0, .int 0, .int 0, .int 0, .int 0, .int 0], []))) (rK_Q D b 1 (kf_X0_init b a1 a2 a3, kw_X0_init cI cZ cO b a1 a2 a3)) 1 80 (fun q => b ≤ q) := by
  refine rK_met (own := RX0) rfl (by decide) rfl (Nat.le_of_ble_eq_true rfl) (fun p e s m args below meth c E hnm hret hlk => ?_)
  show rv_M _ _ p l e _ s m args below meth c 0 0 _ (some ()) 0 [some (.ref b), some (.int a1), some (.int a2), some (.int a3)] [] (([.int 0, .int 0, .int 0, .null, .int 0, .int 0, .int 0, .int 0, .int 0, .int 0, .int 0, .int 0, .int 0], []) : rK_mu)
  refine rv_aload_n (q := 1) E.x dX0_init_0 rfl rfl ?_
  refine rK_obj (q := 4) E (rv_al (rv_t3 (List.mem_of_getElem? (i := 143) rfl)) rfl) rfl (Nat.le_of_ble_eq_true rfl) (Nat.le_of_ble_eq_true rfl) dX0_init_1 rfl ?_
  refine rv_aload_n (q := 5) E.x dX0_init_4 rfl rfl ?_
  refine rv_bipush (q := 7) E.x dX0_init_5 rK_kb80 rfl ?_
  refine rK_newI (q := 9) (N := 80) (k := 0) E (by decide) (by decide) rfl (by decide) (Nat.le_of_ble_eq_true rfl) (Nat.le_of_ble_eq_true rfl) dX0_init_7 rfl ?_
  refine rK_putF (q := 12) (ty := .array .int) E hnm 3 rfl wlX0 tyX0_ok nmX0 (rv_al (rv_t3 (List.mem_of_getElem? (i := 152) rfl)) rfl) rfl rfl (Nat.le_of_ble_eq_true rfl) rfl rfl rfl (Nat.le_of_ble_eq_true rfl) dX0_init_9 rfl ?_
  refine rv_aload_n (q := 13) E.x dX0_init_12 rfl rfl ?_
  refine rv_iconst (q := 14) E.x dX0_init_13 rK_ki0 rfl ?_
  refine rK_putN (q := 17) (ty := .int) E 5 rfl wlX0 tyX0_ok nmX0 (rv_al (rv_t3 (List.mem_of_getElem? (i := 156) rfl)) rfl) rfl (Nat.le_of_ble_eq_true rfl) rfl rfl rfl (Nat.le_of_ble_eq_true rfl) dX0_init_14 rfl ?_
  refine rv_aload_n (q := 18) E.x dX0_init_17 rfl rfl ?_
  refine rv_iconst (q := 19) E.x dX0_init_18 rK_kim1 rfl ?_
  refine rK_putN (q := 22) (ty := .int) E 8 rfl wlX0 tyX0_ok nmX0 (rv_al (rv_t3 (List.mem_of_getElem? (i := 162) rfl)) rfl) rfl (Nat.le_of_ble_eq_true rfl) rfl rfl rfl (Nat.le_of_ble_eq_true rfl) dX0_init_19 rfl ?_
  refine rv_aload_n (q := 23) E.x dX0_init_22 rfl rfl ?_
  refine rv_iconst (q := 24) E.x dX0_init_23 rK_kim1 rfl ?_
  refine rK_putN (q := 27) (ty := .int) E 12 rfl wlX0 tyX0_ok nmX0 (rv_al (rv_t3 (List.mem_of_getElem? (i := 170) rfl)) rfl) rfl (Nat.le_of_ble_eq_true rfl) rfl rfl rfl (Nat.le_of_ble_eq_true rfl) dX0_init_24 rfl ?_
  refine rv_aload_n (q := 28) E.x dX0_init_27 rfl rfl ?_
  refine rv_iload_n (q := 29) E.x dX0_init_28 rfl rfl ?_
  refine rK_putF (q := 32) (ty := .int) E hnm 0 rfl wlX0 tyX0_ok nmX0 (rv_al (rv_t3 (List.mem_of_getElem? (i := 144) rfl)) rfl) rfl rfl (Nat.le_of_ble_eq_true rfl) rfl rfl rfl (Nat.le_of_ble_eq_true rfl) dX0_init_29 rfl ?_
  refine rv_aload_n (q := 33) E.x dX0_init_32 rfl rfl ?_
  refine rv_iload_n (q := 34) E.x dX0_init_33 rfl rfl ?_
  refine rK_putF (q := 37) (ty := .int) E hnm 1 rfl wlX0 tyX0_ok nmX0 (rv_al (rv_t3 (List.mem_of_getElem? (i := 147) rfl)) rfl) rfl rfl (Nat.le_of_ble_eq_true rfl) rfl rfl rfl (Nat.le_of_ble_eq_true rfl) dX0_init_34 rfl ?_
  refine rv_aload_n (q := 38) E.x dX0_init_37 rfl rfl ?_
  refine rv_iload_n (q := 39) E.x dX0_init_38 rfl rfl ?_
  refine rK_putF (q := 42) (ty := .int) E hnm 2 rfl wlX0 tyX0_ok nmX0 (rv_al (rv_t3 (List.mem_of_getElem? (i := 149) rfl)) rfl) rfl rfl (Nat.le_of_ble_eq_true rfl) rfl rfl rfl (Nat.le_of_ble_eq_true rfl) dX0_init_39 rfl ?_
  exact rK_ret hret hlk E rfl (Nat.le_of_ble_eq_true rfl) (Nat.le_of_ble_eq_true rfl) dX0_init_42
abbrev rmK_X1_init : Room := { frames := 1, cells := 0, slots := 0, locals := 24 }
def kf_X1_init (b : Nat) (a1 : Int32) (a2 : Int32) (a3 : Bool) (a4 : Nat) : List Value := [.int a1, .int a2, .int (rv_i a3), .ref a4, .int 0]
def kw_X1_init (cI cZ cO : ClassId) (b : Nat) (a1 : Int32) (a2 : Int32) (a3 : Bool) (a4 : Nat) : List va_E := []
set_option maxRecDepth 100000 in
set_option maxHeartbeats 4000000 in
theorem kX1_init {l : Launch} {D : va_G} {cI cZ cO : ClassId} {de b : Nat} {a1 : Int32} {a2 : Int32} {a3 : Bool} {a4 : Nat} {ws0 : List va_E} : Met l yX1_init (rv_ws yX1_init cX1_init 5 none) rmK_X1_init (va_Pc [.ref b, .int a1, .int a2, .int (rv_i a3), .ref a4] (rK_P D cI cZ cO de b 2 ([.int 0, .int 0, .int 0, .null, .int 0], ws0))) (rK_Q D b 2 (kf_X1_init b a1 a2 a3 a4, ws0)) 0 0 (fun q => b ≤ q) := by
  refine rK_met (own := RX1) rfl (by decide) rfl (Nat.le_of_ble_eq_true rfl) (fun p e s m args below meth c E hnm hret hlk => ?_)
  show rv_M _ _ p l e _ s m args below meth c 0 0 _ (some ()) 0 [some (.ref b), some (.int a1), some (.int a2), some (.int (rv_i a3)), some (.ref a4)] [] (([.int 0, .int 0, .int 0, .null, .int 0], ws0) : rK_mu)
  refine rv_aload_n (q := 1) E.x dX1_init_0 rfl rfl ?_
  refine rK_obj (q := 4) E (rv_al (rv_t4 (List.mem_of_getElem? (i := 216) rfl)) rfl) rfl (Nat.le_of_ble_eq_true rfl) (Nat.le_of_ble_eq_true rfl) dX1_init_1 rfl ?_
  refine rv_aload_n (q := 5) E.x dX1_init_4 rfl rfl ?_
  refine rv_iload_n (q := 6) E.x dX1_init_5 rfl rfl ?_
  refine rK_putF (q := 9) (ty := .int) E hnm 0 rfl wlX1 tyX1_ok nmX1 (rv_al (rv_t4 (List.mem_of_getElem? (i := 217) rfl)) rfl) rfl rfl (Nat.le_of_ble_eq_true rfl) rfl rfl rfl (Nat.le_of_ble_eq_true rfl) dX1_init_6 rfl ?_
  refine rv_aload_n (q := 10) E.x dX1_init_9 rfl rfl ?_
  refine rv_iload_n (q := 11) E.x dX1_init_10 rfl rfl ?_
  refine rK_putF (q := 14) (ty := .int) E hnm 1 rfl wlX1 tyX1_ok nmX1 (rv_al (rv_t4 (List.mem_of_getElem? (i := 219) rfl)) rfl) rfl rfl (Nat.le_of_ble_eq_true rfl) rfl rfl rfl (Nat.le_of_ble_eq_true rfl) dX1_init_11 rfl ?_
  refine rv_aload_n (q := 15) E.x dX1_init_14 rfl rfl ?_
  refine rv_iload_n (q := 16) E.x dX1_init_15 rfl rfl ?_
  refine rK_putF (q := 19) (ty := .boolean) E hnm 2 rfl wlX1 tyX1_ok nmX1 (rv_al (rv_t4 (List.mem_of_getElem? (i := 221) rfl)) rfl) rfl rfl (Nat.le_of_ble_eq_true rfl) rfl rv_i_nar (by cases a3 <;> rfl) (Nat.le_of_ble_eq_true rfl) dX1_init_16 rfl ?_
  refine rv_aload_n (q := 20) E.x dX1_init_19 rfl rfl ?_
  refine rv_aload (q := 22) E.x dX1_init_20 rfl rfl ?_
  refine rK_putF (q := 25) (ty := .object "ReviewForge$Place") E hnm 3 rfl wlX1 tyX1_ok nmX1 (rv_al (rv_t4 (List.mem_of_getElem? (i := 223) rfl)) rfl) rfl rfl (Nat.le_of_ble_eq_true rfl) rfl rfl rfl (Nat.le_of_ble_eq_true rfl) dX1_init_22 rfl ?_
  exact rK_ret hret hlk E rfl (Nat.le_of_ble_eq_true rfl) (Nat.le_of_ble_eq_true rfl) dX1_init_25
abbrev rmK_X4_init : Room := { frames := 1, cells := 0, slots := 0, locals := 24 }
def kf_X4_init (b : Nat) (a1 : Int32) (a2 : Int32) (a3 : Nat) : List Value := [.int a1, .int a2, .ref a3]
def kw_X4_init (cI cZ cO : ClassId) (b : Nat) (a1 : Int32) (a2 : Int32) (a3 : Nat) : List va_E := []
set_option maxRecDepth 100000 in
set_option maxHeartbeats 4000000 in
theorem kX4_init {l : Launch} {D : va_G} {cI cZ cO : ClassId} {de b : Nat} {a1 : Int32} {a2 : Int32} {a3 : Nat} {ws0 : List va_E} : Met l yX4_init (rv_ws yX4_init cX4_init 4 none) rmK_X4_init (va_Pc [.ref b, .int a1, .int a2, .ref a3] (rK_P D cI cZ cO de b 5 ([.int 0, .int 0, .null], ws0))) (rK_Q D b 5 (kf_X4_init b a1 a2 a3, ws0)) 0 0 (fun q => b ≤ q) := by
  refine rK_met (own := RX4) rfl (by decide) rfl (Nat.le_of_ble_eq_true rfl) (fun p e s m args below meth c E hnm hret hlk => ?_)
  show rv_M _ _ p l e _ s m args below meth c 0 0 _ (some ()) 0 [some (.ref b), some (.int a1), some (.int a2), some (.ref a3)] [] (([.int 0, .int 0, .null], ws0) : rK_mu)
  refine rv_aload_n (q := 1) E.x dX4_init_0 rfl rfl ?_
  refine rK_obj (q := 4) E (rv_al (rv_t6 (List.mem_of_getElem? (i := 213) rfl)) rfl) rfl (Nat.le_of_ble_eq_true rfl) (Nat.le_of_ble_eq_true rfl) dX4_init_1 rfl ?_
  refine rv_aload_n (q := 5) E.x dX4_init_4 rfl rfl ?_
  refine rv_iload_n (q := 6) E.x dX4_init_5 rfl rfl ?_
  refine rK_putF (q := 9) (ty := .int) E hnm 0 rfl wlX4 tyX4_ok nmX4 (rv_al (rv_t6 (List.mem_of_getElem? (i := 214) rfl)) rfl) rfl rfl (Nat.le_of_ble_eq_true rfl) rfl rfl rfl (Nat.le_of_ble_eq_true rfl) dX4_init_6 rfl ?_
  refine rv_aload_n (q := 10) E.x dX4_init_9 rfl rfl ?_
  refine rv_iload_n (q := 11) E.x dX4_init_10 rfl rfl ?_
  refine rK_putF (q := 14) (ty := .int) E hnm 1 rfl wlX4 tyX4_ok nmX4 (rv_al (rv_t6 (List.mem_of_getElem? (i := 216) rfl)) rfl) rfl rfl (Nat.le_of_ble_eq_true rfl) rfl rfl rfl (Nat.le_of_ble_eq_true rfl) dX4_init_11 rfl ?_
  refine rv_aload_n (q := 15) E.x dX4_init_14 rfl rfl ?_
  refine rv_aload_n (q := 16) E.x dX4_init_15 rfl rfl ?_
  refine rK_putF (q := 19) (ty := .object "ReviewForge$Place") E hnm 2 rfl wlX4 tyX4_ok nmX4 (rv_al (rv_t6 (List.mem_of_getElem? (i := 218) rfl)) rfl) rfl rfl (Nat.le_of_ble_eq_true rfl) rfl rfl rfl (Nat.le_of_ble_eq_true rfl) dX4_init_16 rfl ?_
  exact rK_ret hret hlk E rfl (Nat.le_of_ble_eq_true rfl) (Nat.le_of_ble_eq_true rfl) dX4_init_19
abbrev rmK_X11_init : Room := { frames := 4, cells := 52, slots := 5713, locals := 84 }
def kf_X11_init (b : Nat) : List Value := [.ref (b + 1 + 0), .ref (b + 1 + 11), .ref (b + 1 + 31), .ref (b + 1 + 34), .ref (b + 1 + 40), .ref (b + 1 + 44), .ref (b + 1 + 45), .ref (b + 1 + 46), .ref (b + 1 + 47), .ref (b + 1 + 50), .ref (b + 1 + 51), .int 0]
def kw_X11_init (cI cZ cO : ClassId) (de : Nat) (b : Nat) : List va_E := [.inr (10, kf_X9_init (b + 1 + 0))] ++ ((kw_X9_init cI cZ cO (b + 1 + 0)) ++ ([.inr (3, kf_X2_init (b + 1 + 11) (b + 1 + 0))] ++ ((kw_X2_init cI cZ cO (b + 1 + 11) (b + 1 + 0)) ++ ([.inr (11, kf_X10_init (b + 1 + 31) (b + 1 + 0))] ++ ((kw_X10_init cI cZ cO (b + 1 + 31) (b + 1 + 0)) ++ ([.inr (9, kf_X8_init (b + 1 + 34))] ++ ((kw_X8_init cI cZ cO (b + 1 + 34)) ++ ([.inr (7, kf_X6_init (b + 1 + 40))] ++ ((kw_X6_init cI cZ cO (b + 1 + 40)) ++ ([.inr (0, kf_Jx4a65c_init_da8c8 de (b + 1 + 44)), .inr (0, kf_Jx4a65c_init_da8c8 de (b + 1 + 45)), .inr (0, kf_Jx4a65c_init_da8c8 de (b + 1 + 46)), .inr (6, kf_X5_init (b + 1 + 47) (b + 1 + 0) (b + 1 + 11) (b + 1 + 44))] ++ ((kw_X5_init cI cZ cO (b + 1 + 47) (b + 1 + 0) (b + 1 + 11) (b + 1 + 44)) ++ ([.inl (cI, 2, .inl (fun _ => 0)), .inl (cI, 6, .inl (fun _ => 0))]))))))))))))
set_option maxRecDepth 100000 in
set_option maxHeartbeats 4000000 in
theorem kX11_init {l : Launch} {D : va_G} {cI cZ cO : ClassId} {de b : Nat} : Met l yX11_init (rv_ws yX11_init cX11_init 1 none) rmK_X11_init (va_Pc [.ref b] (rK_P D cI cZ cO de b 12 ([.null, .null, .null, .null, .null, .null, .null, .null, .null, .null, .null, .int 0], []))) (rK_Q D b 12 (kf_X11_init b, kw_X11_init cI cZ cO de b)) 52 5713 (fun q => b ≤ q) := by
  refine rK_met (own := RX11) rfl (by decide) rfl (Nat.le_of_ble_eq_true rfl) (fun p e s m args below meth c E hnm hret hlk => ?_)
  show rv_M _ _ p l e _ s m args below meth c 0 0 _ (some ()) 0 [some (.ref b)] [] (([.null, .null, .null, .null, .null, .null, .null, .null, .null, .null, .null, .int 0], []) : rK_mu)
  refine rv_aload_n (q := 1) E.x dX11_init_0 rfl rfl ?_
  refine rK_obj (q := 4) E (rv_al (rv_t1 (List.mem_of_getElem? (i := 34) rfl)) rfl) rfl (Nat.le_of_ble_eq_true rfl) (Nat.le_of_ble_eq_true rfl) dX11_init_1 rfl ?_
  refine rv_aload_n (q := 5) E.x dX11_init_4 rfl rfl ?_
  refine rK_new (q := 8) (N := 11) (k := 0) (ci2 := 10) (f2 := [.null, .null, .null, .null, .null, .null, .null, .null, .null, .null, .int 0]) E rfl wlX9 tyX9_ok (rv_al (rv_t1 (List.mem_of_getElem? (i := 37) rfl)) rfl) (rv_al (rv_t1 (List.mem_of_getElem? (i := 38) rfl)) rfl) (rv_al (rv_t1 (List.mem_of_getElem? (i := 2) rfl)) rfl) (fun j hj => (match j, hj with | 0, _ => rfl | 1, _ => rfl | 2, _ => rfl | 3, _ => rfl | 4, _ => rfl | 5, _ => rfl | 6, _ => rfl | 7, _ => rfl | 8, _ => rfl | 9, _ => rfl | 10, _ => rfl | j + 11, h => absurd h (by omega))) rfl (Nat.le_of_ble_eq_true rfl) (Nat.le_of_ble_eq_true rfl) dX11_init_5 rfl ?_
  refine rv_dup (q := 9) E.x dX11_init_8 rfl rfl ?_
  refine rK_callL (host := "") (n := 0) (q := 12) (k := 0) (As := []) (rest := [.ref (b + 1 + 0), .ref b]) E kX9_init (rv_al (rv_t1 (List.mem_of_getElem? (i := 41) rfl)) rfl) (rv_al (rv_t1 (List.mem_of_getElem? (i := 39) rfl)) rfl) (rv_al (rv_t1 (List.mem_of_getElem? (i := 2) rfl)) rfl) (rv_al (rv_t1 (List.mem_of_getElem? (i := 40) rfl)) rfl) rfl ⟨rfl, rfl⟩ (by decide +kernel) ⟨Nat.le_of_ble_eq_true rfl, Nat.le_of_ble_eq_true rfl⟩ rfl rfl rfl rfl (Nat.le_of_ble_eq_true rfl) ⟨Nat.le_of_ble_eq_true rfl, Nat.le_of_ble_eq_true rfl⟩ dX11_init_9 rfl ?_
  refine rK_putF (q := 15) (ty := .object "ReviewForge$Store") E hnm 0 rfl wlX11 tyX11_ok nmX11 (rv_al (rv_t2 (List.mem_of_getElem? (i := 30) rfl)) rfl) rfl rfl (Nat.le_of_ble_eq_true rfl) rfl rfl rfl (Nat.le_of_ble_eq_true rfl) dX11_init_12 rfl ?_
  refine rv_aload_n (q := 16) E.x dX11_init_15 rfl rfl ?_
  refine rK_new (q := 19) (N := 4) (k := 11) (ci2 := 3) (f2 := [.null, .null, .null, .null]) E rfl wlX2 tyX2_ok (rv_al (rv_t1 (List.mem_of_getElem? (i := 85) rfl)) rfl) (rv_al (rv_t1 (List.mem_of_getElem? (i := 86) rfl)) rfl) (rv_al (rv_t1 (List.mem_of_getElem? (i := 4) rfl)) rfl) (fun j hj => (match j, hj with | 0, _ => rfl | 1, _ => rfl | 2, _ => rfl | 3, _ => rfl | j + 4, h => absurd h (by omega))) rfl (Nat.le_of_ble_eq_true rfl) (Nat.le_of_ble_eq_true rfl) dX11_init_16 rfl ?_
  refine rv_dup (q := 20) E.x dX11_init_19 rfl rfl ?_
  refine rv_aload_n (q := 21) E.x dX11_init_20 rfl rfl ?_
  refine rK_getS (q := 24) E 0 rfl wlX11 (rv_al (rv_t2 (List.mem_of_getElem? (i := 30) rfl)) rfl) (Nat.le_of_ble_eq_true rfl) rfl dX11_init_21 rfl ?_
  refine rK_callL (host := "") (n := 1) (q := 27) (k := 11) (As := [.ref (b + 1 + 0)]) (rest := [.ref (b + 1 + 11), .ref b]) E kX2_init (rv_al (rv_t1 (List.mem_of_getElem? (i := 89) rfl)) rfl) (rv_al (rv_t1 (List.mem_of_getElem? (i := 87) rfl)) rfl) (rv_al (rv_t1 (List.mem_of_getElem? (i := 4) rfl)) rfl) (rv_al (rv_t1 (List.mem_of_getElem? (i := 88) rfl)) rfl) rfl ⟨rfl, rfl⟩ (by decide +kernel) ⟨Nat.le_of_ble_eq_true rfl, Nat.le_of_ble_eq_true rfl⟩ rfl rfl rfl rfl (Nat.le_of_ble_eq_true rfl) ⟨Nat.le_of_ble_eq_true rfl, Nat.le_of_ble_eq_true rfl⟩ dX11_init_24 rfl ?_
  refine rK_putF (q := 30) (ty := .object "ReviewForge$Comparer") E hnm 1 rfl wlX11 tyX11_ok nmX11 (rv_al (rv_t2 (List.mem_of_getElem? (i := 31) rfl)) rfl) rfl rfl (Nat.le_of_ble_eq_true rfl) rfl rfl rfl (Nat.le_of_ble_eq_true rfl) dX11_init_27 rfl ?_
  refine rv_aload_n (q := 31) E.x dX11_init_30 rfl rfl ?_
  refine rK_new (q := 34) (N := 3) (k := 31) (ci2 := 11) (f2 := [.null, .null, .null]) E rfl wlX10 tyX10_ok (rv_al (rv_t1 (List.mem_of_getElem? (i := 153) rfl)) rfl) (rv_al (rv_t1 (List.mem_of_getElem? (i := 154) rfl)) rfl) (rv_al (rv_t1 (List.mem_of_getElem? (i := 6) rfl)) rfl) (fun j hj => (match j, hj with | 0, _ => rfl | 1, _ => rfl | 2, _ => rfl | j + 3, h => absurd h (by omega))) rfl (Nat.le_of_ble_eq_true rfl) (Nat.le_of_ble_eq_true rfl) dX11_init_31 rfl ?_
  refine rv_dup (q := 35) E.x dX11_init_34 rfl rfl ?_
  refine rv_aload_n (q := 36) E.x dX11_init_35 rfl rfl ?_
  refine rK_getS (q := 39) E 0 rfl wlX11 (rv_al (rv_t2 (List.mem_of_getElem? (i := 30) rfl)) rfl) (Nat.le_of_ble_eq_true rfl) rfl dX11_init_36 rfl ?_
  refine rK_callL (host := "") (n := 1) (q := 42) (k := 31) (As := [.ref (b + 1 + 0)]) (rest := [.ref (b + 1 + 31), .ref b]) E kX10_init (rv_al (rv_t1 (List.mem_of_getElem? (i := 157) rfl)) rfl) (rv_al (rv_t1 (List.mem_of_getElem? (i := 155) rfl)) rfl) (rv_al (rv_t1 (List.mem_of_getElem? (i := 6) rfl)) rfl) (rv_al (rv_t1 (List.mem_of_getElem? (i := 156) rfl)) rfl) rfl ⟨rfl, rfl⟩ (by decide +kernel) ⟨Nat.le_of_ble_eq_true rfl, Nat.le_of_ble_eq_true rfl⟩ rfl rfl rfl rfl (Nat.le_of_ble_eq_true rfl) ⟨Nat.le_of_ble_eq_true rfl, Nat.le_of_ble_eq_true rfl⟩ dX11_init_39 rfl ?_
  refine rK_putF (q := 45) (ty := .object "ReviewForge$Votes") E hnm 2 rfl wlX11 tyX11_ok nmX11 (rv_al (rv_t2 (List.mem_of_getElem? (i := 32) rfl)) rfl) rfl rfl (Nat.le_of_ble_eq_true rfl) rfl rfl rfl (Nat.le_of_ble_eq_true rfl) dX11_init_42 rfl ?_
  refine rv_aload_n (q := 46) E.x dX11_init_45 rfl rfl ?_
  refine rK_new (q := 49) (N := 7) (k := 34) (ci2 := 9) (f2 := [.null, .null, .null, .null, .null, .int 0, .int 0]) E rfl wlX8 tyX8_ok (rv_al (rv_t1 (List.mem_of_getElem? (i := 170) rfl)) rfl) (rv_al (rv_t1 (List.mem_of_getElem? (i := 171) rfl)) rfl) (rv_al (rv_t1 (List.mem_of_getElem? (i := 7) rfl)) rfl) (fun j hj => (match j, hj with | 0, _ => rfl | 1, _ => rfl | 2, _ => rfl | 3, _ => rfl | 4, _ => rfl | 5, _ => rfl | 6, _ => rfl | j + 7, h => absurd h (by omega))) rfl (Nat.le_of_ble_eq_true rfl) (Nat.le_of_ble_eq_true rfl) dX11_init_46 rfl ?_
  refine rv_dup (q := 50) E.x dX11_init_49 rfl rfl ?_
  refine rK_callL (host := "") (n := 0) (q := 53) (k := 34) (As := []) (rest := [.ref (b + 1 + 34), .ref b]) E kX8_init (rv_al (rv_t1 (List.mem_of_getElem? (i := 174) rfl)) rfl) (rv_al (rv_t1 (List.mem_of_getElem? (i := 172) rfl)) rfl) (rv_al (rv_t1 (List.mem_of_getElem? (i := 7) rfl)) rfl) (rv_al (rv_t1 (List.mem_of_getElem? (i := 173) rfl)) rfl) rfl ⟨rfl, rfl⟩ (by decide +kernel) ⟨Nat.le_of_ble_eq_true rfl, Nat.le_of_ble_eq_true rfl⟩ rfl rfl rfl rfl (Nat.le_of_ble_eq_true rfl) ⟨Nat.le_of_ble_eq_true rfl, Nat.le_of_ble_eq_true rfl⟩ dX11_init_50 rfl ?_
  refine rK_putF (q := 56) (ty := .object "ReviewForge$Rules") E hnm 3 rfl wlX11 tyX11_ok nmX11 (rv_al (rv_t2 (List.mem_of_getElem? (i := 33) rfl)) rfl) rfl rfl (Nat.le_of_ble_eq_true rfl) rfl rfl rfl (Nat.le_of_ble_eq_true rfl) dX11_init_53 rfl ?_
  refine rv_aload_n (q := 57) E.x dX11_init_56 rfl rfl ?_
  refine rK_new (q := 60) (N := 4) (k := 40) (ci2 := 7) (f2 := [.null, .null, .null, .int 0]) E rfl wlX6 tyX6_ok (rv_al (rv_t1 (List.mem_of_getElem? (i := 199) rfl)) rfl) (rv_al (rv_t1 (List.mem_of_getElem? (i := 200) rfl)) rfl) (rv_al (rv_t1 (List.mem_of_getElem? (i := 8) rfl)) rfl) (fun j hj => (match j, hj with | 0, _ => rfl | 1, _ => rfl | 2, _ => rfl | 3, _ => rfl | j + 4, h => absurd h (by omega))) rfl (Nat.le_of_ble_eq_true rfl) (Nat.le_of_ble_eq_true rfl) dX11_init_57 rfl ?_
  refine rv_dup (q := 61) E.x dX11_init_60 rfl rfl ?_
  refine rK_callLn (n := 0) (q := 64) (k := 40) (As := []) (rest := [.ref (b + 1 + 40), .ref b]) E kX6_init (rv_al (rv_t1 (List.mem_of_getElem? (i := 203) rfl)) rfl) E.2.1.2.2.2 (rv_al (rv_t1 (List.mem_of_getElem? (i := 8) rfl)) rfl) (rv_al (rv_t1 (List.mem_of_getElem? (i := 202) rfl)) rfl) rfl ⟨rfl, rfl⟩ (by decide +kernel) ⟨Nat.le_of_ble_eq_true rfl, Nat.le_of_ble_eq_true rfl⟩ rfl rfl rfl rfl (Nat.le_of_ble_eq_true rfl) ⟨Nat.le_of_ble_eq_true rfl, Nat.le_of_ble_eq_true rfl⟩ dX11_init_61 rfl ?_
  refine rK_putF (q := 67) (ty := .object "ReviewForge$OwnerLists") E hnm 4 rfl wlX11 tyX11_ok nmX11 (rv_al (rv_t2 (List.mem_of_getElem? (i := 34) rfl)) rfl) rfl rfl (Nat.le_of_ble_eq_true rfl) rfl rfl rfl (Nat.le_of_ble_eq_true rfl) dX11_init_64 rfl ?_
  refine rv_aload_n (q := 68) E.x dX11_init_67 rfl rfl ?_
  refine rK_new (q := 71) (N := 3) (k := 44) (ci2 := 0) (f2 := [.int 0, .null, .int 0]) E rfl wlJL tyJx4a65c_ok (rv_al (rv_t1 (List.mem_of_getElem? (i := 219) rfl)) rfl) (rv_al (rv_t1 (List.mem_of_getElem? (i := 220) rfl)) rfl) (rv_al (rv_t1 (List.mem_of_getElem? (i := 11) rfl)) rfl) (fun j hj => (match j, hj with | 0, _ => rfl | 1, _ => rfl | 2, _ => rfl | j + 3, h => absurd h (by omega))) rfl (Nat.le_of_ble_eq_true rfl) (Nat.le_of_ble_eq_true rfl) dX11_init_68 rfl ?_
  refine rv_dup (q := 72) E.x dX11_init_71 rfl rfl ?_
  refine rK_callL (host := "") (n := 0) (q := 75) (k := 44) (As := []) (rest := [.ref (b + 1 + 44), .ref b]) E kJx4a65c_init_da8c8 (rv_al (rv_t1 (List.mem_of_getElem? (i := 223) rfl)) rfl) (rv_al (rv_t1 (List.mem_of_getElem? (i := 221) rfl)) rfl) (rv_al (rv_t1 (List.mem_of_getElem? (i := 11) rfl)) rfl) (rv_al (rv_t1 (List.mem_of_getElem? (i := 222) rfl)) rfl) rfl ⟨rfl, rfl⟩ (by decide +kernel) ⟨Nat.le_of_ble_eq_true rfl, Nat.le_of_ble_eq_true rfl⟩ rfl rfl rfl rfl (Nat.le_of_ble_eq_true rfl) ⟨Nat.le_of_ble_eq_true rfl, Nat.le_of_ble_eq_true rfl⟩ dX11_init_72 rfl ?_
  refine rK_putF (q := 78) (ty := .object "java/util/ArrayList") E hnm 5 rfl wlX11 tyX11_ok nmX11 (rv_al (rv_t2 (List.mem_of_getElem? (i := 35) rfl)) rfl) rfl rfl (Nat.le_of_ble_eq_true rfl) rfl rfl rfl (Nat.le_of_ble_eq_true rfl) dX11_init_75 rfl ?_
  refine rv_aload_n (q := 79) E.x dX11_init_78 rfl rfl ?_
  refine rK_new (q := 82) (N := 3) (k := 45) (ci2 := 0) (f2 := [.int 0, .null, .int 0]) E rfl wlJL tyJx4a65c_ok (rv_al (rv_t1 (List.mem_of_getElem? (i := 219) rfl)) rfl) (rv_al (rv_t1 (List.mem_of_getElem? (i := 220) rfl)) rfl) (rv_al (rv_t1 (List.mem_of_getElem? (i := 11) rfl)) rfl) (fun j hj => (match j, hj with | 0, _ => rfl | 1, _ => rfl | 2, _ => rfl | j + 3, h => absurd h (by omega))) rfl (Nat.le_of_ble_eq_true rfl) (Nat.le_of_ble_eq_true rfl) dX11_init_79 rfl ?_
  refine rv_dup (q := 83) E.x dX11_init_82 rfl rfl ?_
  refine rK_callL (host := "") (n := 0) (q := 86) (k := 45) (As := []) (rest := [.ref (b + 1 + 45), .ref b]) E kJx4a65c_init_da8c8 (rv_al (rv_t1 (List.mem_of_getElem? (i := 223) rfl)) rfl) (rv_al (rv_t1 (List.mem_of_getElem? (i := 221) rfl)) rfl) (rv_al (rv_t1 (List.mem_of_getElem? (i := 11) rfl)) rfl) (rv_al (rv_t1 (List.mem_of_getElem? (i := 222) rfl)) rfl) rfl ⟨rfl, rfl⟩ (by decide +kernel) ⟨Nat.le_of_ble_eq_true rfl, Nat.le_of_ble_eq_true rfl⟩ rfl rfl rfl rfl (Nat.le_of_ble_eq_true rfl) ⟨Nat.le_of_ble_eq_true rfl, Nat.le_of_ble_eq_true rfl⟩ dX11_init_83 rfl ?_
  refine rK_putF (q := 89) (ty := .object "java/util/ArrayList") E hnm 6 rfl wlX11 tyX11_ok nmX11 (rv_al (rv_t2 (List.mem_of_getElem? (i := 36) rfl)) rfl) rfl rfl (Nat.le_of_ble_eq_true rfl) rfl rfl rfl (Nat.le_of_ble_eq_true rfl) dX11_init_86 rfl ?_
  refine rv_aload_n (q := 90) E.x dX11_init_89 rfl rfl ?_
  refine rK_new (q := 93) (N := 3) (k := 46) (ci2 := 0) (f2 := [.int 0, .null, .int 0]) E rfl wlJL tyJx4a65c_ok (rv_al (rv_t1 (List.mem_of_getElem? (i := 219) rfl)) rfl) (rv_al (rv_t1 (List.mem_of_getElem? (i := 220) rfl)) rfl) (rv_al (rv_t1 (List.mem_of_getElem? (i := 11) rfl)) rfl) (fun j hj => (match j, hj with | 0, _ => rfl | 1, _ => rfl | 2, _ => rfl | j + 3, h => absurd h (by omega))) rfl (Nat.le_of_ble_eq_true rfl) (Nat.le_of_ble_eq_true rfl) dX11_init_90 rfl ?_
  refine rv_dup (q := 94) E.x dX11_init_93 rfl rfl ?_
  refine rK_callL (host := "") (n := 0) (q := 97) (k := 46) (As := []) (rest := [.ref (b + 1 + 46), .ref b]) E kJx4a65c_init_da8c8 (rv_al (rv_t1 (List.mem_of_getElem? (i := 223) rfl)) rfl) (rv_al (rv_t1 (List.mem_of_getElem? (i := 221) rfl)) rfl) (rv_al (rv_t1 (List.mem_of_getElem? (i := 11) rfl)) rfl) (rv_al (rv_t1 (List.mem_of_getElem? (i := 222) rfl)) rfl) rfl ⟨rfl, rfl⟩ (by decide +kernel) ⟨Nat.le_of_ble_eq_true rfl, Nat.le_of_ble_eq_true rfl⟩ rfl rfl rfl rfl (Nat.le_of_ble_eq_true rfl) ⟨Nat.le_of_ble_eq_true rfl, Nat.le_of_ble_eq_true rfl⟩ dX11_init_94 rfl ?_
  refine rK_putF (q := 100) (ty := .object "java/util/ArrayList") E hnm 7 rfl wlX11 tyX11_ok nmX11 (rv_al (rv_t2 (List.mem_of_getElem? (i := 37) rfl)) rfl) rfl rfl (Nat.le_of_ble_eq_true rfl) rfl rfl rfl (Nat.le_of_ble_eq_true rfl) dX11_init_97 rfl ?_
  refine rv_aload_n (q := 101) E.x dX11_init_100 rfl rfl ?_
  refine rK_new (q := 104) (N := 6) (k := 47) (ci2 := 6) (f2 := [.null, .null, .null, .null, .null, .int 0]) E rfl wlX5 tyX5_ok (rv_al (rv_t2 (List.mem_of_getElem? (i := 5) rfl)) rfl) (rv_al (rv_t2 (List.mem_of_getElem? (i := 6) rfl)) rfl) (rv_al (rv_t1 (List.mem_of_getElem? (i := 12) rfl)) rfl) (fun j hj => (match j, hj with | 0, _ => rfl | 1, _ => rfl | 2, _ => rfl | 3, _ => rfl | 4, _ => rfl | 5, _ => rfl | j + 6, h => absurd h (by omega))) rfl (Nat.le_of_ble_eq_true rfl) (Nat.le_of_ble_eq_true rfl) dX11_init_101 rfl ?_
  refine rv_dup (q := 105) E.x dX11_init_104 rfl rfl ?_
  refine rv_aload_n (q := 106) E.x dX11_init_105 rfl rfl ?_
  refine rK_getS (q := 109) E 0 rfl wlX11 (rv_al (rv_t2 (List.mem_of_getElem? (i := 30) rfl)) rfl) (Nat.le_of_ble_eq_true rfl) rfl dX11_init_106 rfl ?_
  refine rv_aload_n (q := 110) E.x dX11_init_109 rfl rfl ?_
  refine rK_getS (q := 113) E 1 rfl wlX11 (rv_al (rv_t2 (List.mem_of_getElem? (i := 31) rfl)) rfl) (Nat.le_of_ble_eq_true rfl) rfl dX11_init_110 rfl ?_
  refine rv_aload_n (q := 114) E.x dX11_init_113 rfl rfl ?_
  refine rK_getS (q := 117) E 5 rfl wlX11 (rv_al (rv_t2 (List.mem_of_getElem? (i := 35) rfl)) rfl) (Nat.le_of_ble_eq_true rfl) rfl dX11_init_114 rfl ?_
  refine rK_callL (host := "") (n := 3) (q := 120) (k := 47) (As := [.ref (b + 1 + 0), .ref (b + 1 + 11), .ref (b + 1 + 44)]) (rest := [.ref (b + 1 + 47), .ref b]) E kX5_init (rv_al (rv_t2 (List.mem_of_getElem? (i := 9) rfl)) rfl) (rv_al (rv_t2 (List.mem_of_getElem? (i := 7) rfl)) rfl) (rv_al (rv_t1 (List.mem_of_getElem? (i := 12) rfl)) rfl) (rv_al (rv_t2 (List.mem_of_getElem? (i := 8) rfl)) rfl) rfl ⟨rfl, rfl⟩ (by decide +kernel) ⟨Nat.le_of_ble_eq_true rfl, Nat.le_of_ble_eq_true rfl⟩ rfl rfl rfl rfl (Nat.le_of_ble_eq_true rfl) ⟨Nat.le_of_ble_eq_true rfl, Nat.le_of_ble_eq_true rfl⟩ dX11_init_117 rfl ?_
  refine rK_putF (q := 123) (ty := .object "ReviewForge$Landing") E hnm 8 rfl wlX11 tyX11_ok nmX11 (rv_al (rv_t2 (List.mem_of_getElem? (i := 38) rfl)) rfl) rfl rfl (Nat.le_of_ble_eq_true rfl) rfl rfl rfl (Nat.le_of_ble_eq_true rfl) dX11_init_120 rfl ?_
  refine rv_aload_n (q := 124) E.x dX11_init_123 rfl rfl ?_
  refine rv_iconst (q := 125) E.x dX11_init_124 rK_ki2 rfl ?_
  refine rK_newI (q := 127) (N := 2) (k := 50) E (by decide) (by decide) rfl (by decide) (Nat.le_of_ble_eq_true rfl) (Nat.le_of_ble_eq_true rfl) dX11_init_125 rfl ?_
  refine rK_putF (q := 130) (ty := .array .int) E hnm 9 rfl wlX11 tyX11_ok nmX11 (rv_al (rv_t2 (List.mem_of_getElem? (i := 39) rfl)) rfl) rfl rfl (Nat.le_of_ble_eq_true rfl) rfl rfl rfl (Nat.le_of_ble_eq_true rfl) dX11_init_127 rfl ?_
  refine rv_aload_n (q := 131) E.x dX11_init_130 rfl rfl ?_
  refine rv_bipush (q := 133) E.x dX11_init_131 rK_kb6 rfl ?_
  refine rK_newI (q := 135) (N := 6) (k := 51) E (by decide) (by decide) rfl (by decide) (Nat.le_of_ble_eq_true rfl) (Nat.le_of_ble_eq_true rfl) dX11_init_133 rfl ?_
  refine rK_putF (q := 138) (ty := .array .int) E hnm 10 rfl wlX11 tyX11_ok nmX11 (rv_al (rv_t2 (List.mem_of_getElem? (i := 40) rfl)) rfl) rfl rfl (Nat.le_of_ble_eq_true rfl) rfl rfl rfl (Nat.le_of_ble_eq_true rfl) dX11_init_135 rfl ?_
  refine rv_aload_n (q := 139) E.x dX11_init_138 rfl rfl ?_
  refine rv_iconst (q := 140) E.x dX11_init_139 rK_ki0 rfl ?_
  refine rK_putN (q := 143) (ty := .int) E 11 rfl wlX11 tyX11_ok nmX11 (rv_al (rv_t2 (List.mem_of_getElem? (i := 41) rfl)) rfl) rfl (Nat.le_of_ble_eq_true rfl) rfl rfl rfl (Nat.le_of_ble_eq_true rfl) dX11_init_140 rfl ?_
  exact rK_ret hret hlk E rfl (Nat.le_of_ble_eq_true rfl) (Nat.le_of_ble_eq_true rfl) dX11_init_143
