abbrev rm12_thrown : Room := { frames := 0, cells := 0, slots := 0, locals := 0 }
set_option maxRecDepth 100000 in
theorem b12_thrown {p : Program} {l : Launch} {e : Env} {s : State} {m : MethodId} {args : Array Value} {below : List Frame} {meth : Method} {c : Code} {D : va_G} {cI cZ : ClassId} {ad : Nat → Nat} (E : rR_E D cI cZ ad cX12_thrown 1 (some .int) p s m args meth c) (M : rv_Mem)  : rv_M (rR_G D cI cZ ad) (rR_A ad) p l e rm12_thrown s m args below meth c 0 0  (rR_qI D cI cZ ad below args s M) (f12_thrown M) 0 [some (.ref (ad 67))] [] M := by
  unfold f12_thrown
  refine rv_aload_n (q := 1) E.x dX12_thrown_0 rfl rfl ?_
  refine rR_get (q := 4) E 66 wf12_66 rfl (Nat.le_of_ble_eq_true rfl) rfl dX12_thrown_1 rfl ?_
  exact rR_iret E rfl dX12_thrown_4
theorem c12_thrown {l : Launch} {D : va_G} {cI cZ : ClassId} {ad : Nat → Nat} (hI : rR_I ad) {M : rv_Mem} {r : Int32} (h : f12_thrown M = some r) : Met l yX12_thrown (rv_ws yX12_thrown cX12_thrown 1 (some .int)) rm12_thrown (rR_Pc D cI cZ ad [.ref (ad 67)] M) (rR_QI D cI cZ ad r M) 0 0 (rR_A ad) := rR_met hI rfl (rv_cat rfl) (Nat.le_of_ble_eq_true rfl) (fun p e s m args below meth c E => ⟨(rR_qI D cI cZ ad below args s M), rfl, b12_thrown E M ⟩) h
abbrev rm12_goes : Room := { frames := 0, cells := 0, slots := 0, locals := 0 }
set_option maxRecDepth 100000 in
theorem b12_goes {p : Program} {l : Launch} {e : Env} {s : State} {m : MethodId} {args : Array Value} {below : List Frame} {meth : Method} {c : Code} {D : va_G} {cI cZ : ClassId} {ad : Nat → Nat} (E : rR_E D cI cZ ad cX12_goes 2 (some .boolean) p s m args meth c) (M : rv_Mem) (a1 : Int32) : rv_M (rR_G D cI cZ ad) (rR_A ad) p l e rm12_goes s m args below meth c 0 0  (rR_qZW D cI cZ ad below args s) (f12_goes M a1) 0 [some (.ref (ad 67)), some (.int a1)] [] M := by
  unfold f12_goes
  refine rv_aload_n (q := 1) E.x dX12_goes_0 rfl rfl ?_
  refine rv_iload_n (q := 2) E.x dX12_goes_1 rfl rfl ?_
  refine rR_put (q := 5) E 66 wf12_66 rfl (Nat.le_of_ble_eq_true rfl) rfl rfl rfl dX12_goes_2 rfl ?_
  refine rv_ltm (fun M1 => ?_)
  refine rv_iload_n (q := 6) E.x dX12_goes_5 rfl rfl ?_
  refine rv_if_ne (q := 9) (tgt := 13) E.x dX12_goes_6 (by decide) rfl ?_ ?_
  · refine rv_iconst (q := 10) E.x dX12_goes_9 rv_ki1 rfl ?_
    refine rv_goto (q := 14) E.x dX12_goes_10 (by decide) ?_
    exact rR_zret E true rfl dX12_goes_14
  · refine rv_iconst (q := 14) E.x dX12_goes_13 rv_ki0 rfl ?_
    exact rR_zret E false rfl dX12_goes_14
theorem c12_goes {l : Launch} {D : va_G} {cI cZ : ClassId} {ad : Nat → Nat} (hI : rR_I ad) {M : rv_Mem} {a1 : Int32} {r : Bool} {M1 : rv_Mem} (h : f12_goes M a1 = some (r, M1)) : Met l yX12_goes (rv_ws yX12_goes cX12_goes 2 (some .boolean)) rm12_goes (rR_Pc D cI cZ ad [.ref (ad 67), .int a1] M) (rR_QI D cI cZ ad (rv_i r) M1) 0 0 (rR_A ad) := rR_met hI rfl (rv_cat rfl) (Nat.le_of_ble_eq_true rfl) (fun p e s m args below meth c E => ⟨(rR_qZW D cI cZ ad below args s), rfl, b12_goes E M a1⟩) h
abbrev rm12_isIn : Room := { frames := 0, cells := 0, slots := 0, locals := 0 }
set_option maxRecDepth 100000 in
theorem b12_isIn {p : Program} {l : Launch} {e : Env} {s : State} {m : MethodId} {args : Array Value} {below : List Frame} {meth : Method} {c : Code} (E : rS_E cX12_isIn 3 (some .boolean) p s m args meth c) (a1 : Int32) (a2 : Int32) (a3 : Int32) : rv_M (fun (_ : Unit) _ => True) (fun _ => False) p l e rm12_isIn s m args below meth c 0 0  (rS_qZ below args s) (f12_isIn a1 a2 a3) 0 [some (.int a1), some (.int a2), some (.int a3)] [] () := by
  unfold f12_isIn
  refine rv_iload_n (q := 1) E.x dX12_isIn_0 rfl rfl ?_
  refine rv_iload_n (q := 2) E.x dX12_isIn_1 rfl rfl ?_
  refine rv_icmp_lt (q := 5) (tgt := 14) E.x dX12_isIn_2 (by decide) rfl ?_ ?_
  · refine rv_iload_n (q := 6) E.x dX12_isIn_5 rfl rfl ?_
    refine rv_iload_n (q := 7) E.x dX12_isIn_6 rfl rfl ?_
    refine rv_icmp_gt (q := 10) (tgt := 14) E.x dX12_isIn_7 (by decide) rfl ?_ ?_
    · refine rv_iconst (q := 11) E.x dX12_isIn_10 rv_ki1 rfl ?_
      refine rv_goto (q := 15) E.x dX12_isIn_11 (by decide) ?_
      exact rR_szret E true rfl dX12_isIn_15
    · refine rv_iconst (q := 15) E.x dX12_isIn_14 rv_ki0 rfl ?_
      exact rR_szret E false rfl dX12_isIn_15
  · refine rv_iconst (q := 15) E.x dX12_isIn_14 rv_ki0 rfl ?_
    exact rR_szret E false rfl dX12_isIn_15
theorem c12_isIn {l : Launch} {a1 : Int32} {a2 : Int32} {a3 : Int32} {r : Bool} (h : f12_isIn a1 a2 a3 = some r) : Met l yX12_isIn (rv_ws yX12_isIn cX12_isIn 3 (some .boolean)) rm12_isIn (va_Pc [.int a1, .int a2, .int a3] (fun _ => True)) (rR_SQ (rv_i r)) 0 0 (fun _ => False) := rR_mets rfl (rv_cat rfl) (Nat.le_of_ble_eq_true rfl) (fun p e s m args below meth c E hr hl => ⟨rS_qZ below args s, rfl, b12_isIn ⟨E, hr, hl⟩ a1 a2 a3⟩) h
abbrev rm12_isPerson : Room := { frames := 1, cells := 0, slots := 0, locals := 22 }
set_option maxRecDepth 100000 in
theorem b12_isPerson {p : Program} {l : Launch} {e : Env} {s : State} {m : MethodId} {args : Array Value} {below : List Frame} {meth : Method} {c : Code} (E : rS_E cX12_isPerson 1 (some .boolean) p s m args meth c) (a1 : Int32) : rv_M (fun (_ : Unit) _ => True) (fun _ => False) p l e rm12_isPerson s m args below meth c 0 0  (rS_qZ below args s) (f12_isPerson a1) 0 [some (.int a1)] [] () := by
  unfold f12_isPerson
  refine rv_iload_n (q := 1) E.x dX12_isPerson_0 rfl rfl ?_
  refine rv_iconst (q := 2) E.x dX12_isPerson_1 rv_ki0 rfl ?_
  refine rv_iconst (q := 3) E.x dX12_isPerson_2 rv_ki5 rfl ?_
  refine rv_b1 (fun r2 e1 => ?_)
  refine rS_calls (q := 6) E (c12_isIn e1) gX12_isIn hX12_isIn ⟨rfl, rfl⟩ ⟨Nat.le_of_ble_eq_true rfl, Nat.le_of_ble_eq_true rfl⟩ rfl rfl rfl (Nat.le_of_ble_eq_true rfl) dX12_isPerson_3 rfl ?_
  exact rR_szret E r2 rfl dX12_isPerson_6
theorem c12_isPerson {l : Launch} {a1 : Int32} {r : Bool} (h : f12_isPerson a1 = some r) : Met l yX12_isPerson (rv_ws yX12_isPerson cX12_isPerson 1 (some .boolean)) rm12_isPerson (va_Pc [.int a1] (fun _ => True)) (rR_SQ (rv_i r)) 0 0 (fun _ => False) := rR_mets rfl (rv_cat rfl) (Nat.le_of_ble_eq_true rfl) (fun p e s m args below meth c E hr hl => ⟨rS_qZ below args s, rfl, b12_isPerson ⟨E, hr, hl⟩ a1⟩) h
abbrev rm12_isRepository : Room := { frames := 1, cells := 0, slots := 0, locals := 22 }
set_option maxRecDepth 100000 in
theorem b12_isRepository {p : Program} {l : Launch} {e : Env} {s : State} {m : MethodId} {args : Array Value} {below : List Frame} {meth : Method} {c : Code} (E : rS_E cX12_isRepository 1 (some .boolean) p s m args meth c) (a1 : Int32) : rv_M (fun (_ : Unit) _ => True) (fun _ => False) p l e rm12_isRepository s m args below meth c 0 0  (rS_qZ below args s) (f12_isRepository a1) 0 [some (.int a1)] [] () := by
  unfold f12_isRepository
  refine rv_iload_n (q := 1) E.x dX12_isRepository_0 rfl rfl ?_
  refine rv_iconst (q := 2) E.x dX12_isRepository_1 rv_ki0 rfl ?_
  refine rv_iconst (q := 3) E.x dX12_isRepository_2 rv_ki1 rfl ?_
  refine rv_b1 (fun r2 e1 => ?_)
  refine rS_calls (q := 6) E (c12_isIn e1) gX12_isIn hX12_isIn ⟨rfl, rfl⟩ ⟨Nat.le_of_ble_eq_true rfl, Nat.le_of_ble_eq_true rfl⟩ rfl rfl rfl (Nat.le_of_ble_eq_true rfl) dX12_isRepository_3 rfl ?_
  exact rR_szret E r2 rfl dX12_isRepository_6
theorem c12_isRepository {l : Launch} {a1 : Int32} {r : Bool} (h : f12_isRepository a1 = some r) : Met l yX12_isRepository (rv_ws yX12_isRepository cX12_isRepository 1 (some .boolean)) rm12_isRepository (va_Pc [.int a1] (fun _ => True)) (rR_SQ (rv_i r)) 0 0 (fun _ => False) := rR_mets rfl (rv_cat rfl) (Nat.le_of_ble_eq_true rfl) (fun p e s m args below meth c E hr hl => ⟨rS_qZ below args s, rfl, b12_isRepository ⟨E, hr, hl⟩ a1⟩) h
abbrev rm12_isFile : Room := { frames := 1, cells := 0, slots := 0, locals := 22 }
set_option maxRecDepth 100000 in
theorem b12_isFile {p : Program} {l : Launch} {e : Env} {s : State} {m : MethodId} {args : Array Value} {below : List Frame} {meth : Method} {c : Code} (E : rS_E cX12_isFile 1 (some .boolean) p s m args meth c) (a1 : Int32) : rv_M (fun (_ : Unit) _ => True) (fun _ => False) p l e rm12_isFile s m args below meth c 0 0  (rS_qZ below args s) (f12_isFile a1) 0 [some (.int a1)] [] () := by
  unfold f12_isFile
  refine rv_iload_n (q := 1) E.x dX12_isFile_0 rfl rfl ?_
  refine rv_iconst (q := 2) E.x dX12_isFile_1 rv_ki0 rfl ?_
  refine rv_iconst (q := 3) E.x dX12_isFile_2 rv_ki3 rfl ?_
  refine rv_b1 (fun r2 e1 => ?_)
  refine rS_calls (q := 6) E (c12_isIn e1) gX12_isIn hX12_isIn ⟨rfl, rfl⟩ ⟨Nat.le_of_ble_eq_true rfl, Nat.le_of_ble_eq_true rfl⟩ rfl rfl rfl (Nat.le_of_ble_eq_true rfl) dX12_isFile_3 rfl ?_
  exact rR_szret E r2 rfl dX12_isFile_6
theorem c12_isFile {l : Launch} {a1 : Int32} {r : Bool} (h : f12_isFile a1 = some r) : Met l yX12_isFile (rv_ws yX12_isFile cX12_isFile 1 (some .boolean)) rm12_isFile (va_Pc [.int a1] (fun _ => True)) (rR_SQ (rv_i r)) 0 0 (fun _ => False) := rR_mets rfl (rv_cat rfl) (Nat.le_of_ble_eq_true rfl) (fun p e s m args below meth c E hr hl => ⟨rS_qZ below args s, rfl, b12_isFile ⟨E, hr, hl⟩ a1⟩) h
abbrev rm12_isCommit : Room := { frames := 1, cells := 0, slots := 0, locals := 22 }
set_option maxRecDepth 100000 in
theorem b12_isCommit {p : Program} {l : Launch} {e : Env} {s : State} {m : MethodId} {args : Array Value} {below : List Frame} {meth : Method} {c : Code} {D : va_G} {cI cZ : ClassId} {ad : Nat → Nat} (E : rR_E D cI cZ ad cX12_isCommit 2 (some .boolean) p s m args meth c) (M : rv_Mem) (a1 : Int32) : rv_M (rR_G D cI cZ ad) (rR_A ad) p l e rm12_isCommit s m args below meth c 0 0  (rR_qZ D cI cZ ad below args s M) (f12_isCommit M a1) 0 [some (.ref (ad 67)), some (.int a1)] [] M := by
  unfold f12_isCommit
  refine rv_iload_n (q := 1) E.x dX12_isCommit_0 rfl rfl ?_
  refine rv_iconst (q := 2) E.x dX12_isCommit_1 rv_ki0 rfl ?_
  refine rv_aload_n (q := 3) E.x dX12_isCommit_2 rfl rfl ?_
  refine rR_get (q := 6) E 0 wf12_0 rfl (Nat.le_of_ble_eq_true rfl) rfl dX12_isCommit_3 rfl ?_
  refine rv_iconst (q := 7) E.x dX12_isCommit_6 rv_ki1 rfl ?_
  refine rv_isub (q := 8) E.x dX12_isCommit_7 rfl ?_
  refine rv_b1 (fun r2 e1 => ?_)
  refine rR_calls (q := 11) E (c12_isIn e1) gX12_isIn hX12_isIn ⟨rfl, rfl⟩ ⟨Nat.le_of_ble_eq_true rfl, Nat.le_of_ble_eq_true rfl⟩ rfl rfl rfl (Nat.le_of_ble_eq_true rfl) dX12_isCommit_8 rfl ?_
  exact rR_zret E r2 rfl dX12_isCommit_11
theorem c12_isCommit {l : Launch} {D : va_G} {cI cZ : ClassId} {ad : Nat → Nat} (hI : rR_I ad) {M : rv_Mem} {a1 : Int32} {r : Bool} (h : f12_isCommit M a1 = some r) : Met l yX12_isCommit (rv_ws yX12_isCommit cX12_isCommit 2 (some .boolean)) rm12_isCommit (rR_Pc D cI cZ ad [.ref (ad 67), .int a1] M) (rR_QI D cI cZ ad (rv_i r) M) 0 0 (rR_A ad) := rR_met hI rfl (rv_cat rfl) (Nat.le_of_ble_eq_true rfl) (fun p e s m args below meth c E => ⟨(rR_qZ D cI cZ ad below args s M), rfl, b12_isCommit E M a1⟩) h
abbrev rm12_isChange : Room := { frames := 1, cells := 0, slots := 0, locals := 22 }
set_option maxRecDepth 100000 in
theorem b12_isChange {p : Program} {l : Launch} {e : Env} {s : State} {m : MethodId} {args : Array Value} {below : List Frame} {meth : Method} {c : Code} {D : va_G} {cI cZ : ClassId} {ad : Nat → Nat} (E : rR_E D cI cZ ad cX12_isChange 2 (some .boolean) p s m args meth c) (M : rv_Mem) (a1 : Int32) : rv_M (rR_G D cI cZ ad) (rR_A ad) p l e rm12_isChange s m args below meth c 0 0  (rR_qZ D cI cZ ad below args s M) (f12_isChange M a1) 0 [some (.ref (ad 67)), some (.int a1)] [] M := by
  unfold f12_isChange
  refine rv_iload_n (q := 1) E.x dX12_isChange_0 rfl rfl ?_
  refine rv_iconst (q := 2) E.x dX12_isChange_1 rv_ki0 rfl ?_
  refine rv_aload_n (q := 3) E.x dX12_isChange_2 rfl rfl ?_
  refine rR_get (q := 6) E 11 wf12_11 rfl (Nat.le_of_ble_eq_true rfl) rfl dX12_isChange_3 rfl ?_
  refine rv_iconst (q := 7) E.x dX12_isChange_6 rv_ki1 rfl ?_
  refine rv_isub (q := 8) E.x dX12_isChange_7 rfl ?_
  refine rv_b1 (fun r2 e1 => ?_)
  refine rR_calls (q := 11) E (c12_isIn e1) gX12_isIn hX12_isIn ⟨rfl, rfl⟩ ⟨Nat.le_of_ble_eq_true rfl, Nat.le_of_ble_eq_true rfl⟩ rfl rfl rfl (Nat.le_of_ble_eq_true rfl) dX12_isChange_8 rfl ?_
  exact rR_zret E r2 rfl dX12_isChange_11
theorem c12_isChange {l : Launch} {D : va_G} {cI cZ : ClassId} {ad : Nat → Nat} (hI : rR_I ad) {M : rv_Mem} {a1 : Int32} {r : Bool} (h : f12_isChange M a1 = some r) : Met l yX12_isChange (rv_ws yX12_isChange cX12_isChange 2 (some .boolean)) rm12_isChange (rR_Pc D cI cZ ad [.ref (ad 67), .int a1] M) (rR_QI D cI cZ ad (rv_i r) M) 0 0 (rR_A ad) := rR_met hI rfl (rv_cat rfl) (Nat.le_of_ble_eq_true rfl) (fun p e s m args below meth c E => ⟨(rR_qZ D cI cZ ad below args s M), rfl, b12_isChange E M a1⟩) h
abbrev rm12_isSet : Room := { frames := 2, cells := 0, slots := 0, locals := 43 }
set_option maxRecDepth 100000 in
theorem b12_isSet {p : Program} {l : Launch} {e : Env} {s : State} {m : MethodId} {args : Array Value} {below : List Frame} {meth : Method} {c : Code} {D : va_G} {cI cZ : ClassId} {ad : Nat → Nat} (E : rR_E D cI cZ ad cX12_isSet 3 (some .boolean) p s m args meth c) (M : rv_Mem) (a1 : Int32) (a2 : Int32) : rv_M (rR_G D cI cZ ad) (rR_A ad) p l e rm12_isSet s m args below meth c 0 0  (rR_qZ D cI cZ ad below args s M) (f12_isSet M a1 a2) 0 [some (.ref (ad 67)), some (.int a1), some (.int a2)] [] M := by
  unfold f12_isSet
  refine rv_aload_n (q := 1) E.x dX12_isSet_0 rfl rfl ?_
  refine rv_iload_n (q := 2) E.x dX12_isSet_1 rfl rfl ?_
  refine rv_b1 (fun r2 e1 => ?_)
  refine rR_calli (q := 5) E (c12_isChange E.2.2.1 e1) gX12_isChange hX12_isChange ⟨rfl, rfl⟩ ⟨Nat.le_of_ble_eq_true rfl, Nat.le_of_ble_eq_true rfl⟩ rfl rfl rfl (Nat.le_of_ble_eq_true rfl) dX12_isSet_2 rfl ?_
  refine rv_ifz_eq (q := 8) (tgt := 28) E.x dX12_isSet_5 (by decide) rfl ?_ ?_
  · refine rv_iload_n (q := 9) E.x dX12_isSet_8 rfl rfl ?_
    refine rv_iconst (q := 10) E.x dX12_isSet_9 rv_ki0 rfl ?_
    refine rv_aload_n (q := 11) E.x dX12_isSet_10 rfl rfl ?_
    refine rR_get (q := 14) E 14 wf12_14 rfl (Nat.le_of_ble_eq_true rfl) rfl dX12_isSet_11 rfl ?_
    refine rv_iload_n (q := 15) E.x dX12_isSet_14 rfl rfl ?_
    refine rR_iald (q := 16) (n := 20) E (Nat.le_of_ble_eq_true rfl) rfl rfl dX12_isSet_15 rfl ?_
    refine rv_iconst (q := 17) E.x dX12_isSet_16 rv_ki1 rfl ?_
    refine rv_isub (q := 18) E.x dX12_isSet_17 rfl ?_
    refine rv_b1 (fun r4 e3 => ?_)
    refine rR_calls (q := 21) E (c12_isIn e3) gX12_isIn hX12_isIn ⟨rfl, rfl⟩ ⟨Nat.le_of_ble_eq_true rfl, Nat.le_of_ble_eq_true rfl⟩ rfl rfl rfl (Nat.le_of_ble_eq_true rfl) dX12_isSet_18 rfl ?_
    refine rv_ifz_eq (q := 24) (tgt := 28) E.x dX12_isSet_21 (by decide) rfl ?_ ?_
    · refine rv_iconst (q := 25) E.x dX12_isSet_24 rv_ki1 rfl ?_
      refine rv_goto (q := 29) E.x dX12_isSet_25 (by decide) ?_
      exact rR_zret E true rfl dX12_isSet_29
    · refine rv_iconst (q := 29) E.x dX12_isSet_28 rv_ki0 rfl ?_
      exact rR_zret E false rfl dX12_isSet_29
  · refine rv_iconst (q := 29) E.x dX12_isSet_28 rv_ki0 rfl ?_
    exact rR_zret E false rfl dX12_isSet_29
theorem c12_isSet {l : Launch} {D : va_G} {cI cZ : ClassId} {ad : Nat → Nat} (hI : rR_I ad) {M : rv_Mem} {a1 : Int32} {a2 : Int32} {r : Bool} (h : f12_isSet M a1 a2 = some r) : Met l yX12_isSet (rv_ws yX12_isSet cX12_isSet 3 (some .boolean)) rm12_isSet (rR_Pc D cI cZ ad [.ref (ad 67), .int a1, .int a2] M) (rR_QI D cI cZ ad (rv_i r) M) 0 0 (rR_A ad) := rR_met hI rfl (rv_cat rfl) (Nat.le_of_ble_eq_true rfl) (fun p e s m args below meth c E => ⟨(rR_qZ D cI cZ ad below args s M), rfl, b12_isSet E M a1 a2⟩) h
abbrev rm12_lineAt : Room := { frames := 0, cells := 0, slots := 0, locals := 0 }
set_option maxRecDepth 100000 in
theorem b12_lineAt {p : Program} {l : Launch} {e : Env} {s : State} {m : MethodId} {args : Array Value} {below : List Frame} {meth : Method} {c : Code} {D : va_G} {cI cZ : ClassId} {ad : Nat → Nat} (E : rR_E D cI cZ ad cX12_lineAt 5 (some .int) p s m args meth c) (M : rv_Mem) (a1 : Int32) (a2 : Int32) (a3 : Int32) : rv_M (rR_G D cI cZ ad) (rR_A ad) p l e rm12_lineAt s m args below meth c 0 0  (rR_qI D cI cZ ad below args s M) (f12_lineAt M a1 a2 a3) 0 [some (.ref (ad 67)), some (.int a1), some (.int a2), some (.int a3), none] [] M := by
  unfold f12_lineAt
  refine rv_aload_n (q := 1) E.x dX12_lineAt_0 rfl rfl ?_
  refine rR_get (q := 4) E 4 wf12_4 rfl (Nat.le_of_ble_eq_true rfl) rfl dX12_lineAt_1 rfl ?_
  refine rv_bipush (q := 6) E.x dX12_lineAt_4 rv_kb10 rfl ?_
  refine rv_iconst (q := 7) E.x dX12_lineAt_6 rv_ki4 rfl ?_
  refine rv_iload_n (q := 8) E.x dX12_lineAt_7 rfl rfl ?_
  refine rv_imul (q := 9) E.x dX12_lineAt_8 rfl ?_
  refine rv_iload_n (q := 10) E.x dX12_lineAt_9 rfl rfl ?_
  refine rv_iadd (q := 11) E.x dX12_lineAt_10 rfl ?_
  refine rv_imul (q := 12) E.x dX12_lineAt_11 rfl ?_
  refine rv_iload_n (q := 13) E.x dX12_lineAt_12 rfl rfl ?_
  refine rv_iadd (q := 14) E.x dX12_lineAt_13 rfl ?_
  refine rR_iald (q := 15) (n := 3280) E (Nat.le_of_ble_eq_true rfl) rfl rfl dX12_lineAt_14 rfl ?_
  refine rv_istore (q := 17) (lv' := [_, _, _, _, _]) E.x dX12_lineAt_15 (Nat.le_of_ble_eq_true rfl) rfl rfl rfl ?_
  refine rv_aload_n (q := 18) E.x dX12_lineAt_17 rfl rfl ?_
  refine rR_get (q := 21) E 64 wf12_64 rfl (Nat.le_of_ble_eq_true rfl) rfl dX12_lineAt_18 rfl ?_
  refine rv_ifz_eq (q := 24) (tgt := 32) E.x dX12_lineAt_21 (by decide) rfl ?_ ?_
  · refine rv_iload (q := 26) E.x dX12_lineAt_24 rfl rfl ?_
    refine rv_bipush (q := 28) E.x dX12_lineAt_26 rv_kb100 rfl ?_
    refine rv_irem (q := 29) E.x dX12_lineAt_28 (by decide) rfl ?_
    refine rv_goto (q := 34) E.x dX12_lineAt_29 (by decide) ?_
    exact rR_iret E rfl dX12_lineAt_34
  · refine rv_iload (q := 34) E.x dX12_lineAt_32 rfl rfl ?_
    exact rR_iret E rfl dX12_lineAt_34
theorem c12_lineAt {l : Launch} {D : va_G} {cI cZ : ClassId} {ad : Nat → Nat} (hI : rR_I ad) {M : rv_Mem} {a1 : Int32} {a2 : Int32} {a3 : Int32} {r : Int32} (h : f12_lineAt M a1 a2 a3 = some r) : Met l yX12_lineAt (rv_ws yX12_lineAt cX12_lineAt 5 (some .int)) rm12_lineAt (rR_Pc D cI cZ ad [.ref (ad 67), .int a1, .int a2, .int a3] M) (rR_QI D cI cZ ad r M) 0 0 (rR_A ad) := rR_met hI rfl (rv_cat rfl) (Nat.le_of_ble_eq_true rfl) (fun p e s m args below meth c E => ⟨(rR_qI D cI cZ ad below args s M), rfl, b12_lineAt E M a1 a2 a3⟩) h
abbrev rm12_sizeOf : Room := { frames := 0, cells := 0, slots := 0, locals := 0 }
set_option maxRecDepth 100000 in
theorem b12_sizeOf {p : Program} {l : Launch} {e : Env} {s : State} {m : MethodId} {args : Array Value} {below : List Frame} {meth : Method} {c : Code} {D : va_G} {cI cZ : ClassId} {ad : Nat → Nat} (E : rR_E D cI cZ ad cX12_sizeOf 3 (some .int) p s m args meth c) (M : rv_Mem) (a1 : Int32) (a2 : Int32) : rv_M (rR_G D cI cZ ad) (rR_A ad) p l e rm12_sizeOf s m args below meth c 0 0  (rR_qI D cI cZ ad below args s M) (f12_sizeOf M a1 a2) 0 [some (.ref (ad 67)), some (.int a1), some (.int a2)] [] M := by
  unfold f12_sizeOf
  refine rv_aload_n (q := 1) E.x dX12_sizeOf_0 rfl rfl ?_
  refine rR_get (q := 4) E 3 wf12_3 rfl (Nat.le_of_ble_eq_true rfl) rfl dX12_sizeOf_1 rfl ?_
  refine rv_iconst (q := 5) E.x dX12_sizeOf_4 rv_ki4 rfl ?_
  refine rv_iload_n (q := 6) E.x dX12_sizeOf_5 rfl rfl ?_
  refine rv_imul (q := 7) E.x dX12_sizeOf_6 rfl ?_
  refine rv_iload_n (q := 8) E.x dX12_sizeOf_7 rfl rfl ?_
  refine rv_iadd (q := 9) E.x dX12_sizeOf_8 rfl ?_
  refine rR_iald (q := 10) (n := 328) E (Nat.le_of_ble_eq_true rfl) rfl rfl dX12_sizeOf_9 rfl ?_
  exact rR_iret E rfl dX12_sizeOf_10
theorem c12_sizeOf {l : Launch} {D : va_G} {cI cZ : ClassId} {ad : Nat → Nat} (hI : rR_I ad) {M : rv_Mem} {a1 : Int32} {a2 : Int32} {r : Int32} (h : f12_sizeOf M a1 a2 = some r) : Met l yX12_sizeOf (rv_ws yX12_sizeOf cX12_sizeOf 3 (some .int)) rm12_sizeOf (rR_Pc D cI cZ ad [.ref (ad 67), .int a1, .int a2] M) (rR_QI D cI cZ ad r M) 0 0 (rR_A ad) := rR_met hI rfl (rv_cat rfl) (Nat.le_of_ble_eq_true rfl) (fun p e s m args below meth c E => ⟨(rR_qI D cI cZ ad below args s M), rfl, b12_sizeOf E M a1 a2⟩) h
abbrev rm12_copies : Room := { frames := 0, cells := 0, slots := 0, locals := 0 }
set_option maxRecDepth 100000 in
theorem b12_copies_35_s {p : Program} {l : Launch} {e : Env} {s : State} {m : MethodId} {args : Array Value} {below : List Frame} {meth : Method} {c : Code} {D : va_G} {cI cZ : ClassId} {ad : Nat → Nat} (E : rR_E D cI cZ ad cX12_copies 4 none p s m args meth c)   (k35 : rv_Mem → Int32 → Int32 → Int32 → Option (rv_Mem)) (h35 : ∀ (M : rv_Mem) (x1 : Int32) (x2 : Int32) (x3 : Int32), rv_M (rR_G D cI cZ ad) (rR_A ad) p l e rm12_copies s m args below meth c 0 0 (rR_qV D cI cZ ad below args s) (k35 M x1 x2 x3) 35 [some (.ref (ad 67)), some (.int x1), some (.int x2), some (.int x3)] [] M) : ∀ (M : rv_Mem) (x1 : Int32) (x2 : Int32) (x3 : Int32), rv_M (rR_G D cI cZ ad) (rR_A ad) p l e rm12_copies s m args below meth c 0 0 (rR_qV D cI cZ ad below args s) (f12_copies_35_s k35 M x1 x2 x3) 35 [some (.ref (ad 67)), some (.int x1), some (.int x2), some (.int x3)] [] M := by
  intro M x1 x2 x3
  unfold f12_copies_35_s
  refine rv_iload_n (q := 36) E.x dX12_copies_35 rfl rfl ?_
  refine rv_bipush (q := 38) E.x dX12_copies_36 rv_kb40 rfl ?_
  refine rv_icmp_ge (q := 41) (tgt := 69) E.x dX12_copies_38 (by decide) rfl ?_ ?_
  · refine rv_aload_n (q := 42) E.x dX12_copies_41 rfl rfl ?_
    refine rR_get (q := 45) E 4 wf12_4 rfl (Nat.le_of_ble_eq_true rfl) rfl dX12_copies_42 rfl ?_
    refine rv_bipush (q := 47) E.x dX12_copies_45 rv_kb40 rfl ?_
    refine rv_iload_n (q := 48) E.x dX12_copies_47 rfl rfl ?_
    refine rv_imul (q := 49) E.x dX12_copies_48 rfl ?_
    refine rv_iload_n (q := 50) E.x dX12_copies_49 rfl rfl ?_
    refine rv_iadd (q := 51) E.x dX12_copies_50 rfl ?_
    refine rv_aload_n (q := 52) E.x dX12_copies_51 rfl rfl ?_
    refine rR_get (q := 55) E 4 wf12_4 rfl (Nat.le_of_ble_eq_true rfl) rfl dX12_copies_52 rfl ?_
    refine rv_bipush (q := 57) E.x dX12_copies_55 rv_kb40 rfl ?_
    refine rv_iload_n (q := 58) E.x dX12_copies_57 rfl rfl ?_
    refine rv_imul (q := 59) E.x dX12_copies_58 rfl ?_
    refine rv_iload_n (q := 60) E.x dX12_copies_59 rfl rfl ?_
    refine rv_iadd (q := 61) E.x dX12_copies_60 rfl ?_
    refine rR_iald (q := 62) (n := 3280) E (Nat.le_of_ble_eq_true rfl) rfl rfl dX12_copies_61 rfl ?_
    refine rR_iast (q := 63) (n := 3280) E (Nat.le_of_ble_eq_true rfl) rfl rfl dX12_copies_62 rfl ?_
    refine rv_ltm (fun M1 => ?_)
    refine rv_iinc (q := 66) (lv' := [_, _, _, _]) E.x dX12_copies_63 rv_ki1 rfl rfl rfl rfl ?_
    refine rv_goto (q := 35) E.x dX12_copies_66 (by decide) ?_
    refine rv_wk [true, true, true, true] ?_
    exact h35 M1 x1 x2 (x3 + 1)
  · exact rR_vret E rfl dX12_copies_69
theorem b12_copies_35 {p : Program} {l : Launch} {e : Env} {s : State} {m : MethodId} {args : Array Value} {below : List Frame} {meth : Method} {c : Code} {D : va_G} {cI cZ : ClassId} {ad : Nat → Nat} (E : rR_E D cI cZ ad cX12_copies 4 none p s m args meth c)   : ∀ (n : Nat), ∀ (M : rv_Mem) (x1 : Int32) (x2 : Int32) (x3 : Int32), rv_M (rR_G D cI cZ ad) (rR_A ad) p l e rm12_copies s m args below meth c 0 0 (rR_qV D cI cZ ad below args s) (f12_copies_35 n M x1 x2 x3) 35 [some (.ref (ad 67)), some (.int x1), some (.int x2), some (.int x3)] [] M := by
  intro n
  induction n with
  | zero => exact fun _ _ _ _ => rv_stuck
  | succ n ih => exact b12_copies_35_s E  (f12_copies_35 n) ih
set_option maxRecDepth 100000 in
theorem b12_copies_2_s {p : Program} {l : Launch} {e : Env} {s : State} {m : MethodId} {args : Array Value} {below : List Frame} {meth : Method} {c : Code} {D : va_G} {cI cZ : ClassId} {ad : Nat → Nat} (E : rR_E D cI cZ ad cX12_copies 4 none p s m args meth c)   (k2 : rv_Mem → Int32 → Int32 → Int32 → Option (rv_Mem)) (h2 : ∀ (M : rv_Mem) (x1 : Int32) (x2 : Int32) (x3 : Int32), rv_M (rR_G D cI cZ ad) (rR_A ad) p l e rm12_copies s m args below meth c 0 0 (rR_qV D cI cZ ad below args s) (k2 M x1 x2 x3) 2 [some (.ref (ad 67)), some (.int x1), some (.int x2), some (.int x3)] [] M) : ∀ (M : rv_Mem) (x1 : Int32) (x2 : Int32) (x3 : Int32), rv_M (rR_G D cI cZ ad) (rR_A ad) p l e rm12_copies s m args below meth c 0 0 (rR_qV D cI cZ ad below args s) (f12_copies_2_s k2 M x1 x2 x3) 2 [some (.ref (ad 67)), some (.int x1), some (.int x2), some (.int x3)] [] M := by
  intro M x1 x2 x3
  unfold f12_copies_2_s
  refine rv_iload_n (q := 3) E.x dX12_copies_2 rfl rfl ?_
  refine rv_iconst (q := 4) E.x dX12_copies_3 rv_ki4 rfl ?_
  refine rv_icmp_ge (q := 7) (tgt := 33) E.x dX12_copies_4 (by decide) rfl ?_ ?_
  · refine rv_aload_n (q := 8) E.x dX12_copies_7 rfl rfl ?_
    refine rR_get (q := 11) E 3 wf12_3 rfl (Nat.le_of_ble_eq_true rfl) rfl dX12_copies_8 rfl ?_
    refine rv_iconst (q := 12) E.x dX12_copies_11 rv_ki4 rfl ?_
    refine rv_iload_n (q := 13) E.x dX12_copies_12 rfl rfl ?_
    refine rv_imul (q := 14) E.x dX12_copies_13 rfl ?_
    refine rv_iload_n (q := 15) E.x dX12_copies_14 rfl rfl ?_
    refine rv_iadd (q := 16) E.x dX12_copies_15 rfl ?_
    refine rv_aload_n (q := 17) E.x dX12_copies_16 rfl rfl ?_
    refine rR_get (q := 20) E 3 wf12_3 rfl (Nat.le_of_ble_eq_true rfl) rfl dX12_copies_17 rfl ?_
    refine rv_iconst (q := 21) E.x dX12_copies_20 rv_ki4 rfl ?_
    refine rv_iload_n (q := 22) E.x dX12_copies_21 rfl rfl ?_
    refine rv_imul (q := 23) E.x dX12_copies_22 rfl ?_
    refine rv_iload_n (q := 24) E.x dX12_copies_23 rfl rfl ?_
    refine rv_iadd (q := 25) E.x dX12_copies_24 rfl ?_
    refine rR_iald (q := 26) (n := 328) E (Nat.le_of_ble_eq_true rfl) rfl rfl dX12_copies_25 rfl ?_
    refine rR_iast (q := 27) (n := 328) E (Nat.le_of_ble_eq_true rfl) rfl rfl dX12_copies_26 rfl ?_
    refine rv_ltm (fun M1 => ?_)
    refine rv_iinc (q := 30) (lv' := [_, _, _, _]) E.x dX12_copies_27 rv_ki1 rfl rfl rfl rfl ?_
    refine rv_goto (q := 2) E.x dX12_copies_30 (by decide) ?_
    refine rv_wk [true, true, true, true] ?_
    exact h2 M1 x1 x2 (x3 + 1)
  · refine rv_iconst (q := 34) E.x dX12_copies_33 rv_ki0 rfl ?_
    refine rv_istore_n (q := 35) (lv' := [_, _, _, _]) E.x dX12_copies_34 (Nat.le_of_ble_eq_true rfl) rfl rfl rfl ?_
    refine rv_wk [true, true, true, true] ?_
    exact b12_copies_35 E rv_FU M x1 x2 0
theorem b12_copies_2 {p : Program} {l : Launch} {e : Env} {s : State} {m : MethodId} {args : Array Value} {below : List Frame} {meth : Method} {c : Code} {D : va_G} {cI cZ : ClassId} {ad : Nat → Nat} (E : rR_E D cI cZ ad cX12_copies 4 none p s m args meth c)   : ∀ (n : Nat), ∀ (M : rv_Mem) (x1 : Int32) (x2 : Int32) (x3 : Int32), rv_M (rR_G D cI cZ ad) (rR_A ad) p l e rm12_copies s m args below meth c 0 0 (rR_qV D cI cZ ad below args s) (f12_copies_2 n M x1 x2 x3) 2 [some (.ref (ad 67)), some (.int x1), some (.int x2), some (.int x3)] [] M := by
  intro n
  induction n with
  | zero => exact fun _ _ _ _ => rv_stuck
  | succ n ih => exact b12_copies_2_s E  (f12_copies_2 n) ih
set_option maxRecDepth 100000 in
theorem b12_copies {p : Program} {l : Launch} {e : Env} {s : State} {m : MethodId} {args : Array Value} {below : List Frame} {meth : Method} {c : Code} {D : va_G} {cI cZ : ClassId} {ad : Nat → Nat} (E : rR_E D cI cZ ad cX12_copies 4 none p s m args meth c) (M : rv_Mem) (a1 : Int32) (a2 : Int32) : rv_M (rR_G D cI cZ ad) (rR_A ad) p l e rm12_copies s m args below meth c 0 0  (rR_qV D cI cZ ad below args s) (f12_copies M a1 a2) 0 [some (.ref (ad 67)), some (.int a1), some (.int a2), none] [] M := by
  unfold f12_copies
  refine rv_iconst (q := 1) E.x dX12_copies_0 rv_ki0 rfl ?_
  refine rv_istore_n (q := 2) (lv' := [_, _, _, _]) E.x dX12_copies_1 (Nat.le_of_ble_eq_true rfl) rfl rfl rfl ?_
  refine rv_wk [true, true, true, true] ?_
  exact b12_copies_2 E rv_FU M a1 a2 0
theorem c12_copies {l : Launch} {D : va_G} {cI cZ : ClassId} {ad : Nat → Nat} (hI : rR_I ad) {M : rv_Mem} {a1 : Int32} {a2 : Int32} {M1 : rv_Mem} (h : f12_copies M a1 a2 = some M1) : Met l yX12_copies (rv_ws yX12_copies cX12_copies 4 none) rm12_copies (rR_Pc D cI cZ ad [.ref (ad 67), .int a1, .int a2] M) (rR_QV D cI cZ ad M1) 0 0 (rR_A ad) := rR_met hI rfl (rv_cat rfl) (Nat.le_of_ble_eq_true rfl) (fun p e s m args below meth c E => ⟨(rR_qV D cI cZ ad below args s), rfl, b12_copies E M a1 a2⟩) h
abbrev rm12_isSameFile : Room := { frames := 1, cells := 0, slots := 0, locals := 22 }
set_option maxRecDepth 100000 in
theorem b12_isSameFile_81 {p : Program} {l : Launch} {e : Env} {s : State} {m : MethodId} {args : Array Value} {below : List Frame} {meth : Method} {c : Code} {D : va_G} {cI cZ : ClassId} {ad : Nat → Nat} (E : rR_E D cI cZ ad cX12_isSameFile 6 (some .boolean) p s m args meth c) (M : rv_Mem) (k25 : Int32 → Int32 → Int32 → Bool → Int32 → Option (Bool)) (h25 : ∀ (x1 : Int32) (x2 : Int32) (x3 : Int32) (x4 : Bool) (x5 : Int32), rv_M (rR_G D cI cZ ad) (rR_A ad) p l e rm12_isSameFile s m args below meth c 0 0 (rR_qZ D cI cZ ad below args s M) (k25 x1 x2 x3 x4 x5) 25 [some (.ref (ad 67)), some (.int x1), some (.int x2), some (.int x3), some (.int (rv_i x4)), some (.int x5)] [] M) : ∀ (x1 : Int32) (x2 : Int32) (x3 : Int32) (x5 : Int32) (s0 : Bool), rv_M (rR_G D cI cZ ad) (rR_A ad) p l e rm12_isSameFile s m args below meth c 0 0 (rR_qZ D cI cZ ad below args s M) (f12_isSameFile_81 M k25 x1 x2 x3 x5 s0) 81 [some (.ref (ad 67)), some (.int x1), some (.int x2), some (.int x3), none, some (.int x5)] [.int (rv_i s0)] M := by
  intro x1 x2 x3 x5 s0
  unfold f12_isSameFile_81
  refine rv_istore (q := 83) (lv' := [_, _, _, _, _, _]) E.x dX12_isSameFile_81 (Nat.le_of_ble_eq_true rfl) rfl rfl rfl ?_
  refine rv_iinc (q := 86) (lv' := [_, _, _, _, _, _]) E.x dX12_isSameFile_83 rv_ki1 rfl rfl rfl rfl ?_
  refine rv_goto (q := 25) E.x dX12_isSameFile_86 (by decide) ?_
  refine rv_wk [true, true, true, true, true, true] ?_
  exact h25 x1 x2 x3 s0 (x5 + 1)
set_option maxRecDepth 100000 in
theorem b12_isSameFile_25_s {p : Program} {l : Launch} {e : Env} {s : State} {m : MethodId} {args : Array Value} {below : List Frame} {meth : Method} {c : Code} {D : va_G} {cI cZ : ClassId} {ad : Nat → Nat} (E : rR_E D cI cZ ad cX12_isSameFile 6 (some .boolean) p s m args meth c) (M : rv_Mem)   (k25 : Int32 → Int32 → Int32 → Bool → Int32 → Option (Bool)) (h25 : ∀ (x1 : Int32) (x2 : Int32) (x3 : Int32) (x4 : Bool) (x5 : Int32), rv_M (rR_G D cI cZ ad) (rR_A ad) p l e rm12_isSameFile s m args below meth c 0 0 (rR_qZ D cI cZ ad below args s M) (k25 x1 x2 x3 x4 x5) 25 [some (.ref (ad 67)), some (.int x1), some (.int x2), some (.int x3), some (.int (rv_i x4)), some (.int x5)] [] M) : ∀ (x1 : Int32) (x2 : Int32) (x3 : Int32) (x4 : Bool) (x5 : Int32), rv_M (rR_G D cI cZ ad) (rR_A ad) p l e rm12_isSameFile s m args below meth c 0 0 (rR_qZ D cI cZ ad below args s M) (f12_isSameFile_25_s M k25 x1 x2 x3 x4 x5) 25 [some (.ref (ad 67)), some (.int x1), some (.int x2), some (.int x3), some (.int (rv_i x4)), some (.int x5)] [] M := by
  intro x1 x2 x3 x4 x5
  unfold f12_isSameFile_25_s
  refine rv_iload (q := 27) E.x dX12_isSameFile_25 rfl rfl ?_
  refine rv_aload_n (q := 28) E.x dX12_isSameFile_27 rfl rfl ?_
  refine rv_iload_n (q := 29) E.x dX12_isSameFile_28 rfl rfl ?_
  refine rv_iload_n (q := 30) E.x dX12_isSameFile_29 rfl rfl ?_
  refine rv_b1 (fun r2 e1 => ?_)
  refine rR_calli (q := 33) E (c12_sizeOf E.2.2.1 e1) gX12_sizeOf hX12_sizeOf ⟨rfl, rfl⟩ ⟨Nat.le_of_ble_eq_true rfl, Nat.le_of_ble_eq_true rfl⟩ rfl rfl rfl (Nat.le_of_ble_eq_true rfl) dX12_isSameFile_30 rfl ?_
  refine rv_icmp_ge (q := 36) (tgt := 89) E.x dX12_isSameFile_33 (by decide) rfl ?_ ?_
  · refine rv_iload (q := 38) E.x dX12_isSameFile_36 rfl rfl ?_
    refine rv_ifz_eq (q := 41) (tgt := 89) E.x dX12_isSameFile_38 (by decide) rfl ?_ ?_
    · refine rv_aload_n (q := 42) E.x dX12_isSameFile_41 rfl rfl ?_
      refine rR_get (q := 45) E 4 wf12_4 rfl (Nat.le_of_ble_eq_true rfl) rfl dX12_isSameFile_42 rfl ?_
      refine rv_bipush (q := 47) E.x dX12_isSameFile_45 rv_kb10 rfl ?_
      refine rv_iconst (q := 48) E.x dX12_isSameFile_47 rv_ki4 rfl ?_
      refine rv_iload_n (q := 49) E.x dX12_isSameFile_48 rfl rfl ?_
      refine rv_imul (q := 50) E.x dX12_isSameFile_49 rfl ?_
      refine rv_iload_n (q := 51) E.x dX12_isSameFile_50 rfl rfl ?_
      refine rv_iadd (q := 52) E.x dX12_isSameFile_51 rfl ?_
      refine rv_imul (q := 53) E.x dX12_isSameFile_52 rfl ?_
      refine rv_iload (q := 55) E.x dX12_isSameFile_53 rfl rfl ?_
      refine rv_iadd (q := 56) E.x dX12_isSameFile_55 rfl ?_
      refine rR_iald (q := 57) (n := 3280) E (Nat.le_of_ble_eq_true rfl) rfl rfl dX12_isSameFile_56 rfl ?_
      refine rv_aload_n (q := 58) E.x dX12_isSameFile_57 rfl rfl ?_
      refine rR_get (q := 61) E 4 wf12_4 rfl (Nat.le_of_ble_eq_true rfl) rfl dX12_isSameFile_58 rfl ?_
      refine rv_bipush (q := 63) E.x dX12_isSameFile_61 rv_kb10 rfl ?_
      refine rv_iconst (q := 64) E.x dX12_isSameFile_63 rv_ki4 rfl ?_
      refine rv_iload_n (q := 65) E.x dX12_isSameFile_64 rfl rfl ?_
      refine rv_imul (q := 66) E.x dX12_isSameFile_65 rfl ?_
      refine rv_iload_n (q := 67) E.x dX12_isSameFile_66 rfl rfl ?_
      refine rv_iadd (q := 68) E.x dX12_isSameFile_67 rfl ?_
      refine rv_imul (q := 69) E.x dX12_isSameFile_68 rfl ?_
      refine rv_iload (q := 71) E.x dX12_isSameFile_69 rfl rfl ?_
      refine rv_iadd (q := 72) E.x dX12_isSameFile_71 rfl ?_
      refine rR_iald (q := 73) (n := 3280) E (Nat.le_of_ble_eq_true rfl) rfl rfl dX12_isSameFile_72 rfl ?_
      refine rv_icmp_ne (q := 76) (tgt := 80) E.x dX12_isSameFile_73 (by decide) rfl ?_ ?_
      · refine rv_iconst (q := 77) E.x dX12_isSameFile_76 rv_ki1 rfl ?_
        refine rv_goto (q := 81) E.x dX12_isSameFile_77 (by decide) ?_
        refine rv_wk [true, true, true, true, false, true] ?_
        exact b12_isSameFile_81 E M k25 h25 x1 x2 x3 x5 true
      · refine rv_iconst (q := 81) E.x dX12_isSameFile_80 rv_ki0 rfl ?_
        refine rv_wk [true, true, true, true, false, true] ?_
        exact b12_isSameFile_81 E M k25 h25 x1 x2 x3 x5 false
    · refine rv_iload (q := 91) E.x dX12_isSameFile_89 rfl rfl ?_
      exact rR_zret E x4 rfl dX12_isSameFile_91
  · refine rv_iload (q := 91) E.x dX12_isSameFile_89 rfl rfl ?_
    exact rR_zret E x4 rfl dX12_isSameFile_91
theorem b12_isSameFile_25 {p : Program} {l : Launch} {e : Env} {s : State} {m : MethodId} {args : Array Value} {below : List Frame} {meth : Method} {c : Code} {D : va_G} {cI cZ : ClassId} {ad : Nat → Nat} (E : rR_E D cI cZ ad cX12_isSameFile 6 (some .boolean) p s m args meth c) (M : rv_Mem)   : ∀ (n : Nat), ∀ (x1 : Int32) (x2 : Int32) (x3 : Int32) (x4 : Bool) (x5 : Int32), rv_M (rR_G D cI cZ ad) (rR_A ad) p l e rm12_isSameFile s m args below meth c 0 0 (rR_qZ D cI cZ ad below args s M) (f12_isSameFile_25 M n x1 x2 x3 x4 x5) 25 [some (.ref (ad 67)), some (.int x1), some (.int x2), some (.int x3), some (.int (rv_i x4)), some (.int x5)] [] M := by
  intro n
  induction n with
  | zero => exact fun _ _ _ _ _ => rv_stuck
  | succ n ih => exact b12_isSameFile_25_s E M (f12_isSameFile_25 M n) ih
set_option maxRecDepth 100000 in
theorem b12_isSameFile_20 {p : Program} {l : Launch} {e : Env} {s : State} {m : MethodId} {args : Array Value} {below : List Frame} {meth : Method} {c : Code} {D : va_G} {cI cZ : ClassId} {ad : Nat → Nat} (E : rR_E D cI cZ ad cX12_isSameFile 6 (some .boolean) p s m args meth c) (M : rv_Mem)   : ∀ (x1 : Int32) (x2 : Int32) (x3 : Int32) (s0 : Bool), rv_M (rR_G D cI cZ ad) (rR_A ad) p l e rm12_isSameFile s m args below meth c 0 0 (rR_qZ D cI cZ ad below args s M) (f12_isSameFile_20 M x1 x2 x3 s0) 20 [some (.ref (ad 67)), some (.int x1), some (.int x2), some (.int x3), none, none] [.int (rv_i s0)] M := by
  intro x1 x2 x3 s0
  unfold f12_isSameFile_20
  refine rv_istore (q := 22) (lv' := [_, _, _, _, _, _]) E.x dX12_isSameFile_20 (Nat.le_of_ble_eq_true rfl) rfl rfl rfl ?_
  refine rv_iconst (q := 23) E.x dX12_isSameFile_22 rv_ki0 rfl ?_
  refine rv_istore (q := 25) (lv' := [_, _, _, _, _, _]) E.x dX12_isSameFile_23 (Nat.le_of_ble_eq_true rfl) rfl rfl rfl ?_
  refine rv_wk [true, true, true, true, true, true] ?_
  exact b12_isSameFile_25 E M rv_FU x1 x2 x3 s0 0
set_option maxRecDepth 100000 in
theorem b12_isSameFile {p : Program} {l : Launch} {e : Env} {s : State} {m : MethodId} {args : Array Value} {below : List Frame} {meth : Method} {c : Code} {D : va_G} {cI cZ : ClassId} {ad : Nat → Nat} (E : rR_E D cI cZ ad cX12_isSameFile 6 (some .boolean) p s m args meth c) (M : rv_Mem) (a1 : Int32) (a2 : Int32) (a3 : Int32) : rv_M (rR_G D cI cZ ad) (rR_A ad) p l e rm12_isSameFile s m args below meth c 0 0  (rR_qZ D cI cZ ad below args s M) (f12_isSameFile M a1 a2 a3) 0 [some (.ref (ad 67)), some (.int a1), some (.int a2), some (.int a3), none, none] [] M := by
  unfold f12_isSameFile
  refine rv_aload_n (q := 1) E.x dX12_isSameFile_0 rfl rfl ?_
  refine rv_iload_n (q := 2) E.x dX12_isSameFile_1 rfl rfl ?_
  refine rv_iload_n (q := 3) E.x dX12_isSameFile_2 rfl rfl ?_
  refine rv_b1 (fun r2 e1 => ?_)
  refine rR_calli (q := 6) E (c12_sizeOf E.2.2.1 e1) gX12_sizeOf hX12_sizeOf ⟨rfl, rfl⟩ ⟨Nat.le_of_ble_eq_true rfl, Nat.le_of_ble_eq_true rfl⟩ rfl rfl rfl (Nat.le_of_ble_eq_true rfl) dX12_isSameFile_3 rfl ?_
  refine rv_aload_n (q := 7) E.x dX12_isSameFile_6 rfl rfl ?_
  refine rv_iload_n (q := 8) E.x dX12_isSameFile_7 rfl rfl ?_
  refine rv_iload_n (q := 9) E.x dX12_isSameFile_8 rfl rfl ?_
  refine rv_b1 (fun r4 e3 => ?_)
  refine rR_calli (q := 12) E (c12_sizeOf E.2.2.1 e3) gX12_sizeOf hX12_sizeOf ⟨rfl, rfl⟩ ⟨Nat.le_of_ble_eq_true rfl, Nat.le_of_ble_eq_true rfl⟩ rfl rfl rfl (Nat.le_of_ble_eq_true rfl) dX12_isSameFile_9 rfl ?_
  refine rv_icmp_ne (q := 15) (tgt := 19) E.x dX12_isSameFile_12 (by decide) rfl ?_ ?_
  · refine rv_iconst (q := 16) E.x dX12_isSameFile_15 rv_ki1 rfl ?_
    refine rv_goto (q := 20) E.x dX12_isSameFile_16 (by decide) ?_
    refine rv_wk [true, true, true, true, false, false] ?_
    exact b12_isSameFile_20 E M a1 a2 a3 true
  · refine rv_iconst (q := 20) E.x dX12_isSameFile_19 rv_ki0 rfl ?_
    refine rv_wk [true, true, true, true, false, false] ?_
    exact b12_isSameFile_20 E M a1 a2 a3 false
theorem c12_isSameFile {l : Launch} {D : va_G} {cI cZ : ClassId} {ad : Nat → Nat} (hI : rR_I ad) {M : rv_Mem} {a1 : Int32} {a2 : Int32} {a3 : Int32} {r : Bool} (h : f12_isSameFile M a1 a2 a3 = some r) : Met l yX12_isSameFile (rv_ws yX12_isSameFile cX12_isSameFile 6 (some .boolean)) rm12_isSameFile (rR_Pc D cI cZ ad [.ref (ad 67), .int a1, .int a2, .int a3] M) (rR_QI D cI cZ ad (rv_i r) M) 0 0 (rR_A ad) := rR_met hI rfl (rv_cat rfl) (Nat.le_of_ble_eq_true rfl) (fun p e s m args below meth c E => ⟨(rR_qZ D cI cZ ad below args s M), rfl, b12_isSameFile E M a1 a2 a3⟩) h
abbrev rm12_areSameFiles : Room := { frames := 2, cells := 0, slots := 0, locals := 47 }
set_option maxRecDepth 100000 in
theorem b12_areSameFiles {p : Program} {l : Launch} {e : Env} {s : State} {m : MethodId} {args : Array Value} {below : List Frame} {meth : Method} {c : Code} {D : va_G} {cI cZ : ClassId} {ad : Nat → Nat} (E : rR_E D cI cZ ad cX12_areSameFiles 3 (some .boolean) p s m args meth c) (M : rv_Mem) (a1 : Int32) (a2 : Int32) : rv_M (rR_G D cI cZ ad) (rR_A ad) p l e rm12_areSameFiles s m args below meth c 0 0  (rR_qZ D cI cZ ad below args s M) (f12_areSameFiles M a1 a2) 0 [some (.ref (ad 67)), some (.int a1), some (.int a2)] [] M := by
  unfold f12_areSameFiles
  refine rv_aload_n (q := 1) E.x dX12_areSameFiles_0 rfl rfl ?_
  refine rv_iload_n (q := 2) E.x dX12_areSameFiles_1 rfl rfl ?_
  refine rv_iload_n (q := 3) E.x dX12_areSameFiles_2 rfl rfl ?_
  refine rv_iconst (q := 4) E.x dX12_areSameFiles_3 rv_ki0 rfl ?_
  refine rv_b1 (fun r2 e1 => ?_)
  refine rR_calli (q := 7) E (c12_isSameFile E.2.2.1 e1) gX12_isSameFile hX12_isSameFile ⟨rfl, rfl⟩ ⟨Nat.le_of_ble_eq_true rfl, Nat.le_of_ble_eq_true rfl⟩ rfl rfl rfl (Nat.le_of_ble_eq_true rfl) dX12_areSameFiles_4 rfl ?_
  refine rv_ifz_eq (q := 10) (tgt := 44) E.x dX12_areSameFiles_7 (by decide) rfl ?_ ?_
  · refine rv_aload_n (q := 11) E.x dX12_areSameFiles_10 rfl rfl ?_
    refine rv_iload_n (q := 12) E.x dX12_areSameFiles_11 rfl rfl ?_
    refine rv_iload_n (q := 13) E.x dX12_areSameFiles_12 rfl rfl ?_
    refine rv_iconst (q := 14) E.x dX12_areSameFiles_13 rv_ki1 rfl ?_
    refine rv_b1 (fun r4 e3 => ?_)
    refine rR_calli (q := 17) E (c12_isSameFile E.2.2.1 e3) gX12_isSameFile hX12_isSameFile ⟨rfl, rfl⟩ ⟨Nat.le_of_ble_eq_true rfl, Nat.le_of_ble_eq_true rfl⟩ rfl rfl rfl (Nat.le_of_ble_eq_true rfl) dX12_areSameFiles_14 rfl ?_
    refine rv_ifz_eq (q := 20) (tgt := 44) E.x dX12_areSameFiles_17 (by decide) rfl ?_ ?_
    · refine rv_aload_n (q := 21) E.x dX12_areSameFiles_20 rfl rfl ?_
      refine rv_iload_n (q := 22) E.x dX12_areSameFiles_21 rfl rfl ?_
      refine rv_iload_n (q := 23) E.x dX12_areSameFiles_22 rfl rfl ?_
      refine rv_iconst (q := 24) E.x dX12_areSameFiles_23 rv_ki2 rfl ?_
      refine rv_b1 (fun r6 e5 => ?_)
      refine rR_calli (q := 27) E (c12_isSameFile E.2.2.1 e5) gX12_isSameFile hX12_isSameFile ⟨rfl, rfl⟩ ⟨Nat.le_of_ble_eq_true rfl, Nat.le_of_ble_eq_true rfl⟩ rfl rfl rfl (Nat.le_of_ble_eq_true rfl) dX12_areSameFiles_24 rfl ?_
      refine rv_ifz_eq (q := 30) (tgt := 44) E.x dX12_areSameFiles_27 (by decide) rfl ?_ ?_
      · refine rv_aload_n (q := 31) E.x dX12_areSameFiles_30 rfl rfl ?_
        refine rv_iload_n (q := 32) E.x dX12_areSameFiles_31 rfl rfl ?_
        refine rv_iload_n (q := 33) E.x dX12_areSameFiles_32 rfl rfl ?_
        refine rv_iconst (q := 34) E.x dX12_areSameFiles_33 rv_ki3 rfl ?_
        refine rv_b1 (fun r8 e7 => ?_)
        refine rR_calli (q := 37) E (c12_isSameFile E.2.2.1 e7) gX12_isSameFile hX12_isSameFile ⟨rfl, rfl⟩ ⟨Nat.le_of_ble_eq_true rfl, Nat.le_of_ble_eq_true rfl⟩ rfl rfl rfl (Nat.le_of_ble_eq_true rfl) dX12_areSameFiles_34 rfl ?_
        refine rv_ifz_eq (q := 40) (tgt := 44) E.x dX12_areSameFiles_37 (by decide) rfl ?_ ?_
        · refine rv_iconst (q := 41) E.x dX12_areSameFiles_40 rv_ki1 rfl ?_
          refine rv_goto (q := 45) E.x dX12_areSameFiles_41 (by decide) ?_
          exact rR_zret E true rfl dX12_areSameFiles_45
        · refine rv_iconst (q := 45) E.x dX12_areSameFiles_44 rv_ki0 rfl ?_
          exact rR_zret E false rfl dX12_areSameFiles_45
      · refine rv_iconst (q := 45) E.x dX12_areSameFiles_44 rv_ki0 rfl ?_
        exact rR_zret E false rfl dX12_areSameFiles_45
    · refine rv_iconst (q := 45) E.x dX12_areSameFiles_44 rv_ki0 rfl ?_
      exact rR_zret E false rfl dX12_areSameFiles_45
  · refine rv_iconst (q := 45) E.x dX12_areSameFiles_44 rv_ki0 rfl ?_
    exact rR_zret E false rfl dX12_areSameFiles_45
theorem c12_areSameFiles {l : Launch} {D : va_G} {cI cZ : ClassId} {ad : Nat → Nat} (hI : rR_I ad) {M : rv_Mem} {a1 : Int32} {a2 : Int32} {r : Bool} (h : f12_areSameFiles M a1 a2 = some r) : Met l yX12_areSameFiles (rv_ws yX12_areSameFiles cX12_areSameFiles 3 (some .boolean)) rm12_areSameFiles (rR_Pc D cI cZ ad [.ref (ad 67), .int a1, .int a2] M) (rR_QI D cI cZ ad (rv_i r) M) 0 0 (rR_A ad) := rR_met hI rfl (rv_cat rfl) (Nat.le_of_ble_eq_true rfl) (fun p e s m args below meth c E => ⟨(rR_qZ D cI cZ ad below args s M), rfl, b12_areSameFiles E M a1 a2⟩) h
abbrev rm12_laysTable : Room := { frames := 1, cells := 0, slots := 0, locals := 24 }
set_option maxRecDepth 100000 in
theorem b12_laysTable_190 {p : Program} {l : Launch} {e : Env} {s : State} {m : MethodId} {args : Array Value} {below : List Frame} {meth : Method} {c : Code} {D : va_G} {cI cZ : ClassId} {ad : Nat → Nat} (E : rR_E D cI cZ ad cX12_laysTable 12 none p s m args meth c) (k20 : rv_Mem → Int32 → Int32 → Int32 → Int32 → Int32 → Int32 → Option (rv_Mem)) (k29 : rv_Mem → Int32 → Int32 → Int32 → Int32 → Int32 → Int32 → Int32 → Option (rv_Mem)) (h20 : ∀ (M : rv_Mem) (x1 : Int32) (x2 : Int32) (x3 : Int32) (x4 : Int32) (x5 : Int32) (x6 : Int32), rv_M (rR_G D cI cZ ad) (rR_A ad) p l e rm12_laysTable s m args below meth c 0 0 (rR_qV D cI cZ ad below args s) (k20 M x1 x2 x3 x4 x5 x6) 20 [some (.ref (ad 67)), some (.int x1), some (.int x2), some (.int x3), some (.int x4), some (.int x5), some (.int x6), none, none, none, none, none] [] M) (h29 : ∀ (M : rv_Mem) (x1 : Int32) (x2 : Int32) (x3 : Int32) (x4 : Int32) (x5 : Int32) (x6 : Int32) (x7 : Int32), rv_M (rR_G D cI cZ ad) (rR_A ad) p l e rm12_laysTable s m args below meth c 0 0 (rR_qV D cI cZ ad below args s) (k29 M x1 x2 x3 x4 x5 x6 x7) 29 [some (.ref (ad 67)), some (.int x1), some (.int x2), some (.int x3), some (.int x4), some (.int x5), some (.int x6), some (.int x7), none, none, none, none] [] M) : ∀ (M : rv_Mem) (x1 : Int32) (x2 : Int32) (x3 : Int32) (x4 : Int32) (x5 : Int32) (x6 : Int32) (x7 : Int32) (s1 : Int32) (s2 : Int32), rv_M (rR_G D cI cZ ad) (rR_A ad) p l e rm12_laysTable s m args below meth c 0 0 (rR_qV D cI cZ ad below args s) (f12_laysTable_190 k20 k29 M x1 x2 x3 x4 x5 x6 x7 s1 s2) 190 [some (.ref (ad 67)), some (.int x1), some (.int x2), some (.int x3), some (.int x4), some (.int x5), some (.int x6), some (.int x7), none, none, none, none] [.int s2, .int s1, .ref (ad 53)] M := by
  intro M x1 x2 x3 x4 x5 x6 x7 s1 s2
  unfold f12_laysTable_190
  refine rR_iast (q := 191) (n := 121) E (Nat.le_of_ble_eq_true rfl) rfl rfl dX12_laysTable_190 rfl ?_
  refine rv_ltm (fun M1 => ?_)
  refine rv_iinc (q := 194) (lv' := [_, _, _, _, _, _, _, _, _, _, _, _]) E.x dX12_laysTable_191 rv_kim1 rfl rfl rfl rfl ?_
  refine rv_goto (q := 29) E.x dX12_laysTable_194 (by decide) ?_
  refine rv_wk [true, true, true, true, true, true, true, true, false, false, false, false] ?_
  exact h29 M1 x1 x2 x3 x4 x5 x6 (x7 + (-1))
set_option maxRecDepth 100000 in
theorem b12_laysTable_162 {p : Program} {l : Launch} {e : Env} {s : State} {m : MethodId} {args : Array Value} {below : List Frame} {meth : Method} {c : Code} {D : va_G} {cI cZ : ClassId} {ad : Nat → Nat} (E : rR_E D cI cZ ad cX12_laysTable 12 none p s m args meth c) (k20 : rv_Mem → Int32 → Int32 → Int32 → Int32 → Int32 → Int32 → Option (rv_Mem)) (k29 : rv_Mem → Int32 → Int32 → Int32 → Int32 → Int32 → Int32 → Int32 → Option (rv_Mem)) (h20 : ∀ (M : rv_Mem) (x1 : Int32) (x2 : Int32) (x3 : Int32) (x4 : Int32) (x5 : Int32) (x6 : Int32), rv_M (rR_G D cI cZ ad) (rR_A ad) p l e rm12_laysTable s m args below meth c 0 0 (rR_qV D cI cZ ad below args s) (k20 M x1 x2 x3 x4 x5 x6) 20 [some (.ref (ad 67)), some (.int x1), some (.int x2), some (.int x3), some (.int x4), some (.int x5), some (.int x6), none, none, none, none, none] [] M) (h29 : ∀ (M : rv_Mem) (x1 : Int32) (x2 : Int32) (x3 : Int32) (x4 : Int32) (x5 : Int32) (x6 : Int32) (x7 : Int32), rv_M (rR_G D cI cZ ad) (rR_A ad) p l e rm12_laysTable s m args below meth c 0 0 (rR_qV D cI cZ ad below args s) (k29 M x1 x2 x3 x4 x5 x6 x7) 29 [some (.ref (ad 67)), some (.int x1), some (.int x2), some (.int x3), some (.int x4), some (.int x5), some (.int x6), some (.int x7), none, none, none, none] [] M) : ∀ (M : rv_Mem) (x1 : Int32) (x2 : Int32) (x3 : Int32) (x4 : Int32) (x5 : Int32) (x6 : Int32) (x7 : Int32) (x8 : Int32) (s0 : Int32), rv_M (rR_G D cI cZ ad) (rR_A ad) p l e rm12_laysTable s m args below meth c 0 0 (rR_qV D cI cZ ad below args s) (f12_laysTable_162 k20 k29 M x1 x2 x3 x4 x5 x6 x7 x8 s0) 162 [some (.ref (ad 67)), some (.int x1), some (.int x2), some (.int x3), some (.int x4), some (.int x5), some (.int x6), some (.int x7), some (.int x8), none, none, none] [.int s0] M := by
  intro M x1 x2 x3 x4 x5 x6 x7 x8 s0
  unfold f12_laysTable_162
  refine rv_istore (q := 164) (lv' := [_, _, _, _, _, _, _, _, _, _, _, _]) E.x dX12_laysTable_162 (Nat.le_of_ble_eq_true rfl) rfl rfl rfl ?_
  refine rv_aload_n (q := 165) E.x dX12_laysTable_164 rfl rfl ?_
  refine rR_get (q := 168) E 53 wf12_53 rfl (Nat.le_of_ble_eq_true rfl) rfl dX12_laysTable_165 rfl ?_
  refine rv_bipush (q := 170) E.x dX12_laysTable_168 rv_kb11 rfl ?_
  refine rv_iload (q := 172) E.x dX12_laysTable_170 rfl rfl ?_
  refine rv_imul (q := 173) E.x dX12_laysTable_172 rfl ?_
  refine rv_iload (q := 175) E.x dX12_laysTable_173 rfl rfl ?_
  refine rv_iadd (q := 176) E.x dX12_laysTable_175 rfl ?_
  refine rv_iload (q := 178) E.x dX12_laysTable_176 rfl rfl ?_
  refine rv_iload (q := 180) E.x dX12_laysTable_178 rfl rfl ?_
  refine rv_icmp_le (q := 183) (tgt := 188) E.x dX12_laysTable_180 (by decide) rfl ?_ ?_
  · refine rv_iload (q := 185) E.x dX12_laysTable_183 rfl rfl ?_
    refine rv_goto (q := 190) E.x dX12_laysTable_185 (by decide) ?_
    refine rv_wk [true, true, true, true, true, true, true, true, false, false, false, false] ?_
    exact b12_laysTable_190 E k20 k29 h20 h29 M x1 x2 x3 x4 x5 x6 x7 ((11 * x6) + x7) x8
  · refine rv_iload (q := 190) E.x dX12_laysTable_188 rfl rfl ?_
    refine rv_wk [true, true, true, true, true, true, true, true, false, false, false, false] ?_
    exact b12_laysTable_190 E k20 k29 h20 h29 M x1 x2 x3 x4 x5 x6 x7 ((11 * x6) + x7) s0
set_option maxRecDepth 100000 in
theorem b12_laysTable_146 {p : Program} {l : Launch} {e : Env} {s : State} {m : MethodId} {args : Array Value} {below : List Frame} {meth : Method} {c : Code} {D : va_G} {cI cZ : ClassId} {ad : Nat → Nat} (E : rR_E D cI cZ ad cX12_laysTable 12 none p s m args meth c) (k20 : rv_Mem → Int32 → Int32 → Int32 → Int32 → Int32 → Int32 → Option (rv_Mem)) (k29 : rv_Mem → Int32 → Int32 → Int32 → Int32 → Int32 → Int32 → Int32 → Option (rv_Mem)) (h20 : ∀ (M : rv_Mem) (x1 : Int32) (x2 : Int32) (x3 : Int32) (x4 : Int32) (x5 : Int32) (x6 : Int32), rv_M (rR_G D cI cZ ad) (rR_A ad) p l e rm12_laysTable s m args below meth c 0 0 (rR_qV D cI cZ ad below args s) (k20 M x1 x2 x3 x4 x5 x6) 20 [some (.ref (ad 67)), some (.int x1), some (.int x2), some (.int x3), some (.int x4), some (.int x5), some (.int x6), none, none, none, none, none] [] M) (h29 : ∀ (M : rv_Mem) (x1 : Int32) (x2 : Int32) (x3 : Int32) (x4 : Int32) (x5 : Int32) (x6 : Int32) (x7 : Int32), rv_M (rR_G D cI cZ ad) (rR_A ad) p l e rm12_laysTable s m args below meth c 0 0 (rR_qV D cI cZ ad below args s) (k29 M x1 x2 x3 x4 x5 x6 x7) 29 [some (.ref (ad 67)), some (.int x1), some (.int x2), some (.int x3), some (.int x4), some (.int x5), some (.int x6), some (.int x7), none, none, none, none] [] M) : ∀ (M : rv_Mem) (x1 : Int32) (x2 : Int32) (x3 : Int32) (x4 : Int32) (x5 : Int32) (x6 : Int32) (x7 : Int32) (x8 : Int32) (x9 : Int32) (s0 : Int32), rv_M (rR_G D cI cZ ad) (rR_A ad) p l e rm12_laysTable s m args below meth c 0 0 (rR_qV D cI cZ ad below args s) (f12_laysTable_146 k20 k29 M x1 x2 x3 x4 x5 x6 x7 x8 x9 s0) 146 [some (.ref (ad 67)), some (.int x1), some (.int x2), some (.int x3), some (.int x4), some (.int x5), some (.int x6), some (.int x7), some (.int x8), some (.int x9), none, none] [.int s0] M := by
  intro M x1 x2 x3 x4 x5 x6 x7 x8 x9 s0
  unfold f12_laysTable_146
  refine rv_istore (q := 148) (lv' := [_, _, _, _, _, _, _, _, _, _, _, _]) E.x dX12_laysTable_146 (Nat.le_of_ble_eq_true rfl) rfl rfl rfl ?_
  refine rv_iload (q := 150) E.x dX12_laysTable_148 rfl rfl ?_
  refine rv_iload (q := 152) E.x dX12_laysTable_150 rfl rfl ?_
  refine rv_icmp_le (q := 155) (tgt := 160) E.x dX12_laysTable_152 (by decide) rfl ?_ ?_
  · refine rv_iload (q := 157) E.x dX12_laysTable_155 rfl rfl ?_
    refine rv_goto (q := 162) E.x dX12_laysTable_157 (by decide) ?_
    refine rv_wk [true, true, true, true, true, true, true, true, true, false, false, false] ?_
    exact b12_laysTable_162 E k20 k29 h20 h29 M x1 x2 x3 x4 x5 x6 x7 x8 x9
  · refine rv_iload (q := 162) E.x dX12_laysTable_160 rfl rfl ?_
    refine rv_wk [true, true, true, true, true, true, true, true, true, false, false, false] ?_
    exact b12_laysTable_162 E k20 k29 h20 h29 M x1 x2 x3 x4 x5 x6 x7 x8 s0
set_option maxRecDepth 100000 in
theorem b12_laysTable_118 {p : Program} {l : Launch} {e : Env} {s : State} {m : MethodId} {args : Array Value} {below : List Frame} {meth : Method} {c : Code} {D : va_G} {cI cZ : ClassId} {ad : Nat → Nat} (E : rR_E D cI cZ ad cX12_laysTable 12 none p s m args meth c) (k20 : rv_Mem → Int32 → Int32 → Int32 → Int32 → Int32 → Int32 → Option (rv_Mem)) (k29 : rv_Mem → Int32 → Int32 → Int32 → Int32 → Int32 → Int32 → Int32 → Option (rv_Mem)) (h20 : ∀ (M : rv_Mem) (x1 : Int32) (x2 : Int32) (x3 : Int32) (x4 : Int32) (x5 : Int32) (x6 : Int32), rv_M (rR_G D cI cZ ad) (rR_A ad) p l e rm12_laysTable s m args below meth c 0 0 (rR_qV D cI cZ ad below args s) (k20 M x1 x2 x3 x4 x5 x6) 20 [some (.ref (ad 67)), some (.int x1), some (.int x2), some (.int x3), some (.int x4), some (.int x5), some (.int x6), none, none, none, none, none] [] M) (h29 : ∀ (M : rv_Mem) (x1 : Int32) (x2 : Int32) (x3 : Int32) (x4 : Int32) (x5 : Int32) (x6 : Int32) (x7 : Int32), rv_M (rR_G D cI cZ ad) (rR_A ad) p l e rm12_laysTable s m args below meth c 0 0 (rR_qV D cI cZ ad below args s) (k29 M x1 x2 x3 x4 x5 x6 x7) 29 [some (.ref (ad 67)), some (.int x1), some (.int x2), some (.int x3), some (.int x4), some (.int x5), some (.int x6), some (.int x7), none, none, none, none] [] M) : ∀ (M : rv_Mem) (x1 : Int32) (x2 : Int32) (x3 : Int32) (x4 : Int32) (x5 : Int32) (x6 : Int32) (x7 : Int32) (x8 : Int32) (s0 : Int32), rv_M (rR_G D cI cZ ad) (rR_A ad) p l e rm12_laysTable s m args below meth c 0 0 (rR_qV D cI cZ ad below args s) (f12_laysTable_118 k20 k29 M x1 x2 x3 x4 x5 x6 x7 x8 s0) 118 [some (.ref (ad 67)), some (.int x1), some (.int x2), some (.int x3), some (.int x4), some (.int x5), some (.int x6), some (.int x7), some (.int x8), none, none, none] [.int s0] M := by
  intro M x1 x2 x3 x4 x5 x6 x7 x8 s0
  unfold f12_laysTable_118
  refine rv_istore (q := 120) (lv' := [_, _, _, _, _, _, _, _, _, _, _, _]) E.x dX12_laysTable_118 (Nat.le_of_ble_eq_true rfl) rfl rfl rfl ?_
  refine rv_iload (q := 122) E.x dX12_laysTable_120 rfl rfl ?_
  refine rv_iload (q := 124) E.x dX12_laysTable_122 rfl rfl ?_
  refine rv_icmp_ge (q := 127) (tgt := 145) E.x dX12_laysTable_124 (by decide) rfl ?_ ?_
  · refine rv_aload_n (q := 128) E.x dX12_laysTable_127 rfl rfl ?_
    refine rR_get (q := 131) E 53 wf12_53 rfl (Nat.le_of_ble_eq_true rfl) rfl dX12_laysTable_128 rfl ?_
    refine rv_bipush (q := 133) E.x dX12_laysTable_131 rv_kb11 rfl ?_
    refine rv_iload (q := 135) E.x dX12_laysTable_133 rfl rfl ?_
    refine rv_imul (q := 136) E.x dX12_laysTable_135 rfl ?_
    refine rv_iload (q := 138) E.x dX12_laysTable_136 rfl rfl ?_
    refine rv_iadd (q := 139) E.x dX12_laysTable_138 rfl ?_
    refine rv_iconst (q := 140) E.x dX12_laysTable_139 rv_ki1 rfl ?_
    refine rv_iadd (q := 141) E.x dX12_laysTable_140 rfl ?_
    refine rR_iald (q := 142) (n := 121) E (Nat.le_of_ble_eq_true rfl) rfl rfl dX12_laysTable_141 rfl ?_
    refine rv_goto (q := 146) E.x dX12_laysTable_142 (by decide) ?_
    refine rv_wk [true, true, true, true, true, true, true, true, true, true, false, false] ?_
    exact b12_laysTable_146 E k20 k29 h20 h29 M x1 x2 x3 x4 x5 x6 x7 x8 s0 (M 53 ((((11 * x6) + x7) + 1)).toNatClampNeg)
  · refine rv_iconst (q := 146) E.x dX12_laysTable_145 rv_ki0 rfl ?_
    refine rv_wk [true, true, true, true, true, true, true, true, true, true, false, false] ?_
    exact b12_laysTable_146 E k20 k29 h20 h29 M x1 x2 x3 x4 x5 x6 x7 x8 s0 0
set_option maxRecDepth 100000 in
theorem b12_laysTable_89 {p : Program} {l : Launch} {e : Env} {s : State} {m : MethodId} {args : Array Value} {below : List Frame} {meth : Method} {c : Code} {D : va_G} {cI cZ : ClassId} {ad : Nat → Nat} (E : rR_E D cI cZ ad cX12_laysTable 12 none p s m args meth c) (k20 : rv_Mem → Int32 → Int32 → Int32 → Int32 → Int32 → Int32 → Option (rv_Mem)) (k29 : rv_Mem → Int32 → Int32 → Int32 → Int32 → Int32 → Int32 → Int32 → Option (rv_Mem)) (h20 : ∀ (M : rv_Mem) (x1 : Int32) (x2 : Int32) (x3 : Int32) (x4 : Int32) (x5 : Int32) (x6 : Int32), rv_M (rR_G D cI cZ ad) (rR_A ad) p l e rm12_laysTable s m args below meth c 0 0 (rR_qV D cI cZ ad below args s) (k20 M x1 x2 x3 x4 x5 x6) 20 [some (.ref (ad 67)), some (.int x1), some (.int x2), some (.int x3), some (.int x4), some (.int x5), some (.int x6), none, none, none, none, none] [] M) (h29 : ∀ (M : rv_Mem) (x1 : Int32) (x2 : Int32) (x3 : Int32) (x4 : Int32) (x5 : Int32) (x6 : Int32) (x7 : Int32), rv_M (rR_G D cI cZ ad) (rR_A ad) p l e rm12_laysTable s m args below meth c 0 0 (rR_qV D cI cZ ad below args s) (k29 M x1 x2 x3 x4 x5 x6 x7) 29 [some (.ref (ad 67)), some (.int x1), some (.int x2), some (.int x3), some (.int x4), some (.int x5), some (.int x6), some (.int x7), none, none, none, none] [] M) : ∀ (M : rv_Mem) (x1 : Int32) (x2 : Int32) (x3 : Int32) (x4 : Int32) (x5 : Int32) (x6 : Int32) (x7 : Int32) (s0 : Int32), rv_M (rR_G D cI cZ ad) (rR_A ad) p l e rm12_laysTable s m args below meth c 0 0 (rR_qV D cI cZ ad below args s) (f12_laysTable_89 k20 k29 M x1 x2 x3 x4 x5 x6 x7 s0) 89 [some (.ref (ad 67)), some (.int x1), some (.int x2), some (.int x3), some (.int x4), some (.int x5), some (.int x6), some (.int x7), none, none, none, none] [.int s0] M := by
  intro M x1 x2 x3 x4 x5 x6 x7 s0
  unfold f12_laysTable_89
  refine rv_istore (q := 91) (lv' := [_, _, _, _, _, _, _, _, _, _, _, _]) E.x dX12_laysTable_89 (Nat.le_of_ble_eq_true rfl) rfl rfl rfl ?_
  refine rv_iload (q := 93) E.x dX12_laysTable_91 rfl rfl ?_
  refine rv_iload (q := 95) E.x dX12_laysTable_93 rfl rfl ?_
  refine rv_icmp_ge (q := 98) (tgt := 117) E.x dX12_laysTable_95 (by decide) rfl ?_ ?_
  · refine rv_aload_n (q := 99) E.x dX12_laysTable_98 rfl rfl ?_
    refine rR_get (q := 102) E 53 wf12_53 rfl (Nat.le_of_ble_eq_true rfl) rfl dX12_laysTable_99 rfl ?_
    refine rv_bipush (q := 104) E.x dX12_laysTable_102 rv_kb11 rfl ?_
    refine rv_iload (q := 106) E.x dX12_laysTable_104 rfl rfl ?_
    refine rv_imul (q := 107) E.x dX12_laysTable_106 rfl ?_
    refine rv_iload (q := 109) E.x dX12_laysTable_107 rfl rfl ?_
    refine rv_iadd (q := 110) E.x dX12_laysTable_109 rfl ?_
    refine rv_bipush (q := 112) E.x dX12_laysTable_110 rv_kb11 rfl ?_
    refine rv_iadd (q := 113) E.x dX12_laysTable_112 rfl ?_
    refine rR_iald (q := 114) (n := 121) E (Nat.le_of_ble_eq_true rfl) rfl rfl dX12_laysTable_113 rfl ?_
    refine rv_goto (q := 118) E.x dX12_laysTable_114 (by decide) ?_
    refine rv_wk [true, true, true, true, true, true, true, true, true, false, false, false] ?_
    exact b12_laysTable_118 E k20 k29 h20 h29 M x1 x2 x3 x4 x5 x6 x7 s0 (M 53 ((((11 * x6) + x7) + 11)).toNatClampNeg)
  · refine rv_iconst (q := 118) E.x dX12_laysTable_117 rv_ki0 rfl ?_
    refine rv_wk [true, true, true, true, true, true, true, true, true, false, false, false] ?_
    exact b12_laysTable_118 E k20 k29 h20 h29 M x1 x2 x3 x4 x5 x6 x7 s0 0
set_option maxRecDepth 100000 in
theorem b12_laysTable_88 {p : Program} {l : Launch} {e : Env} {s : State} {m : MethodId} {args : Array Value} {below : List Frame} {meth : Method} {c : Code} {D : va_G} {cI cZ : ClassId} {ad : Nat → Nat} (E : rR_E D cI cZ ad cX12_laysTable 12 none p s m args meth c) (k20 : rv_Mem → Int32 → Int32 → Int32 → Int32 → Int32 → Int32 → Option (rv_Mem)) (k29 : rv_Mem → Int32 → Int32 → Int32 → Int32 → Int32 → Int32 → Int32 → Option (rv_Mem)) (h20 : ∀ (M : rv_Mem) (x1 : Int32) (x2 : Int32) (x3 : Int32) (x4 : Int32) (x5 : Int32) (x6 : Int32), rv_M (rR_G D cI cZ ad) (rR_A ad) p l e rm12_laysTable s m args below meth c 0 0 (rR_qV D cI cZ ad below args s) (k20 M x1 x2 x3 x4 x5 x6) 20 [some (.ref (ad 67)), some (.int x1), some (.int x2), some (.int x3), some (.int x4), some (.int x5), some (.int x6), none, none, none, none, none] [] M) (h29 : ∀ (M : rv_Mem) (x1 : Int32) (x2 : Int32) (x3 : Int32) (x4 : Int32) (x5 : Int32) (x6 : Int32) (x7 : Int32), rv_M (rR_G D cI cZ ad) (rR_A ad) p l e rm12_laysTable s m args below meth c 0 0 (rR_qV D cI cZ ad below args s) (k29 M x1 x2 x3 x4 x5 x6 x7) 29 [some (.ref (ad 67)), some (.int x1), some (.int x2), some (.int x3), some (.int x4), some (.int x5), some (.int x6), some (.int x7), none, none, none, none] [] M) : ∀ (M : rv_Mem) (x1 : Int32) (x2 : Int32) (x3 : Int32) (x4 : Int32) (x5 : Int32) (x6 : Int32) (x7 : Int32), rv_M (rR_G D cI cZ ad) (rR_A ad) p l e rm12_laysTable s m args below meth c 0 0 (rR_qV D cI cZ ad below args s) (f12_laysTable_88 k20 k29 M x1 x2 x3 x4 x5 x6 x7) 88 [some (.ref (ad 67)), some (.int x1), some (.int x2), some (.int x3), some (.int x4), some (.int x5), some (.int x6), some (.int x7), none, none, none, none] [] M := by
  intro M x1 x2 x3 x4 x5 x6 x7
  unfold f12_laysTable_88
  refine rv_iconst (q := 89) E.x dX12_laysTable_88 rv_ki0 rfl ?_
  refine rv_wk [true, true, true, true, true, true, true, true, false, false, false, false] ?_
  exact b12_laysTable_89 E k20 k29 h20 h29 M x1 x2 x3 x4 x5 x6 x7 0
set_option maxRecDepth 100000 in
theorem b12_laysTable_29_s {p : Program} {l : Launch} {e : Env} {s : State} {m : MethodId} {args : Array Value} {below : List Frame} {meth : Method} {c : Code} {D : va_G} {cI cZ : ClassId} {ad : Nat → Nat} (E : rR_E D cI cZ ad cX12_laysTable 12 none p s m args meth c) (k20 : rv_Mem → Int32 → Int32 → Int32 → Int32 → Int32 → Int32 → Option (rv_Mem)) (h20 : ∀ (M : rv_Mem) (x1 : Int32) (x2 : Int32) (x3 : Int32) (x4 : Int32) (x5 : Int32) (x6 : Int32), rv_M (rR_G D cI cZ ad) (rR_A ad) p l e rm12_laysTable s m args below meth c 0 0 (rR_qV D cI cZ ad below args s) (k20 M x1 x2 x3 x4 x5 x6) 20 [some (.ref (ad 67)), some (.int x1), some (.int x2), some (.int x3), some (.int x4), some (.int x5), some (.int x6), none, none, none, none, none] [] M) (k29 : rv_Mem → Int32 → Int32 → Int32 → Int32 → Int32 → Int32 → Int32 → Option (rv_Mem)) (h29 : ∀ (M : rv_Mem) (x1 : Int32) (x2 : Int32) (x3 : Int32) (x4 : Int32) (x5 : Int32) (x6 : Int32) (x7 : Int32), rv_M (rR_G D cI cZ ad) (rR_A ad) p l e rm12_laysTable s m args below meth c 0 0 (rR_qV D cI cZ ad below args s) (k29 M x1 x2 x3 x4 x5 x6 x7) 29 [some (.ref (ad 67)), some (.int x1), some (.int x2), some (.int x3), some (.int x4), some (.int x5), some (.int x6), some (.int x7), none, none, none, none] [] M) : ∀ (M : rv_Mem) (x1 : Int32) (x2 : Int32) (x3 : Int32) (x4 : Int32) (x5 : Int32) (x6 : Int32) (x7 : Int32), rv_M (rR_G D cI cZ ad) (rR_A ad) p l e rm12_laysTable s m args below meth c 0 0 (rR_qV D cI cZ ad below args s) (f12_laysTable_29_s k20 k29 M x1 x2 x3 x4 x5 x6 x7) 29 [some (.ref (ad 67)), some (.int x1), some (.int x2), some (.int x3), some (.int x4), some (.int x5), some (.int x6), some (.int x7), none, none, none, none] [] M := by
  intro M x1 x2 x3 x4 x5 x6 x7
  unfold f12_laysTable_29_s
  refine rv_iload (q := 31) E.x dX12_laysTable_29 rfl rfl ?_
  refine rv_if_lt (q := 34) (tgt := 197) E.x dX12_laysTable_31 (by decide) rfl ?_ ?_
  · refine rv_iload (q := 36) E.x dX12_laysTable_34 rfl rfl ?_
    refine rv_iload (q := 38) E.x dX12_laysTable_36 rfl rfl ?_
    refine rv_icmp_ge (q := 41) (tgt := 88) E.x dX12_laysTable_38 (by decide) rfl ?_ ?_
    · refine rv_iload (q := 43) E.x dX12_laysTable_41 rfl rfl ?_
      refine rv_iload (q := 45) E.x dX12_laysTable_43 rfl rfl ?_
      refine rv_icmp_ge (q := 48) (tgt := 88) E.x dX12_laysTable_45 (by decide) rfl ?_ ?_
      · refine rv_aload_n (q := 49) E.x dX12_laysTable_48 rfl rfl ?_
        refine rv_iload_n (q := 50) E.x dX12_laysTable_49 rfl rfl ?_
        refine rv_iload_n (q := 51) E.x dX12_laysTable_50 rfl rfl ?_
        refine rv_iload (q := 53) E.x dX12_laysTable_51 rfl rfl ?_
        refine rv_b1 (fun r2 e1 => ?_)
        refine rR_calli (q := 56) E (c12_lineAt E.2.2.1 e1) gX12_lineAt hX12_lineAt ⟨rfl, rfl⟩ ⟨Nat.le_of_ble_eq_true rfl, Nat.le_of_ble_eq_true rfl⟩ rfl rfl rfl (Nat.le_of_ble_eq_true rfl) dX12_laysTable_53 rfl ?_
        refine rv_aload_n (q := 57) E.x dX12_laysTable_56 rfl rfl ?_
        refine rv_iload_n (q := 58) E.x dX12_laysTable_57 rfl rfl ?_
        refine rv_iload_n (q := 59) E.x dX12_laysTable_58 rfl rfl ?_
        refine rv_iload (q := 61) E.x dX12_laysTable_59 rfl rfl ?_
        refine rv_b1 (fun r4 e3 => ?_)
        refine rR_calli (q := 64) E (c12_lineAt E.2.2.1 e3) gX12_lineAt hX12_lineAt ⟨rfl, rfl⟩ ⟨Nat.le_of_ble_eq_true rfl, Nat.le_of_ble_eq_true rfl⟩ rfl rfl rfl (Nat.le_of_ble_eq_true rfl) dX12_laysTable_61 rfl ?_
        refine rv_icmp_ne (q := 67) (tgt := 88) E.x dX12_laysTable_64 (by decide) rfl ?_ ?_
        · refine rv_iconst (q := 68) E.x dX12_laysTable_67 rv_ki1 rfl ?_
          refine rv_aload_n (q := 69) E.x dX12_laysTable_68 rfl rfl ?_
          refine rR_get (q := 72) E 53 wf12_53 rfl (Nat.le_of_ble_eq_true rfl) rfl dX12_laysTable_69 rfl ?_
          refine rv_bipush (q := 74) E.x dX12_laysTable_72 rv_kb11 rfl ?_
          refine rv_iload (q := 76) E.x dX12_laysTable_74 rfl rfl ?_
          refine rv_imul (q := 77) E.x dX12_laysTable_76 rfl ?_
          refine rv_iload (q := 79) E.x dX12_laysTable_77 rfl rfl ?_
          refine rv_iadd (q := 80) E.x dX12_laysTable_79 rfl ?_
          refine rv_bipush (q := 82) E.x dX12_laysTable_80 rv_kb12 rfl ?_
          refine rv_iadd (q := 83) E.x dX12_laysTable_82 rfl ?_
          refine rR_iald (q := 84) (n := 121) E (Nat.le_of_ble_eq_true rfl) rfl rfl dX12_laysTable_83 rfl ?_
          refine rv_iadd (q := 85) E.x dX12_laysTable_84 rfl ?_
          refine rv_goto (q := 89) E.x dX12_laysTable_85 (by decide) ?_
          refine rv_wk [true, true, true, true, true, true, true, true, false, false, false, false] ?_
          exact b12_laysTable_89 E k20 k29 h20 h29 M x1 x2 x3 x4 x5 x6 x7 (1 + (M 53 ((((11 * x6) + x7) + 12)).toNatClampNeg))
        · refine rv_wk [true, true, true, true, true, true, true, true, false, false, false, false] ?_
          exact b12_laysTable_88 E k20 k29 h20 h29 M x1 x2 x3 x4 x5 x6 x7
      · refine rv_wk [true, true, true, true, true, true, true, true, false, false, false, false] ?_
        exact b12_laysTable_88 E k20 k29 h20 h29 M x1 x2 x3 x4 x5 x6 x7
    · refine rv_wk [true, true, true, true, true, true, true, true, false, false, false, false] ?_
      exact b12_laysTable_88 E k20 k29 h20 h29 M x1 x2 x3 x4 x5 x6 x7
  · refine rv_iinc (q := 200) (lv' := [_, _, _, _, _, _, _, _, _, _, _, _]) E.x dX12_laysTable_197 rv_kim1 rfl rfl rfl rfl ?_
    refine rv_goto (q := 20) E.x dX12_laysTable_200 (by decide) ?_
    refine rv_wk [true, true, true, true, true, true, true, false, false, false, false, false] ?_
    exact h20 M x1 x2 x3 x4 x5 (x6 + (-1))
theorem b12_laysTable_29 {p : Program} {l : Launch} {e : Env} {s : State} {m : MethodId} {args : Array Value} {below : List Frame} {meth : Method} {c : Code} {D : va_G} {cI cZ : ClassId} {ad : Nat → Nat} (E : rR_E D cI cZ ad cX12_laysTable 12 none p s m args meth c) (k20 : rv_Mem → Int32 → Int32 → Int32 → Int32 → Int32 → Int32 → Option (rv_Mem)) (h20 : ∀ (M : rv_Mem) (x1 : Int32) (x2 : Int32) (x3 : Int32) (x4 : Int32) (x5 : Int32) (x6 : Int32), rv_M (rR_G D cI cZ ad) (rR_A ad) p l e rm12_laysTable s m args below meth c 0 0 (rR_qV D cI cZ ad below args s) (k20 M x1 x2 x3 x4 x5 x6) 20 [some (.ref (ad 67)), some (.int x1), some (.int x2), some (.int x3), some (.int x4), some (.int x5), some (.int x6), none, none, none, none, none] [] M) : ∀ (n : Nat), ∀ (M : rv_Mem) (x1 : Int32) (x2 : Int32) (x3 : Int32) (x4 : Int32) (x5 : Int32) (x6 : Int32) (x7 : Int32), rv_M (rR_G D cI cZ ad) (rR_A ad) p l e rm12_laysTable s m args below meth c 0 0 (rR_qV D cI cZ ad below args s) (f12_laysTable_29 k20 n M x1 x2 x3 x4 x5 x6 x7) 29 [some (.ref (ad 67)), some (.int x1), some (.int x2), some (.int x3), some (.int x4), some (.int x5), some (.int x6), some (.int x7), none, none, none, none] [] M := by
  intro n
  induction n with
  | zero => exact fun _ _ _ _ _ _ _ _ => rv_stuck
  | succ n ih => exact b12_laysTable_29_s E k20 h20 (f12_laysTable_29 k20 n) ih
set_option maxRecDepth 100000 in
theorem b12_laysTable_20_s {p : Program} {l : Launch} {e : Env} {s : State} {m : MethodId} {args : Array Value} {below : List Frame} {meth : Method} {c : Code} {D : va_G} {cI cZ : ClassId} {ad : Nat → Nat} (E : rR_E D cI cZ ad cX12_laysTable 12 none p s m args meth c)   (k20 : rv_Mem → Int32 → Int32 → Int32 → Int32 → Int32 → Int32 → Option (rv_Mem)) (h20 : ∀ (M : rv_Mem) (x1 : Int32) (x2 : Int32) (x3 : Int32) (x4 : Int32) (x5 : Int32) (x6 : Int32), rv_M (rR_G D cI cZ ad) (rR_A ad) p l e rm12_laysTable s m args below meth c 0 0 (rR_qV D cI cZ ad below args s) (k20 M x1 x2 x3 x4 x5 x6) 20 [some (.ref (ad 67)), some (.int x1), some (.int x2), some (.int x3), some (.int x4), some (.int x5), some (.int x6), none, none, none, none, none] [] M) : ∀ (M : rv_Mem) (x1 : Int32) (x2 : Int32) (x3 : Int32) (x4 : Int32) (x5 : Int32) (x6 : Int32), rv_M (rR_G D cI cZ ad) (rR_A ad) p l e rm12_laysTable s m args below meth c 0 0 (rR_qV D cI cZ ad below args s) (f12_laysTable_20_s k20 M x1 x2 x3 x4 x5 x6) 20 [some (.ref (ad 67)), some (.int x1), some (.int x2), some (.int x3), some (.int x4), some (.int x5), some (.int x6), none, none, none, none, none] [] M := by
  intro M x1 x2 x3 x4 x5 x6
  unfold f12_laysTable_20_s
  refine rv_iload (q := 22) E.x dX12_laysTable_20 rfl rfl ?_
  refine rv_if_lt (q := 25) (tgt := 203) E.x dX12_laysTable_22 (by decide) rfl ?_ ?_
  · refine rv_iload (q := 27) E.x dX12_laysTable_25 rfl rfl ?_
    refine rv_istore (q := 29) (lv' := [_, _, _, _, _, _, _, _, _, _, _, _]) E.x dX12_laysTable_27 (Nat.le_of_ble_eq_true rfl) rfl rfl rfl ?_
    refine rv_wk [true, true, true, true, true, true, true, true, false, false, false, false] ?_
    exact b12_laysTable_29 E k20 h20 rv_FU M x1 x2 x3 x4 x5 x6 x5
  · exact rR_vret E rfl dX12_laysTable_203
theorem b12_laysTable_20 {p : Program} {l : Launch} {e : Env} {s : State} {m : MethodId} {args : Array Value} {below : List Frame} {meth : Method} {c : Code} {D : va_G} {cI cZ : ClassId} {ad : Nat → Nat} (E : rR_E D cI cZ ad cX12_laysTable 12 none p s m args meth c)   : ∀ (n : Nat), ∀ (M : rv_Mem) (x1 : Int32) (x2 : Int32) (x3 : Int32) (x4 : Int32) (x5 : Int32) (x6 : Int32), rv_M (rR_G D cI cZ ad) (rR_A ad) p l e rm12_laysTable s m args below meth c 0 0 (rR_qV D cI cZ ad below args s) (f12_laysTable_20 n M x1 x2 x3 x4 x5 x6) 20 [some (.ref (ad 67)), some (.int x1), some (.int x2), some (.int x3), some (.int x4), some (.int x5), some (.int x6), none, none, none, none, none] [] M := by
  intro n
  induction n with
  | zero => exact fun _ _ _ _ _ _ _ => rv_stuck
  | succ n ih => exact b12_laysTable_20_s E  (f12_laysTable_20 n) ih
set_option maxRecDepth 100000 in
theorem b12_laysTable {p : Program} {l : Launch} {e : Env} {s : State} {m : MethodId} {args : Array Value} {below : List Frame} {meth : Method} {c : Code} {D : va_G} {cI cZ : ClassId} {ad : Nat → Nat} (E : rR_E D cI cZ ad cX12_laysTable 12 none p s m args meth c) (M : rv_Mem) (a1 : Int32) (a2 : Int32) (a3 : Int32) : rv_M (rR_G D cI cZ ad) (rR_A ad) p l e rm12_laysTable s m args below meth c 0 0  (rR_qV D cI cZ ad below args s) (f12_laysTable M a1 a2 a3) 0 [some (.ref (ad 67)), some (.int a1), some (.int a2), some (.int a3), none, none, none, none, none, none, none, none] [] M := by
  unfold f12_laysTable
  refine rv_aload_n (q := 1) E.x dX12_laysTable_0 rfl rfl ?_
  refine rv_iload_n (q := 2) E.x dX12_laysTable_1 rfl rfl ?_
  refine rv_iload_n (q := 3) E.x dX12_laysTable_2 rfl rfl ?_
  refine rv_b1 (fun r2 e1 => ?_)
  refine rR_calli (q := 6) E (c12_sizeOf E.2.2.1 e1) gX12_sizeOf hX12_sizeOf ⟨rfl, rfl⟩ ⟨Nat.le_of_ble_eq_true rfl, Nat.le_of_ble_eq_true rfl⟩ rfl rfl rfl (Nat.le_of_ble_eq_true rfl) dX12_laysTable_3 rfl ?_
  refine rv_istore (q := 8) (lv' := [_, _, _, _, _, _, _, _, _, _, _, _]) E.x dX12_laysTable_6 (Nat.le_of_ble_eq_true rfl) rfl rfl rfl ?_
  refine rv_aload_n (q := 9) E.x dX12_laysTable_8 rfl rfl ?_
  refine rv_iload_n (q := 10) E.x dX12_laysTable_9 rfl rfl ?_
  refine rv_iload_n (q := 11) E.x dX12_laysTable_10 rfl rfl ?_
  refine rv_b1 (fun r4 e3 => ?_)
  refine rR_calli (q := 14) E (c12_sizeOf E.2.2.1 e3) gX12_sizeOf hX12_sizeOf ⟨rfl, rfl⟩ ⟨Nat.le_of_ble_eq_true rfl, Nat.le_of_ble_eq_true rfl⟩ rfl rfl rfl (Nat.le_of_ble_eq_true rfl) dX12_laysTable_11 rfl ?_
  refine rv_istore (q := 16) (lv' := [_, _, _, _, _, _, _, _, _, _, _, _]) E.x dX12_laysTable_14 (Nat.le_of_ble_eq_true rfl) rfl rfl rfl ?_
  refine rv_iload (q := 18) E.x dX12_laysTable_16 rfl rfl ?_
  refine rv_istore (q := 20) (lv' := [_, _, _, _, _, _, _, _, _, _, _, _]) E.x dX12_laysTable_18 (Nat.le_of_ble_eq_true rfl) rfl rfl rfl ?_
  refine rv_wk [true, true, true, true, true, true, true, false, false, false, false, false] ?_
  exact b12_laysTable_20 E rv_FU M a1 a2 a3 r2 r4 r2
theorem c12_laysTable {l : Launch} {D : va_G} {cI cZ : ClassId} {ad : Nat → Nat} (hI : rR_I ad) {M : rv_Mem} {a1 : Int32} {a2 : Int32} {a3 : Int32} {M1 : rv_Mem} (h : f12_laysTable M a1 a2 a3 = some M1) : Met l yX12_laysTable (rv_ws yX12_laysTable cX12_laysTable 12 none) rm12_laysTable (rR_Pc D cI cZ ad [.ref (ad 67), .int a1, .int a2, .int a3] M) (rR_QV D cI cZ ad M1) 0 0 (rR_A ad) := rR_met hI rfl (rv_cat rfl) (Nat.le_of_ble_eq_true rfl) (fun p e s m args below meth c E => ⟨(rR_qV D cI cZ ad below args s), rfl, b12_laysTable E M a1 a2 a3⟩) h
abbrev rm12_pairs : Room := { frames := 2, cells := 0, slots := 0, locals := 55 }
set_option maxRecDepth 100000 in
theorem b12_pairs_179 {p : Program} {l : Launch} {e : Env} {s : State} {m : MethodId} {args : Array Value} {below : List Frame} {meth : Method} {c : Code} {D : va_G} {cI cZ : ClassId} {ad : Nat → Nat} (E : rR_E D cI cZ ad cX12_pairs 8 none p s m args meth c) (k37 : rv_Mem → Int32 → Int32 → Int32 → Int32 → Int32 → Option (rv_Mem)) (h37 : ∀ (M : rv_Mem) (x1 : Int32) (x2 : Int32) (x3 : Int32) (x4 : Int32) (x5 : Int32), rv_M (rR_G D cI cZ ad) (rR_A ad) p l e rm12_pairs s m args below meth c 0 0 (rR_qV D cI cZ ad below args s) (k37 M x1 x2 x3 x4 x5) 37 [some (.ref (ad 67)), some (.int x1), some (.int x2), some (.int x3), some (.int x4), some (.int x5), none, none] [] M) : ∀ (M : rv_Mem) (x1 : Int32) (x2 : Int32) (x3 : Int32) (x5 : Int32) (s0 : Int32) (s1 : Bool), rv_M (rR_G D cI cZ ad) (rR_A ad) p l e rm12_pairs s m args below meth c 0 0 (rR_qV D cI cZ ad below args s) (f12_pairs_179 k37 M x1 x2 x3 x5 s0 s1) 179 [some (.ref (ad 67)), some (.int x1), some (.int x2), some (.int x3), none, some (.int x5), none, none] [.int (rv_i s1), .int s0] M := by
  intro M x1 x2 x3 x5 s0 s1
  unfold f12_pairs_179
  refine rv_iadd (q := 180) E.x dX12_pairs_179 rfl ?_
  refine rv_istore (q := 182) (lv' := [_, _, _, _, _, _, _, _]) E.x dX12_pairs_180 (Nat.le_of_ble_eq_true rfl) rfl rfl rfl ?_
  refine rv_goto (q := 37) E.x dX12_pairs_182 (by decide) ?_
  refine rv_wk [true, true, true, true, true, true, false, false] ?_
  exact h37 M x1 x2 x3 (s0 + (rv_i s1)) x5
set_option maxRecDepth 100000 in
theorem b12_pairs_174 {p : Program} {l : Launch} {e : Env} {s : State} {m : MethodId} {args : Array Value} {below : List Frame} {meth : Method} {c : Code} {D : va_G} {cI cZ : ClassId} {ad : Nat → Nat} (E : rR_E D cI cZ ad cX12_pairs 8 none p s m args meth c) (k37 : rv_Mem → Int32 → Int32 → Int32 → Int32 → Int32 → Option (rv_Mem)) (h37 : ∀ (M : rv_Mem) (x1 : Int32) (x2 : Int32) (x3 : Int32) (x4 : Int32) (x5 : Int32), rv_M (rR_G D cI cZ ad) (rR_A ad) p l e rm12_pairs s m args below meth c 0 0 (rR_qV D cI cZ ad below args s) (k37 M x1 x2 x3 x4 x5) 37 [some (.ref (ad 67)), some (.int x1), some (.int x2), some (.int x3), some (.int x4), some (.int x5), none, none] [] M) : ∀ (M : rv_Mem) (x1 : Int32) (x2 : Int32) (x3 : Int32) (x5 : Int32) (s0 : Int32), rv_M (rR_G D cI cZ ad) (rR_A ad) p l e rm12_pairs s m args below meth c 0 0 (rR_qV D cI cZ ad below args s) (f12_pairs_174 k37 M x1 x2 x3 x5 s0) 174 [some (.ref (ad 67)), some (.int x1), some (.int x2), some (.int x3), none, some (.int x5), none, none] [.int s0] M := by
  intro M x1 x2 x3 x5 s0
  unfold f12_pairs_174
  refine rv_iconst (q := 175) E.x dX12_pairs_174 rv_ki1 rfl ?_
  refine rv_goto (q := 179) E.x dX12_pairs_175 (by decide) ?_
  refine rv_wk [true, true, true, true, false, true, false, false] ?_
  exact b12_pairs_179 E k37 h37 M x1 x2 x3 x5 s0 true
set_option maxRecDepth 100000 in
theorem b12_pairs_159 {p : Program} {l : Launch} {e : Env} {s : State} {m : MethodId} {args : Array Value} {below : List Frame} {meth : Method} {c : Code} {D : va_G} {cI cZ : ClassId} {ad : Nat → Nat} (E : rR_E D cI cZ ad cX12_pairs 8 none p s m args meth c) (k37 : rv_Mem → Int32 → Int32 → Int32 → Int32 → Int32 → Option (rv_Mem)) (h37 : ∀ (M : rv_Mem) (x1 : Int32) (x2 : Int32) (x3 : Int32) (x4 : Int32) (x5 : Int32), rv_M (rR_G D cI cZ ad) (rR_A ad) p l e rm12_pairs s m args below meth c 0 0 (rR_qV D cI cZ ad below args s) (k37 M x1 x2 x3 x4 x5) 37 [some (.ref (ad 67)), some (.int x1), some (.int x2), some (.int x3), some (.int x4), some (.int x5), none, none] [] M) : ∀ (M : rv_Mem) (x1 : Int32) (x2 : Int32) (x3 : Int32) (x4 : Int32) (x6 : Bool) (x7 : Bool) (s0 : Int32) (s1 : Bool), rv_M (rR_G D cI cZ ad) (rR_A ad) p l e rm12_pairs s m args below meth c 0 0 (rR_qV D cI cZ ad below args s) (f12_pairs_159 k37 M x1 x2 x3 x4 x6 x7 s0 s1) 159 [some (.ref (ad 67)), some (.int x1), some (.int x2), some (.int x3), some (.int x4), none, some (.int (rv_i x6)), some (.int (rv_i x7))] [.int (rv_i s1), .int s0] M := by
  intro M x1 x2 x3 x4 x6 x7 s0 s1
  unfold f12_pairs_159
  refine rv_iadd (q := 160) E.x dX12_pairs_159 rfl ?_
  refine rv_istore (q := 162) (lv' := [_, _, _, _, _, _, _, _]) E.x dX12_pairs_160 (Nat.le_of_ble_eq_true rfl) rfl rfl rfl ?_
  refine rv_iload (q := 164) E.x dX12_pairs_162 rfl rfl ?_
  refine rv_iload (q := 166) E.x dX12_pairs_164 rfl rfl ?_
  refine rv_ifz_ne (q := 169) (tgt := 174) E.x dX12_pairs_166 (by decide) rfl ?_ ?_
  · refine rv_iload (q := 171) E.x dX12_pairs_169 rfl rfl ?_
    refine rv_ifz_eq (q := 174) (tgt := 178) E.x dX12_pairs_171 (by decide) rfl ?_ ?_
    · refine rv_wk [true, true, true, true, false, true, false, false] ?_
      exact b12_pairs_174 E k37 h37 M x1 x2 x3 (s0 + (rv_i s1)) x4
    · refine rv_iconst (q := 179) E.x dX12_pairs_178 rv_ki0 rfl ?_
      refine rv_wk [true, true, true, true, false, true, false, false] ?_
      exact b12_pairs_179 E k37 h37 M x1 x2 x3 (s0 + (rv_i s1)) x4 false
  · refine rv_wk [true, true, true, true, false, true, false, false] ?_
    exact b12_pairs_174 E k37 h37 M x1 x2 x3 (s0 + (rv_i s1)) x4
set_option maxRecDepth 100000 in
theorem b12_pairs_154 {p : Program} {l : Launch} {e : Env} {s : State} {m : MethodId} {args : Array Value} {below : List Frame} {meth : Method} {c : Code} {D : va_G} {cI cZ : ClassId} {ad : Nat → Nat} (E : rR_E D cI cZ ad cX12_pairs 8 none p s m args meth c) (k37 : rv_Mem → Int32 → Int32 → Int32 → Int32 → Int32 → Option (rv_Mem)) (h37 : ∀ (M : rv_Mem) (x1 : Int32) (x2 : Int32) (x3 : Int32) (x4 : Int32) (x5 : Int32), rv_M (rR_G D cI cZ ad) (rR_A ad) p l e rm12_pairs s m args below meth c 0 0 (rR_qV D cI cZ ad below args s) (k37 M x1 x2 x3 x4 x5) 37 [some (.ref (ad 67)), some (.int x1), some (.int x2), some (.int x3), some (.int x4), some (.int x5), none, none] [] M) : ∀ (M : rv_Mem) (x1 : Int32) (x2 : Int32) (x3 : Int32) (x4 : Int32) (x6 : Bool) (x7 : Bool) (s0 : Int32), rv_M (rR_G D cI cZ ad) (rR_A ad) p l e rm12_pairs s m args below meth c 0 0 (rR_qV D cI cZ ad below args s) (f12_pairs_154 k37 M x1 x2 x3 x4 x6 x7 s0) 154 [some (.ref (ad 67)), some (.int x1), some (.int x2), some (.int x3), some (.int x4), none, some (.int (rv_i x6)), some (.int (rv_i x7))] [.int s0] M := by
  intro M x1 x2 x3 x4 x6 x7 s0
  unfold f12_pairs_154
  refine rv_iconst (q := 155) E.x dX12_pairs_154 rv_ki1 rfl ?_
  refine rv_goto (q := 159) E.x dX12_pairs_155 (by decide) ?_
  refine rv_wk [true, true, true, true, true, false, true, true] ?_
  exact b12_pairs_159 E k37 h37 M x1 x2 x3 x4 x6 x7 s0 true
set_option maxRecDepth 100000 in
theorem b12_pairs_141 {p : Program} {l : Launch} {e : Env} {s : State} {m : MethodId} {args : Array Value} {below : List Frame} {meth : Method} {c : Code} {D : va_G} {cI cZ : ClassId} {ad : Nat → Nat} (E : rR_E D cI cZ ad cX12_pairs 8 none p s m args meth c) (k37 : rv_Mem → Int32 → Int32 → Int32 → Int32 → Int32 → Option (rv_Mem)) (h37 : ∀ (M : rv_Mem) (x1 : Int32) (x2 : Int32) (x3 : Int32) (x4 : Int32) (x5 : Int32), rv_M (rR_G D cI cZ ad) (rR_A ad) p l e rm12_pairs s m args below meth c 0 0 (rR_qV D cI cZ ad below args s) (k37 M x1 x2 x3 x4 x5) 37 [some (.ref (ad 67)), some (.int x1), some (.int x2), some (.int x3), some (.int x4), some (.int x5), none, none] [] M) : ∀ (M : rv_Mem) (x1 : Int32) (x2 : Int32) (x3 : Int32) (x4 : Int32) (x5 : Int32) (x6 : Bool) (x7 : Bool) (s1 : Int32) (s2 : Int32), rv_M (rR_G D cI cZ ad) (rR_A ad) p l e rm12_pairs s m args below meth c 0 0 (rR_qV D cI cZ ad below args s) (f12_pairs_141 k37 M x1 x2 x3 x4 x5 x6 x7 s1 s2) 141 [some (.ref (ad 67)), some (.int x1), some (.int x2), some (.int x3), some (.int x4), some (.int x5), some (.int (rv_i x6)), some (.int (rv_i x7))] [.int s2, .int s1, .ref (ad 54)] M := by
  intro M x1 x2 x3 x4 x5 x6 x7 s1 s2
  unfold f12_pairs_141
  refine rR_iast (q := 142) (n := 10) E (Nat.le_of_ble_eq_true rfl) rfl rfl dX12_pairs_141 rfl ?_
  refine rv_ltm (fun M1 => ?_)
  refine rv_iload (q := 144) E.x dX12_pairs_142 rfl rfl ?_
  refine rv_iload (q := 146) E.x dX12_pairs_144 rfl rfl ?_
  refine rv_ifz_ne (q := 149) (tgt := 154) E.x dX12_pairs_146 (by decide) rfl ?_ ?_
  · refine rv_iload (q := 151) E.x dX12_pairs_149 rfl rfl ?_
    refine rv_ifz_ne (q := 154) (tgt := 158) E.x dX12_pairs_151 (by decide) rfl ?_ ?_
    · refine rv_wk [true, true, true, true, true, false, true, true] ?_
      exact b12_pairs_154 E k37 h37 M1 x1 x2 x3 x4 x6 x7 x5
    · refine rv_iconst (q := 159) E.x dX12_pairs_158 rv_ki0 rfl ?_
      refine rv_wk [true, true, true, true, true, false, true, true] ?_
      exact b12_pairs_159 E k37 h37 M1 x1 x2 x3 x4 x6 x7 x5 false
  · refine rv_wk [true, true, true, true, true, false, true, true] ?_
    exact b12_pairs_154 E k37 h37 M1 x1 x2 x3 x4 x6 x7 x5
set_option maxRecDepth 100000 in
theorem b12_pairs_122 {p : Program} {l : Launch} {e : Env} {s : State} {m : MethodId} {args : Array Value} {below : List Frame} {meth : Method} {c : Code} {D : va_G} {cI cZ : ClassId} {ad : Nat → Nat} (E : rR_E D cI cZ ad cX12_pairs 8 none p s m args meth c) (k37 : rv_Mem → Int32 → Int32 → Int32 → Int32 → Int32 → Option (rv_Mem)) (h37 : ∀ (M : rv_Mem) (x1 : Int32) (x2 : Int32) (x3 : Int32) (x4 : Int32) (x5 : Int32), rv_M (rR_G D cI cZ ad) (rR_A ad) p l e rm12_pairs s m args below meth c 0 0 (rR_qV D cI cZ ad below args s) (k37 M x1 x2 x3 x4 x5) 37 [some (.ref (ad 67)), some (.int x1), some (.int x2), some (.int x3), some (.int x4), some (.int x5), none, none] [] M) : ∀ (M : rv_Mem) (x1 : Int32) (x2 : Int32) (x3 : Int32) (x4 : Int32) (x5 : Int32) (x6 : Bool) (s0 : Bool), rv_M (rR_G D cI cZ ad) (rR_A ad) p l e rm12_pairs s m args below meth c 0 0 (rR_qV D cI cZ ad below args s) (f12_pairs_122 k37 M x1 x2 x3 x4 x5 x6 s0) 122 [some (.ref (ad 67)), some (.int x1), some (.int x2), some (.int x3), some (.int x4), some (.int x5), some (.int (rv_i x6)), none] [.int (rv_i s0)] M := by
  intro M x1 x2 x3 x4 x5 x6 s0
  unfold f12_pairs_122
  refine rv_istore (q := 124) (lv' := [_, _, _, _, _, _, _, _]) E.x dX12_pairs_122 (Nat.le_of_ble_eq_true rfl) rfl rfl rfl ?_
  refine rv_aload_n (q := 125) E.x dX12_pairs_124 rfl rfl ?_
  refine rR_get (q := 128) E 54 wf12_54 rfl (Nat.le_of_ble_eq_true rfl) rfl dX12_pairs_125 rfl ?_
  refine rv_iload (q := 130) E.x dX12_pairs_128 rfl rfl ?_
  refine rv_iload (q := 132) E.x dX12_pairs_130 rfl rfl ?_
  refine rv_ifz_eq (q := 135) (tgt := 140) E.x dX12_pairs_132 (by decide) rfl ?_ ?_
  · refine rv_iload (q := 137) E.x dX12_pairs_135 rfl rfl ?_
    refine rv_goto (q := 141) E.x dX12_pairs_137 (by decide) ?_
    refine rv_wk [true, true, true, true, true, true, true, true] ?_
    exact b12_pairs_141 E k37 h37 M x1 x2 x3 x4 x5 x6 s0 x4 x5
  · refine rv_iconst (q := 141) E.x dX12_pairs_140 rv_kim1 rfl ?_
    refine rv_wk [true, true, true, true, true, true, true, true] ?_
    exact b12_pairs_141 E k37 h37 M x1 x2 x3 x4 x5 x6 s0 x4 (-1)
set_option maxRecDepth 100000 in
theorem b12_pairs_83 {p : Program} {l : Launch} {e : Env} {s : State} {m : MethodId} {args : Array Value} {below : List Frame} {meth : Method} {c : Code} {D : va_G} {cI cZ : ClassId} {ad : Nat → Nat} (E : rR_E D cI cZ ad cX12_pairs 8 none p s m args meth c) (k37 : rv_Mem → Int32 → Int32 → Int32 → Int32 → Int32 → Option (rv_Mem)) (h37 : ∀ (M : rv_Mem) (x1 : Int32) (x2 : Int32) (x3 : Int32) (x4 : Int32) (x5 : Int32), rv_M (rR_G D cI cZ ad) (rR_A ad) p l e rm12_pairs s m args below meth c 0 0 (rR_qV D cI cZ ad below args s) (k37 M x1 x2 x3 x4 x5) 37 [some (.ref (ad 67)), some (.int x1), some (.int x2), some (.int x3), some (.int x4), some (.int x5), none, none] [] M) : ∀ (M : rv_Mem) (x1 : Int32) (x2 : Int32) (x3 : Int32) (x4 : Int32) (x5 : Int32) (s0 : Bool), rv_M (rR_G D cI cZ ad) (rR_A ad) p l e rm12_pairs s m args below meth c 0 0 (rR_qV D cI cZ ad below args s) (f12_pairs_83 k37 M x1 x2 x3 x4 x5 s0) 83 [some (.ref (ad 67)), some (.int x1), some (.int x2), some (.int x3), some (.int x4), some (.int x5), none, none] [.int (rv_i s0)] M := by
  intro M x1 x2 x3 x4 x5 s0
  unfold f12_pairs_83
  refine rv_istore (q := 85) (lv' := [_, _, _, _, _, _, _, _]) E.x dX12_pairs_83 (Nat.le_of_ble_eq_true rfl) rfl rfl rfl ?_
  refine rv_aload_n (q := 86) E.x dX12_pairs_85 rfl rfl ?_
  refine rR_get (q := 89) E 53 wf12_53 rfl (Nat.le_of_ble_eq_true rfl) rfl dX12_pairs_86 rfl ?_
  refine rv_bipush (q := 91) E.x dX12_pairs_89 rv_kb11 rfl ?_
  refine rv_iload (q := 93) E.x dX12_pairs_91 rfl rfl ?_
  refine rv_imul (q := 94) E.x dX12_pairs_93 rfl ?_
  refine rv_iload (q := 96) E.x dX12_pairs_94 rfl rfl ?_
  refine rv_iadd (q := 97) E.x dX12_pairs_96 rfl ?_
  refine rv_bipush (q := 99) E.x dX12_pairs_97 rv_kb11 rfl ?_
  refine rv_iadd (q := 100) E.x dX12_pairs_99 rfl ?_
  refine rR_iald (q := 101) (n := 121) E (Nat.le_of_ble_eq_true rfl) rfl rfl dX12_pairs_100 rfl ?_
  refine rv_aload_n (q := 102) E.x dX12_pairs_101 rfl rfl ?_
  refine rR_get (q := 105) E 53 wf12_53 rfl (Nat.le_of_ble_eq_true rfl) rfl dX12_pairs_102 rfl ?_
  refine rv_bipush (q := 107) E.x dX12_pairs_105 rv_kb11 rfl ?_
  refine rv_iload (q := 109) E.x dX12_pairs_107 rfl rfl ?_
  refine rv_imul (q := 110) E.x dX12_pairs_109 rfl ?_
  refine rv_iload (q := 112) E.x dX12_pairs_110 rfl rfl ?_
  refine rv_iadd (q := 113) E.x dX12_pairs_112 rfl ?_
  refine rR_iald (q := 114) (n := 121) E (Nat.le_of_ble_eq_true rfl) rfl rfl dX12_pairs_113 rfl ?_
  refine rv_icmp_ne (q := 117) (tgt := 121) E.x dX12_pairs_114 (by decide) rfl ?_ ?_
  · refine rv_iconst (q := 118) E.x dX12_pairs_117 rv_ki1 rfl ?_
    refine rv_goto (q := 122) E.x dX12_pairs_118 (by decide) ?_
    refine rv_wk [true, true, true, true, true, true, true, false] ?_
    exact b12_pairs_122 E k37 h37 M x1 x2 x3 x4 x5 s0 true
  · refine rv_iconst (q := 122) E.x dX12_pairs_121 rv_ki0 rfl ?_
    refine rv_wk [true, true, true, true, true, true, true, false] ?_
    exact b12_pairs_122 E k37 h37 M x1 x2 x3 x4 x5 s0 false
set_option maxRecDepth 100000 in
theorem b12_pairs_37_s {p : Program} {l : Launch} {e : Env} {s : State} {m : MethodId} {args : Array Value} {below : List Frame} {meth : Method} {c : Code} {D : va_G} {cI cZ : ClassId} {ad : Nat → Nat} (E : rR_E D cI cZ ad cX12_pairs 8 none p s m args meth c)   (k37 : rv_Mem → Int32 → Int32 → Int32 → Int32 → Int32 → Option (rv_Mem)) (h37 : ∀ (M : rv_Mem) (x1 : Int32) (x2 : Int32) (x3 : Int32) (x4 : Int32) (x5 : Int32), rv_M (rR_G D cI cZ ad) (rR_A ad) p l e rm12_pairs s m args below meth c 0 0 (rR_qV D cI cZ ad below args s) (k37 M x1 x2 x3 x4 x5) 37 [some (.ref (ad 67)), some (.int x1), some (.int x2), some (.int x3), some (.int x4), some (.int x5), none, none] [] M) : ∀ (M : rv_Mem) (x1 : Int32) (x2 : Int32) (x3 : Int32) (x4 : Int32) (x5 : Int32), rv_M (rR_G D cI cZ ad) (rR_A ad) p l e rm12_pairs s m args below meth c 0 0 (rR_qV D cI cZ ad below args s) (f12_pairs_37_s k37 M x1 x2 x3 x4 x5) 37 [some (.ref (ad 67)), some (.int x1), some (.int x2), some (.int x3), some (.int x4), some (.int x5), none, none] [] M := by
  intro M x1 x2 x3 x4 x5
  unfold f12_pairs_37_s
  refine rv_iload (q := 39) E.x dX12_pairs_37 rfl rfl ?_
  refine rv_aload_n (q := 40) E.x dX12_pairs_39 rfl rfl ?_
  refine rv_iload_n (q := 41) E.x dX12_pairs_40 rfl rfl ?_
  refine rv_iload_n (q := 42) E.x dX12_pairs_41 rfl rfl ?_
  refine rv_b1 (fun r2 e1 => ?_)
  refine rR_calli (q := 45) E (c12_sizeOf E.2.2.1 e1) gX12_sizeOf hX12_sizeOf ⟨rfl, rfl⟩ ⟨Nat.le_of_ble_eq_true rfl, Nat.le_of_ble_eq_true rfl⟩ rfl rfl rfl (Nat.le_of_ble_eq_true rfl) dX12_pairs_42 rfl ?_
  refine rv_icmp_ge (q := 48) (tgt := 185) E.x dX12_pairs_45 (by decide) rfl ?_ ?_
  · refine rv_iload (q := 50) E.x dX12_pairs_48 rfl rfl ?_
    refine rv_aload_n (q := 51) E.x dX12_pairs_50 rfl rfl ?_
    refine rv_iload_n (q := 52) E.x dX12_pairs_51 rfl rfl ?_
    refine rv_iload_n (q := 53) E.x dX12_pairs_52 rfl rfl ?_
    refine rv_b1 (fun r4 e3 => ?_)
    refine rR_calli (q := 56) E (c12_sizeOf E.2.2.1 e3) gX12_sizeOf hX12_sizeOf ⟨rfl, rfl⟩ ⟨Nat.le_of_ble_eq_true rfl, Nat.le_of_ble_eq_true rfl⟩ rfl rfl rfl (Nat.le_of_ble_eq_true rfl) dX12_pairs_53 rfl ?_
    refine rv_icmp_ge (q := 59) (tgt := 185) E.x dX12_pairs_56 (by decide) rfl ?_ ?_
    · refine rv_aload_n (q := 60) E.x dX12_pairs_59 rfl rfl ?_
      refine rv_iload_n (q := 61) E.x dX12_pairs_60 rfl rfl ?_
      refine rv_iload_n (q := 62) E.x dX12_pairs_61 rfl rfl ?_
      refine rv_iload (q := 64) E.x dX12_pairs_62 rfl rfl ?_
      refine rv_b1 (fun r6 e5 => ?_)
      refine rR_calli (q := 67) E (c12_lineAt E.2.2.1 e5) gX12_lineAt hX12_lineAt ⟨rfl, rfl⟩ ⟨Nat.le_of_ble_eq_true rfl, Nat.le_of_ble_eq_true rfl⟩ rfl rfl rfl (Nat.le_of_ble_eq_true rfl) dX12_pairs_64 rfl ?_
      refine rv_aload_n (q := 68) E.x dX12_pairs_67 rfl rfl ?_
      refine rv_iload_n (q := 69) E.x dX12_pairs_68 rfl rfl ?_
      refine rv_iload_n (q := 70) E.x dX12_pairs_69 rfl rfl ?_
      refine rv_iload (q := 72) E.x dX12_pairs_70 rfl rfl ?_
      refine rv_b1 (fun r8 e7 => ?_)
      refine rR_calli (q := 75) E (c12_lineAt E.2.2.1 e7) gX12_lineAt hX12_lineAt ⟨rfl, rfl⟩ ⟨Nat.le_of_ble_eq_true rfl, Nat.le_of_ble_eq_true rfl⟩ rfl rfl rfl (Nat.le_of_ble_eq_true rfl) dX12_pairs_72 rfl ?_
      refine rv_icmp_ne (q := 78) (tgt := 82) E.x dX12_pairs_75 (by decide) rfl ?_ ?_
      · refine rv_iconst (q := 79) E.x dX12_pairs_78 rv_ki1 rfl ?_
        refine rv_goto (q := 83) E.x dX12_pairs_79 (by decide) ?_
        refine rv_wk [true, true, true, true, true, true, false, false] ?_
        exact b12_pairs_83 E k37 h37 M x1 x2 x3 x4 x5 true
      · refine rv_iconst (q := 83) E.x dX12_pairs_82 rv_ki0 rfl ?_
        refine rv_wk [true, true, true, true, true, true, false, false] ?_
        exact b12_pairs_83 E k37 h37 M x1 x2 x3 x4 x5 false
    · exact rR_vret E rfl dX12_pairs_185
  · exact rR_vret E rfl dX12_pairs_185
theorem b12_pairs_37 {p : Program} {l : Launch} {e : Env} {s : State} {m : MethodId} {args : Array Value} {below : List Frame} {meth : Method} {c : Code} {D : va_G} {cI cZ : ClassId} {ad : Nat → Nat} (E : rR_E D cI cZ ad cX12_pairs 8 none p s m args meth c)   : ∀ (n : Nat), ∀ (M : rv_Mem) (x1 : Int32) (x2 : Int32) (x3 : Int32) (x4 : Int32) (x5 : Int32), rv_M (rR_G D cI cZ ad) (rR_A ad) p l e rm12_pairs s m args below meth c 0 0 (rR_qV D cI cZ ad below args s) (f12_pairs_37 n M x1 x2 x3 x4 x5) 37 [some (.ref (ad 67)), some (.int x1), some (.int x2), some (.int x3), some (.int x4), some (.int x5), none, none] [] M := by
  intro n
  induction n with
  | zero => exact fun _ _ _ _ _ _ => rv_stuck
  | succ n ih => exact b12_pairs_37_s E  (f12_pairs_37 n) ih
set_option maxRecDepth 100000 in
theorem b12_pairs_16_s {p : Program} {l : Launch} {e : Env} {s : State} {m : MethodId} {args : Array Value} {below : List Frame} {meth : Method} {c : Code} {D : va_G} {cI cZ : ClassId} {ad : Nat → Nat} (E : rR_E D cI cZ ad cX12_pairs 8 none p s m args meth c)   (k16 : rv_Mem → Int32 → Int32 → Int32 → Int32 → Option (rv_Mem)) (h16 : ∀ (M : rv_Mem) (x1 : Int32) (x2 : Int32) (x3 : Int32) (x6 : Int32), rv_M (rR_G D cI cZ ad) (rR_A ad) p l e rm12_pairs s m args below meth c 0 0 (rR_qV D cI cZ ad below args s) (k16 M x1 x2 x3 x6) 16 [some (.ref (ad 67)), some (.int x1), some (.int x2), some (.int x3), some (.int 0), some (.int 0), some (.int x6), none] [] M) : ∀ (M : rv_Mem) (x1 : Int32) (x2 : Int32) (x3 : Int32) (x6 : Int32), rv_M (rR_G D cI cZ ad) (rR_A ad) p l e rm12_pairs s m args below meth c 0 0 (rR_qV D cI cZ ad below args s) (f12_pairs_16_s k16 M x1 x2 x3 x6) 16 [some (.ref (ad 67)), some (.int x1), some (.int x2), some (.int x3), some (.int 0), some (.int 0), some (.int x6), none] [] M := by
  intro M x1 x2 x3 x6
  unfold f12_pairs_16_s
  refine rv_iload (q := 18) E.x dX12_pairs_16 rfl rfl ?_
  refine rv_bipush (q := 20) E.x dX12_pairs_18 rv_kb10 rfl ?_
  refine rv_icmp_ge (q := 23) (tgt := 37) E.x dX12_pairs_20 (by decide) rfl ?_ ?_
  · refine rv_aload_n (q := 24) E.x dX12_pairs_23 rfl rfl ?_
    refine rR_get (q := 27) E 54 wf12_54 rfl (Nat.le_of_ble_eq_true rfl) rfl dX12_pairs_24 rfl ?_
    refine rv_iload (q := 29) E.x dX12_pairs_27 rfl rfl ?_
    refine rv_iconst (q := 30) E.x dX12_pairs_29 rv_kim1 rfl ?_
    refine rR_iast (q := 31) (n := 10) E (Nat.le_of_ble_eq_true rfl) rfl rfl dX12_pairs_30 rfl ?_
    refine rv_ltm (fun M1 => ?_)
    refine rv_iinc (q := 34) (lv' := [_, _, _, _, _, _, _, _]) E.x dX12_pairs_31 rv_ki1 rfl rfl rfl rfl ?_
    refine rv_goto (q := 16) E.x dX12_pairs_34 (by decide) ?_
    refine rv_wk [true, true, true, true, true, true, true, false] ?_
    exact h16 M1 x1 x2 x3 (x6 + 1)
  · refine rv_wk [true, true, true, true, true, true, false, false] ?_
    exact b12_pairs_37 E rv_FU M x1 x2 x3 0 0
theorem b12_pairs_16 {p : Program} {l : Launch} {e : Env} {s : State} {m : MethodId} {args : Array Value} {below : List Frame} {meth : Method} {c : Code} {D : va_G} {cI cZ : ClassId} {ad : Nat → Nat} (E : rR_E D cI cZ ad cX12_pairs 8 none p s m args meth c)   : ∀ (n : Nat), ∀ (M : rv_Mem) (x1 : Int32) (x2 : Int32) (x3 : Int32) (x6 : Int32), rv_M (rR_G D cI cZ ad) (rR_A ad) p l e rm12_pairs s m args below meth c 0 0 (rR_qV D cI cZ ad below args s) (f12_pairs_16 n M x1 x2 x3 x6) 16 [some (.ref (ad 67)), some (.int x1), some (.int x2), some (.int x3), some (.int 0), some (.int 0), some (.int x6), none] [] M := by
  intro n
  induction n with
  | zero => exact fun _ _ _ _ _ => rv_stuck
  | succ n ih => exact b12_pairs_16_s E  (f12_pairs_16 n) ih
set_option maxRecDepth 100000 in
theorem b12_pairs {p : Program} {l : Launch} {e : Env} {s : State} {m : MethodId} {args : Array Value} {below : List Frame} {meth : Method} {c : Code} {D : va_G} {cI cZ : ClassId} {ad : Nat → Nat} (E : rR_E D cI cZ ad cX12_pairs 8 none p s m args meth c) (M : rv_Mem) (a1 : Int32) (a2 : Int32) (a3 : Int32) : rv_M (rR_G D cI cZ ad) (rR_A ad) p l e rm12_pairs s m args below meth c 0 0  (rR_qV D cI cZ ad below args s) (f12_pairs M a1 a2 a3) 0 [some (.ref (ad 67)), some (.int a1), some (.int a2), some (.int a3), none, none, none, none] [] M := by
  unfold f12_pairs
  refine rv_aload_n (q := 1) E.x dX12_pairs_0 rfl rfl ?_
  refine rv_iload_n (q := 2) E.x dX12_pairs_1 rfl rfl ?_
  refine rv_iload_n (q := 3) E.x dX12_pairs_2 rfl rfl ?_
  refine rv_iload_n (q := 4) E.x dX12_pairs_3 rfl rfl ?_
  refine rv_b1 (fun M2 e1 => ?_)
  refine rR_callv (q := 7) E (c12_laysTable E.2.2.1 e1) gX12_laysTable hX12_laysTable ⟨rfl, rfl⟩ ⟨Nat.le_of_ble_eq_true rfl, Nat.le_of_ble_eq_true rfl⟩ rfl rfl rfl (Nat.le_of_ble_eq_true rfl) dX12_pairs_4 rfl ?_
  refine rv_iconst (q := 8) E.x dX12_pairs_7 rv_ki0 rfl ?_
  refine rv_istore (q := 10) (lv' := [_, _, _, _, _, _, _, _]) E.x dX12_pairs_8 (Nat.le_of_ble_eq_true rfl) rfl rfl rfl ?_
  refine rv_iconst (q := 11) E.x dX12_pairs_10 rv_ki0 rfl ?_
  refine rv_istore (q := 13) (lv' := [_, _, _, _, _, _, _, _]) E.x dX12_pairs_11 (Nat.le_of_ble_eq_true rfl) rfl rfl rfl ?_
  refine rv_iconst (q := 14) E.x dX12_pairs_13 rv_ki0 rfl ?_
  refine rv_istore (q := 16) (lv' := [_, _, _, _, _, _, _, _]) E.x dX12_pairs_14 (Nat.le_of_ble_eq_true rfl) rfl rfl rfl ?_
  refine rv_wk [true, true, true, true, true, true, true, false] ?_
  exact b12_pairs_16 E rv_FU M2 a1 a2 a3 0
theorem c12_pairs {l : Launch} {D : va_G} {cI cZ : ClassId} {ad : Nat → Nat} (hI : rR_I ad) {M : rv_Mem} {a1 : Int32} {a2 : Int32} {a3 : Int32} {M1 : rv_Mem} (h : f12_pairs M a1 a2 a3 = some M1) : Met l yX12_pairs (rv_ws yX12_pairs cX12_pairs 8 none) rm12_pairs (rR_Pc D cI cZ ad [.ref (ad 67), .int a1, .int a2, .int a3] M) (rR_QV D cI cZ ad M1) 0 0 (rR_A ad) := rR_met hI rfl (rv_cat rfl) (Nat.le_of_ble_eq_true rfl) (fun p e s m args below meth c E => ⟨(rR_qV D cI cZ ad below args s), rfl, b12_pairs E M a1 a2 a3⟩) h
abbrev rm12_laysHunks : Room := { frames := 3, cells := 0, slots := 0, locals := 82 }
set_option maxRecDepth 100000 in
theorem b12_laysHunks_249 {p : Program} {l : Launch} {e : Env} {s : State} {m : MethodId} {args : Array Value} {below : List Frame} {meth : Method} {c : Code} {D : va_G} {cI cZ : ClassId} {ad : Nat → Nat} (E : rR_E D cI cZ ad cX12_laysHunks 10 none p s m args meth c) (k21 : rv_Mem → Int32 → Int32 → Int32 → Int32 → Int32 → Int32 → Option (rv_Mem)) (h21 : ∀ (M : rv_Mem) (x1 : Int32) (x2 : Int32) (x3 : Int32) (x4 : Int32) (x5 : Int32) (x6 : Int32), rv_M (rR_G D cI cZ ad) (rR_A ad) p l e rm12_laysHunks s m args below meth c 0 0 (rR_qV D cI cZ ad below args s) (k21 M x1 x2 x3 x4 x5 x6) 21 [some (.ref (ad 67)), some (.int x1), some (.int x2), some (.int x3), some (.int x4), some (.int x5), some (.int x6), none, none, none] [] M) : ∀ (M : rv_Mem) (x1 : Int32) (x2 : Int32) (x3 : Int32) (x4 : Int32) (x5 : Int32) (s0 : Int32) (s1 : Bool), rv_M (rR_G D cI cZ ad) (rR_A ad) p l e rm12_laysHunks s m args below meth c 0 0 (rR_qV D cI cZ ad below args s) (f12_laysHunks_249 k21 M x1 x2 x3 x4 x5 s0 s1) 249 [some (.ref (ad 67)), some (.int x1), some (.int x2), some (.int x3), some (.int x4), some (.int x5), none, none, none, none] [.int (rv_i s1), .int s0] M := by
  intro M x1 x2 x3 x4 x5 s0 s1
  unfold f12_laysHunks_249
  refine rv_iadd (q := 250) E.x dX12_laysHunks_249 rfl ?_
  refine rv_istore (q := 252) (lv' := [_, _, _, _, _, _, _, _, _, _]) E.x dX12_laysHunks_250 (Nat.le_of_ble_eq_true rfl) rfl rfl rfl ?_
  refine rv_goto (q := 21) E.x dX12_laysHunks_252 (by decide) ?_
  refine rv_wk [true, true, true, true, true, true, true, false, false, false] ?_
  exact h21 M x1 x2 x3 x4 x5 (s0 + (rv_i s1))
set_option maxRecDepth 100000 in
theorem b12_laysHunks_227 {p : Program} {l : Launch} {e : Env} {s : State} {m : MethodId} {args : Array Value} {below : List Frame} {meth : Method} {c : Code} {D : va_G} {cI cZ : ClassId} {ad : Nat → Nat} (E : rR_E D cI cZ ad cX12_laysHunks 10 none p s m args meth c) (k21 : rv_Mem → Int32 → Int32 → Int32 → Int32 → Int32 → Int32 → Option (rv_Mem)) (h21 : ∀ (M : rv_Mem) (x1 : Int32) (x2 : Int32) (x3 : Int32) (x4 : Int32) (x5 : Int32) (x6 : Int32), rv_M (rR_G D cI cZ ad) (rR_A ad) p l e rm12_laysHunks s m args below meth c 0 0 (rR_qV D cI cZ ad below args s) (k21 M x1 x2 x3 x4 x5 x6) 21 [some (.ref (ad 67)), some (.int x1), some (.int x2), some (.int x3), some (.int x4), some (.int x5), some (.int x6), none, none, none] [] M) : ∀ (M : rv_Mem) (x1 : Int32) (x2 : Int32) (x3 : Int32) (x4 : Int32) (x6 : Int32) (s0 : Int32) (s1 : Bool), rv_M (rR_G D cI cZ ad) (rR_A ad) p l e rm12_laysHunks s m args below meth c 0 0 (rR_qV D cI cZ ad below args s) (f12_laysHunks_227 k21 M x1 x2 x3 x4 x6 s0 s1) 227 [some (.ref (ad 67)), some (.int x1), some (.int x2), some (.int x3), some (.int x4), none, some (.int x6), none, none, none] [.int (rv_i s1), .int s0] M := by
  intro M x1 x2 x3 x4 x6 s0 s1
  unfold f12_laysHunks_227
  refine rv_iadd (q := 228) E.x dX12_laysHunks_227 rfl ?_
  refine rv_istore (q := 230) (lv' := [_, _, _, _, _, _, _, _, _, _]) E.x dX12_laysHunks_228 (Nat.le_of_ble_eq_true rfl) rfl rfl rfl ?_
  refine rv_iload (q := 232) E.x dX12_laysHunks_230 rfl rfl ?_
  refine rv_iload (q := 234) E.x dX12_laysHunks_232 rfl rfl ?_
  refine rv_aload_n (q := 235) E.x dX12_laysHunks_234 rfl rfl ?_
  refine rv_iload_n (q := 236) E.x dX12_laysHunks_235 rfl rfl ?_
  refine rv_iload (q := 238) E.x dX12_laysHunks_236 rfl rfl ?_
  refine rv_b1 (fun r2 e1 => ?_)
  refine rR_calli (q := 241) E (c12_sizeOf E.2.2.1 e1) gX12_sizeOf hX12_sizeOf ⟨rfl, rfl⟩ ⟨Nat.le_of_ble_eq_true rfl, Nat.le_of_ble_eq_true rfl⟩ rfl rfl rfl (Nat.le_of_ble_eq_true rfl) dX12_laysHunks_238 rfl ?_
  refine rv_icmp_ge (q := 244) (tgt := 248) E.x dX12_laysHunks_241 (by decide) rfl ?_ ?_
  · refine rv_iconst (q := 245) E.x dX12_laysHunks_244 rv_ki1 rfl ?_
    refine rv_goto (q := 249) E.x dX12_laysHunks_245 (by decide) ?_
    refine rv_wk [true, true, true, true, true, true, false, false, false, false] ?_
    exact b12_laysHunks_249 E k21 h21 M x1 x2 x3 x4 (s0 + (rv_i s1)) x6 true
  · refine rv_iconst (q := 249) E.x dX12_laysHunks_248 rv_ki0 rfl ?_
    refine rv_wk [true, true, true, true, true, true, false, false, false, false] ?_
    exact b12_laysHunks_249 E k21 h21 M x1 x2 x3 x4 (s0 + (rv_i s1)) x6 false
set_option maxRecDepth 100000 in
theorem b12_laysHunks_208 {p : Program} {l : Launch} {e : Env} {s : State} {m : MethodId} {args : Array Value} {below : List Frame} {meth : Method} {c : Code} {D : va_G} {cI cZ : ClassId} {ad : Nat → Nat} (E : rR_E D cI cZ ad cX12_laysHunks 10 none p s m args meth c) (k21 : rv_Mem → Int32 → Int32 → Int32 → Int32 → Int32 → Int32 → Option (rv_Mem)) (h21 : ∀ (M : rv_Mem) (x1 : Int32) (x2 : Int32) (x3 : Int32) (x4 : Int32) (x5 : Int32) (x6 : Int32), rv_M (rR_G D cI cZ ad) (rR_A ad) p l e rm12_laysHunks s m args below meth c 0 0 (rR_qV D cI cZ ad below args s) (k21 M x1 x2 x3 x4 x5 x6) 21 [some (.ref (ad 67)), some (.int x1), some (.int x2), some (.int x3), some (.int x4), some (.int x5), some (.int x6), none, none, none] [] M) : ∀ (M : rv_Mem) (x1 : Int32) (x2 : Int32) (x3 : Int32) (x4 : Int32) (x5 : Int32) (x6 : Int32), rv_M (rR_G D cI cZ ad) (rR_A ad) p l e rm12_laysHunks s m args below meth c 0 0 (rR_qV D cI cZ ad below args s) (f12_laysHunks_208 k21 M x1 x2 x3 x4 x5 x6) 208 [some (.ref (ad 67)), some (.int x1), some (.int x2), some (.int x3), some (.int x4), some (.int x5), some (.int x6), none, none, none] [] M := by
  intro M x1 x2 x3 x4 x5 x6
  unfold f12_laysHunks_208
  refine rv_iload (q := 210) E.x dX12_laysHunks_208 rfl rfl ?_
  refine rv_iload (q := 212) E.x dX12_laysHunks_210 rfl rfl ?_
  refine rv_aload_n (q := 213) E.x dX12_laysHunks_212 rfl rfl ?_
  refine rv_iload_n (q := 214) E.x dX12_laysHunks_213 rfl rfl ?_
  refine rv_iload (q := 216) E.x dX12_laysHunks_214 rfl rfl ?_
  refine rv_b1 (fun r2 e1 => ?_)
  refine rR_calli (q := 219) E (c12_sizeOf E.2.2.1 e1) gX12_sizeOf hX12_sizeOf ⟨rfl, rfl⟩ ⟨Nat.le_of_ble_eq_true rfl, Nat.le_of_ble_eq_true rfl⟩ rfl rfl rfl (Nat.le_of_ble_eq_true rfl) dX12_laysHunks_216 rfl ?_
  refine rv_icmp_ge (q := 222) (tgt := 226) E.x dX12_laysHunks_219 (by decide) rfl ?_ ?_
  · refine rv_iconst (q := 223) E.x dX12_laysHunks_222 rv_ki1 rfl ?_
    refine rv_goto (q := 227) E.x dX12_laysHunks_223 (by decide) ?_
    refine rv_wk [true, true, true, true, true, false, true, false, false, false] ?_
    exact b12_laysHunks_227 E k21 h21 M x1 x2 x3 x4 x6 x5 true
  · refine rv_iconst (q := 227) E.x dX12_laysHunks_226 rv_ki0 rfl ?_
    refine rv_wk [true, true, true, true, true, false, true, false, false, false] ?_
    exact b12_laysHunks_227 E k21 h21 M x1 x2 x3 x4 x6 x5 false
set_option maxRecDepth 100000 in
theorem b12_laysHunks_127 {p : Program} {l : Launch} {e : Env} {s : State} {m : MethodId} {args : Array Value} {below : List Frame} {meth : Method} {c : Code} {D : va_G} {cI cZ : ClassId} {ad : Nat → Nat} (E : rR_E D cI cZ ad cX12_laysHunks 10 none p s m args meth c) (k21 : rv_Mem → Int32 → Int32 → Int32 → Int32 → Int32 → Int32 → Option (rv_Mem)) (h21 : ∀ (M : rv_Mem) (x1 : Int32) (x2 : Int32) (x3 : Int32) (x4 : Int32) (x5 : Int32) (x6 : Int32), rv_M (rR_G D cI cZ ad) (rR_A ad) p l e rm12_laysHunks s m args below meth c 0 0 (rR_qV D cI cZ ad below args s) (k21 M x1 x2 x3 x4 x5 x6) 21 [some (.ref (ad 67)), some (.int x1), some (.int x2), some (.int x3), some (.int x4), some (.int x5), some (.int x6), none, none, none] [] M) : ∀ (M : rv_Mem) (x1 : Int32) (x2 : Int32) (x3 : Int32) (x4 : Int32) (x5 : Int32) (x6 : Int32) (x7 : Int32) (x8 : Int32), rv_M (rR_G D cI cZ ad) (rR_A ad) p l e rm12_laysHunks s m args below meth c 0 0 (rR_qV D cI cZ ad below args s) (f12_laysHunks_127 k21 M x1 x2 x3 x4 x5 x6 x7 x8) 127 [some (.ref (ad 67)), some (.int x1), some (.int x2), some (.int x3), some (.int x4), some (.int x5), some (.int x6), some (.int x7), some (.int x8), none] [] M := by
  intro M x1 x2 x3 x4 x5 x6 x7 x8
  unfold f12_laysHunks_127
  refine rv_bipush (q := 129) E.x dX12_laysHunks_127 rv_kb15 rfl ?_
  refine rv_iload_n (q := 130) E.x dX12_laysHunks_129 rfl rfl ?_
  refine rv_imul (q := 131) E.x dX12_laysHunks_130 rfl ?_
  refine rv_aload_n (q := 132) E.x dX12_laysHunks_131 rfl rfl ?_
  refine rR_get (q := 135) E 61 wf12_61 rfl (Nat.le_of_ble_eq_true rfl) rfl dX12_laysHunks_132 rfl ?_
  refine rv_iload_n (q := 136) E.x dX12_laysHunks_135 rfl rfl ?_
  refine rR_iald (q := 137) (n := 4) E (Nat.le_of_ble_eq_true rfl) rfl rfl dX12_laysHunks_136 rfl ?_
  refine rv_iadd (q := 138) E.x dX12_laysHunks_137 rfl ?_
  refine rv_istore (q := 140) (lv' := [_, _, _, _, _, _, _, _, _, _]) E.x dX12_laysHunks_138 (Nat.le_of_ble_eq_true rfl) rfl rfl rfl ?_
  refine rv_aload_n (q := 141) E.x dX12_laysHunks_140 rfl rfl ?_
  refine rR_get (q := 144) E 55 wf12_55 rfl (Nat.le_of_ble_eq_true rfl) rfl dX12_laysHunks_141 rfl ?_
  refine rv_iload (q := 146) E.x dX12_laysHunks_144 rfl rfl ?_
  refine rv_iload (q := 148) E.x dX12_laysHunks_146 rfl rfl ?_
  refine rR_iast (q := 149) (n := 60) E (Nat.le_of_ble_eq_true rfl) rfl rfl dX12_laysHunks_148 rfl ?_
  refine rv_ltm (fun M1 => ?_)
  refine rv_aload_n (q := 150) E.x dX12_laysHunks_149 rfl rfl ?_
  refine rR_get (q := 153) E 56 wf12_56 rfl (Nat.le_of_ble_eq_true rfl) rfl dX12_laysHunks_150 rfl ?_
  refine rv_iload (q := 155) E.x dX12_laysHunks_153 rfl rfl ?_
  refine rv_iload (q := 157) E.x dX12_laysHunks_155 rfl rfl ?_
  refine rR_iast (q := 158) (n := 60) E (Nat.le_of_ble_eq_true rfl) rfl rfl dX12_laysHunks_157 rfl ?_
  refine rv_ltm (fun M2 => ?_)
  refine rv_aload_n (q := 159) E.x dX12_laysHunks_158 rfl rfl ?_
  refine rR_get (q := 162) E 57 wf12_57 rfl (Nat.le_of_ble_eq_true rfl) rfl dX12_laysHunks_159 rfl ?_
  refine rv_iload (q := 164) E.x dX12_laysHunks_162 rfl rfl ?_
  refine rv_iload (q := 166) E.x dX12_laysHunks_164 rfl rfl ?_
  refine rv_iload (q := 168) E.x dX12_laysHunks_166 rfl rfl ?_
  refine rv_isub (q := 169) E.x dX12_laysHunks_168 rfl ?_
  refine rR_iast (q := 170) (n := 60) E (Nat.le_of_ble_eq_true rfl) rfl rfl dX12_laysHunks_169 rfl ?_
  refine rv_ltm (fun M3 => ?_)
  refine rv_aload_n (q := 171) E.x dX12_laysHunks_170 rfl rfl ?_
  refine rR_get (q := 174) E 58 wf12_58 rfl (Nat.le_of_ble_eq_true rfl) rfl dX12_laysHunks_171 rfl ?_
  refine rv_iload (q := 176) E.x dX12_laysHunks_174 rfl rfl ?_
  refine rv_iload (q := 178) E.x dX12_laysHunks_176 rfl rfl ?_
  refine rv_iload (q := 180) E.x dX12_laysHunks_178 rfl rfl ?_
  refine rv_isub (q := 181) E.x dX12_laysHunks_180 rfl ?_
  refine rR_iast (q := 182) (n := 60) E (Nat.le_of_ble_eq_true rfl) rfl rfl dX12_laysHunks_181 rfl ?_
  refine rv_ltm (fun M4 => ?_)
  refine rv_aload_n (q := 183) E.x dX12_laysHunks_182 rfl rfl ?_
  refine rR_get (q := 186) E 59 wf12_59 rfl (Nat.le_of_ble_eq_true rfl) rfl dX12_laysHunks_183 rfl ?_
  refine rv_iload (q := 188) E.x dX12_laysHunks_186 rfl rfl ?_
  refine rv_iload_n (q := 189) E.x dX12_laysHunks_188 rfl rfl ?_
  refine rR_iast (q := 190) (n := 60) E (Nat.le_of_ble_eq_true rfl) rfl rfl dX12_laysHunks_189 rfl ?_
  refine rv_ltm (fun M5 => ?_)
  refine rv_aload_n (q := 191) E.x dX12_laysHunks_190 rfl rfl ?_
  refine rR_get (q := 194) E 60 wf12_60 rfl (Nat.le_of_ble_eq_true rfl) rfl dX12_laysHunks_191 rfl ?_
  refine rv_iload (q := 196) E.x dX12_laysHunks_194 rfl rfl ?_
  refine rv_iload_n (q := 197) E.x dX12_laysHunks_196 rfl rfl ?_
  refine rR_iast (q := 198) (n := 60) E (Nat.le_of_ble_eq_true rfl) rfl rfl dX12_laysHunks_197 rfl ?_
  refine rv_ltm (fun M6 => ?_)
  refine rv_aload_n (q := 199) E.x dX12_laysHunks_198 rfl rfl ?_
  refine rR_get (q := 202) E 61 wf12_61 rfl (Nat.le_of_ble_eq_true rfl) rfl dX12_laysHunks_199 rfl ?_
  refine rv_iload_n (q := 203) E.x dX12_laysHunks_202 rfl rfl ?_
  refine rv_dup2 (q := 204) E.x dX12_laysHunks_203 rfl rfl rfl ?_
  refine rR_iald (q := 205) (n := 4) E (Nat.le_of_ble_eq_true rfl) rfl rfl dX12_laysHunks_204 rfl ?_
  refine rv_iconst (q := 206) E.x dX12_laysHunks_205 rv_ki1 rfl ?_
  refine rv_iadd (q := 207) E.x dX12_laysHunks_206 rfl ?_
  refine rR_iast (q := 208) (n := 4) E (Nat.le_of_ble_eq_true rfl) rfl rfl dX12_laysHunks_207 rfl ?_
  refine rv_ltm (fun M7 => ?_)
  refine rv_wk [true, true, true, true, true, true, true, false, false, false] ?_
  exact b12_laysHunks_208 E k21 h21 M7 x1 x2 x3 x4 x5 x6
set_option maxRecDepth 100000 in
theorem b12_laysHunks_111 {p : Program} {l : Launch} {e : Env} {s : State} {m : MethodId} {args : Array Value} {below : List Frame} {meth : Method} {c : Code} {D : va_G} {cI cZ : ClassId} {ad : Nat → Nat} (E : rR_E D cI cZ ad cX12_laysHunks 10 none p s m args meth c) (k21 : rv_Mem → Int32 → Int32 → Int32 → Int32 → Int32 → Int32 → Option (rv_Mem)) (h21 : ∀ (M : rv_Mem) (x1 : Int32) (x2 : Int32) (x3 : Int32) (x4 : Int32) (x5 : Int32) (x6 : Int32), rv_M (rR_G D cI cZ ad) (rR_A ad) p l e rm12_laysHunks s m args below meth c 0 0 (rR_qV D cI cZ ad below args s) (k21 M x1 x2 x3 x4 x5 x6) 21 [some (.ref (ad 67)), some (.int x1), some (.int x2), some (.int x3), some (.int x4), some (.int x5), some (.int x6), none, none, none] [] M) : ∀ (M : rv_Mem) (x1 : Int32) (x2 : Int32) (x3 : Int32) (x4 : Int32) (x5 : Int32) (x7 : Int32) (x8 : Int32) (s0 : Int32), rv_M (rR_G D cI cZ ad) (rR_A ad) p l e rm12_laysHunks s m args below meth c 0 0 (rR_qV D cI cZ ad below args s) (f12_laysHunks_111 k21 M x1 x2 x3 x4 x5 x7 x8 s0) 111 [some (.ref (ad 67)), some (.int x1), some (.int x2), some (.int x3), some (.int x4), some (.int x5), none, some (.int x7), some (.int x8), none] [.int s0] M := by
  intro M x1 x2 x3 x4 x5 x7 x8 s0
  unfold f12_laysHunks_111
  refine rv_istore (q := 113) (lv' := [_, _, _, _, _, _, _, _, _, _]) E.x dX12_laysHunks_111 (Nat.le_of_ble_eq_true rfl) rfl rfl rfl ?_
  refine rv_iload (q := 115) E.x dX12_laysHunks_113 rfl rfl ?_
  refine rv_iload (q := 117) E.x dX12_laysHunks_115 rfl rfl ?_
  refine rv_icmp_gt (q := 120) (tgt := 127) E.x dX12_laysHunks_117 (by decide) rfl ?_ ?_
  · refine rv_iload (q := 122) E.x dX12_laysHunks_120 rfl rfl ?_
    refine rv_iload (q := 124) E.x dX12_laysHunks_122 rfl rfl ?_
    refine rv_icmp_le (q := 127) (tgt := 208) E.x dX12_laysHunks_124 (by decide) rfl ?_ ?_
    · refine rv_wk [true, true, true, true, true, true, true, true, true, false] ?_
      exact b12_laysHunks_127 E k21 h21 M x1 x2 x3 x4 x5 s0 x7 x8
    · refine rv_wk [true, true, true, true, true, true, true, false, false, false] ?_
      exact b12_laysHunks_208 E k21 h21 M x1 x2 x3 x4 x5 s0
  · refine rv_wk [true, true, true, true, true, true, true, true, true, false] ?_
    exact b12_laysHunks_127 E k21 h21 M x1 x2 x3 x4 x5 s0 x7 x8
set_option maxRecDepth 100000 in
theorem b12_laysHunks_82 {p : Program} {l : Launch} {e : Env} {s : State} {m : MethodId} {args : Array Value} {below : List Frame} {meth : Method} {c : Code} {D : va_G} {cI cZ : ClassId} {ad : Nat → Nat} (E : rR_E D cI cZ ad cX12_laysHunks 10 none p s m args meth c) (k21 : rv_Mem → Int32 → Int32 → Int32 → Int32 → Int32 → Int32 → Option (rv_Mem)) (h21 : ∀ (M : rv_Mem) (x1 : Int32) (x2 : Int32) (x3 : Int32) (x4 : Int32) (x5 : Int32) (x6 : Int32), rv_M (rR_G D cI cZ ad) (rR_A ad) p l e rm12_laysHunks s m args below meth c 0 0 (rR_qV D cI cZ ad below args s) (k21 M x1 x2 x3 x4 x5 x6) 21 [some (.ref (ad 67)), some (.int x1), some (.int x2), some (.int x3), some (.int x4), some (.int x5), some (.int x6), none, none, none] [] M) : ∀ (M : rv_Mem) (x1 : Int32) (x2 : Int32) (x3 : Int32) (x4 : Int32) (x5 : Int32) (x7 : Int32) (x8 : Int32), rv_M (rR_G D cI cZ ad) (rR_A ad) p l e rm12_laysHunks s m args below meth c 0 0 (rR_qV D cI cZ ad below args s) (f12_laysHunks_82 k21 M x1 x2 x3 x4 x5 x7 x8) 82 [some (.ref (ad 67)), some (.int x1), some (.int x2), some (.int x3), some (.int x4), some (.int x5), none, some (.int x7), some (.int x8), none] [] M := by
  intro M x1 x2 x3 x4 x5 x7 x8
  unfold f12_laysHunks_82
  refine rv_iload (q := 84) E.x dX12_laysHunks_82 rfl rfl ?_
  refine rv_aload_n (q := 85) E.x dX12_laysHunks_84 rfl rfl ?_
  refine rv_iload_n (q := 86) E.x dX12_laysHunks_85 rfl rfl ?_
  refine rv_iload (q := 88) E.x dX12_laysHunks_86 rfl rfl ?_
  refine rv_b1 (fun r2 e1 => ?_)
  refine rR_calli (q := 91) E (c12_sizeOf E.2.2.1 e1) gX12_sizeOf hX12_sizeOf ⟨rfl, rfl⟩ ⟨Nat.le_of_ble_eq_true rfl, Nat.le_of_ble_eq_true rfl⟩ rfl rfl rfl (Nat.le_of_ble_eq_true rfl) dX12_laysHunks_88 rfl ?_
  refine rv_icmp_ge (q := 94) (tgt := 104) E.x dX12_laysHunks_91 (by decide) rfl ?_ ?_
  · refine rv_aload_n (q := 95) E.x dX12_laysHunks_94 rfl rfl ?_
    refine rR_get (q := 98) E 54 wf12_54 rfl (Nat.le_of_ble_eq_true rfl) rfl dX12_laysHunks_95 rfl ?_
    refine rv_iload (q := 100) E.x dX12_laysHunks_98 rfl rfl ?_
    refine rR_iald (q := 101) (n := 10) E (Nat.le_of_ble_eq_true rfl) rfl rfl dX12_laysHunks_100 rfl ?_
    refine rv_goto (q := 111) E.x dX12_laysHunks_101 (by decide) ?_
    refine rv_wk [true, true, true, true, true, true, false, true, true, false] ?_
    exact b12_laysHunks_111 E k21 h21 M x1 x2 x3 x4 x5 x7 x8 (M 54 (x5).toNatClampNeg)
  · refine rv_aload_n (q := 105) E.x dX12_laysHunks_104 rfl rfl ?_
    refine rv_iload_n (q := 106) E.x dX12_laysHunks_105 rfl rfl ?_
    refine rv_iload (q := 108) E.x dX12_laysHunks_106 rfl rfl ?_
    refine rv_b1 (fun r4 e3 => ?_)
    refine rR_calli (q := 111) E (c12_sizeOf E.2.2.1 e3) gX12_sizeOf hX12_sizeOf ⟨rfl, rfl⟩ ⟨Nat.le_of_ble_eq_true rfl, Nat.le_of_ble_eq_true rfl⟩ rfl rfl rfl (Nat.le_of_ble_eq_true rfl) dX12_laysHunks_108 rfl ?_
    refine rv_wk [true, true, true, true, true, true, false, true, true, false] ?_
    exact b12_laysHunks_111 E k21 h21 M x1 x2 x3 x4 x5 x7 x8 r4
set_option maxRecDepth 100000 in
theorem b12_laysHunks_53_s {p : Program} {l : Launch} {e : Env} {s : State} {m : MethodId} {args : Array Value} {below : List Frame} {meth : Method} {c : Code} {D : va_G} {cI cZ : ClassId} {ad : Nat → Nat} (E : rR_E D cI cZ ad cX12_laysHunks 10 none p s m args meth c) (k21 : rv_Mem → Int32 → Int32 → Int32 → Int32 → Int32 → Int32 → Option (rv_Mem)) (h21 : ∀ (M : rv_Mem) (x1 : Int32) (x2 : Int32) (x3 : Int32) (x4 : Int32) (x5 : Int32) (x6 : Int32), rv_M (rR_G D cI cZ ad) (rR_A ad) p l e rm12_laysHunks s m args below meth c 0 0 (rR_qV D cI cZ ad below args s) (k21 M x1 x2 x3 x4 x5 x6) 21 [some (.ref (ad 67)), some (.int x1), some (.int x2), some (.int x3), some (.int x4), some (.int x5), some (.int x6), none, none, none] [] M) (k53 : rv_Mem → Int32 → Int32 → Int32 → Int32 → Int32 → Int32 → Int32 → Option (rv_Mem)) (h53 : ∀ (M : rv_Mem) (x1 : Int32) (x2 : Int32) (x3 : Int32) (x4 : Int32) (x5 : Int32) (x7 : Int32) (x8 : Int32), rv_M (rR_G D cI cZ ad) (rR_A ad) p l e rm12_laysHunks s m args below meth c 0 0 (rR_qV D cI cZ ad below args s) (k53 M x1 x2 x3 x4 x5 x7 x8) 53 [some (.ref (ad 67)), some (.int x1), some (.int x2), some (.int x3), some (.int x4), some (.int x5), none, some (.int x7), some (.int x8), none] [] M) : ∀ (M : rv_Mem) (x1 : Int32) (x2 : Int32) (x3 : Int32) (x4 : Int32) (x5 : Int32) (x7 : Int32) (x8 : Int32), rv_M (rR_G D cI cZ ad) (rR_A ad) p l e rm12_laysHunks s m args below meth c 0 0 (rR_qV D cI cZ ad below args s) (f12_laysHunks_53_s k21 k53 M x1 x2 x3 x4 x5 x7 x8) 53 [some (.ref (ad 67)), some (.int x1), some (.int x2), some (.int x3), some (.int x4), some (.int x5), none, some (.int x7), some (.int x8), none] [] M := by
  intro M x1 x2 x3 x4 x5 x7 x8
  unfold f12_laysHunks_53_s
  refine rv_iload (q := 55) E.x dX12_laysHunks_53 rfl rfl ?_
  refine rv_aload_n (q := 56) E.x dX12_laysHunks_55 rfl rfl ?_
  refine rv_iload_n (q := 57) E.x dX12_laysHunks_56 rfl rfl ?_
  refine rv_iload (q := 59) E.x dX12_laysHunks_57 rfl rfl ?_
  refine rv_b1 (fun r2 e1 => ?_)
  refine rR_calli (q := 62) E (c12_sizeOf E.2.2.1 e1) gX12_sizeOf hX12_sizeOf ⟨rfl, rfl⟩ ⟨Nat.le_of_ble_eq_true rfl, Nat.le_of_ble_eq_true rfl⟩ rfl rfl rfl (Nat.le_of_ble_eq_true rfl) dX12_laysHunks_59 rfl ?_
  refine rv_icmp_ge (q := 65) (tgt := 82) E.x dX12_laysHunks_62 (by decide) rfl ?_ ?_
  · refine rv_aload_n (q := 66) E.x dX12_laysHunks_65 rfl rfl ?_
    refine rR_get (q := 69) E 54 wf12_54 rfl (Nat.le_of_ble_eq_true rfl) rfl dX12_laysHunks_66 rfl ?_
    refine rv_iload (q := 71) E.x dX12_laysHunks_69 rfl rfl ?_
    refine rR_iald (q := 72) (n := 10) E (Nat.le_of_ble_eq_true rfl) rfl rfl dX12_laysHunks_71 rfl ?_
    refine rv_iconst (q := 73) E.x dX12_laysHunks_72 rv_kim1 rfl ?_
    refine rv_icmp_ne (q := 76) (tgt := 82) E.x dX12_laysHunks_73 (by decide) rfl ?_ ?_
    · refine rv_iinc (q := 79) (lv' := [_, _, _, _, _, _, _, _, _, _]) E.x dX12_laysHunks_76 rv_ki1 rfl rfl rfl rfl ?_
      refine rv_goto (q := 53) E.x dX12_laysHunks_79 (by decide) ?_
      refine rv_wk [true, true, true, true, true, true, false, true, true, false] ?_
      exact h53 M x1 x2 x3 x4 (x5 + 1) x7 x8
    · refine rv_wk [true, true, true, true, true, true, false, true, true, false] ?_
      exact b12_laysHunks_82 E k21 h21 M x1 x2 x3 x4 x5 x7 x8
  · refine rv_wk [true, true, true, true, true, true, false, true, true, false] ?_
    exact b12_laysHunks_82 E k21 h21 M x1 x2 x3 x4 x5 x7 x8
theorem b12_laysHunks_53 {p : Program} {l : Launch} {e : Env} {s : State} {m : MethodId} {args : Array Value} {below : List Frame} {meth : Method} {c : Code} {D : va_G} {cI cZ : ClassId} {ad : Nat → Nat} (E : rR_E D cI cZ ad cX12_laysHunks 10 none p s m args meth c) (k21 : rv_Mem → Int32 → Int32 → Int32 → Int32 → Int32 → Int32 → Option (rv_Mem)) (h21 : ∀ (M : rv_Mem) (x1 : Int32) (x2 : Int32) (x3 : Int32) (x4 : Int32) (x5 : Int32) (x6 : Int32), rv_M (rR_G D cI cZ ad) (rR_A ad) p l e rm12_laysHunks s m args below meth c 0 0 (rR_qV D cI cZ ad below args s) (k21 M x1 x2 x3 x4 x5 x6) 21 [some (.ref (ad 67)), some (.int x1), some (.int x2), some (.int x3), some (.int x4), some (.int x5), some (.int x6), none, none, none] [] M) : ∀ (n : Nat), ∀ (M : rv_Mem) (x1 : Int32) (x2 : Int32) (x3 : Int32) (x4 : Int32) (x5 : Int32) (x7 : Int32) (x8 : Int32), rv_M (rR_G D cI cZ ad) (rR_A ad) p l e rm12_laysHunks s m args below meth c 0 0 (rR_qV D cI cZ ad below args s) (f12_laysHunks_53 k21 n M x1 x2 x3 x4 x5 x7 x8) 53 [some (.ref (ad 67)), some (.int x1), some (.int x2), some (.int x3), some (.int x4), some (.int x5), none, some (.int x7), some (.int x8), none] [] M := by
  intro n
  induction n with
  | zero => exact fun _ _ _ _ _ _ _ _ => rv_stuck
  | succ n ih => exact b12_laysHunks_53_s E k21 h21 (f12_laysHunks_53 k21 n) ih
set_option maxRecDepth 100000 in
theorem b12_laysHunks_45 {p : Program} {l : Launch} {e : Env} {s : State} {m : MethodId} {args : Array Value} {below : List Frame} {meth : Method} {c : Code} {D : va_G} {cI cZ : ClassId} {ad : Nat → Nat} (E : rR_E D cI cZ ad cX12_laysHunks 10 none p s m args meth c) (k21 : rv_Mem → Int32 → Int32 → Int32 → Int32 → Int32 → Int32 → Option (rv_Mem)) (h21 : ∀ (M : rv_Mem) (x1 : Int32) (x2 : Int32) (x3 : Int32) (x4 : Int32) (x5 : Int32) (x6 : Int32), rv_M (rR_G D cI cZ ad) (rR_A ad) p l e rm12_laysHunks s m args below meth c 0 0 (rR_qV D cI cZ ad below args s) (k21 M x1 x2 x3 x4 x5 x6) 21 [some (.ref (ad 67)), some (.int x1), some (.int x2), some (.int x3), some (.int x4), some (.int x5), some (.int x6), none, none, none] [] M) : ∀ (M : rv_Mem) (x1 : Int32) (x2 : Int32) (x3 : Int32) (x4 : Int32) (x5 : Int32) (x6 : Int32), rv_M (rR_G D cI cZ ad) (rR_A ad) p l e rm12_laysHunks s m args below meth c 0 0 (rR_qV D cI cZ ad below args s) (f12_laysHunks_45 k21 M x1 x2 x3 x4 x5 x6) 45 [some (.ref (ad 67)), some (.int x1), some (.int x2), some (.int x3), some (.int x4), some (.int x5), some (.int x6), none, none, none] [] M := by
  intro M x1 x2 x3 x4 x5 x6
  unfold f12_laysHunks_45
  refine rv_iload (q := 47) E.x dX12_laysHunks_45 rfl rfl ?_
  refine rv_istore (q := 49) (lv' := [_, _, _, _, _, _, _, _, _, _]) E.x dX12_laysHunks_47 (Nat.le_of_ble_eq_true rfl) rfl rfl rfl ?_
  refine rv_iload (q := 51) E.x dX12_laysHunks_49 rfl rfl ?_
  refine rv_istore (q := 53) (lv' := [_, _, _, _, _, _, _, _, _, _]) E.x dX12_laysHunks_51 (Nat.le_of_ble_eq_true rfl) rfl rfl rfl ?_
  refine rv_wk [true, true, true, true, true, true, false, true, true, false] ?_
  exact b12_laysHunks_53 E k21 h21 rv_FU M x1 x2 x3 x4 x5 x5 x6
set_option maxRecDepth 100000 in
theorem b12_laysHunks_21_s {p : Program} {l : Launch} {e : Env} {s : State} {m : MethodId} {args : Array Value} {below : List Frame} {meth : Method} {c : Code} {D : va_G} {cI cZ : ClassId} {ad : Nat → Nat} (E : rR_E D cI cZ ad cX12_laysHunks 10 none p s m args meth c)   (k21 : rv_Mem → Int32 → Int32 → Int32 → Int32 → Int32 → Int32 → Option (rv_Mem)) (h21 : ∀ (M : rv_Mem) (x1 : Int32) (x2 : Int32) (x3 : Int32) (x4 : Int32) (x5 : Int32) (x6 : Int32), rv_M (rR_G D cI cZ ad) (rR_A ad) p l e rm12_laysHunks s m args below meth c 0 0 (rR_qV D cI cZ ad below args s) (k21 M x1 x2 x3 x4 x5 x6) 21 [some (.ref (ad 67)), some (.int x1), some (.int x2), some (.int x3), some (.int x4), some (.int x5), some (.int x6), none, none, none] [] M) : ∀ (M : rv_Mem) (x1 : Int32) (x2 : Int32) (x3 : Int32) (x4 : Int32) (x5 : Int32) (x6 : Int32), rv_M (rR_G D cI cZ ad) (rR_A ad) p l e rm12_laysHunks s m args below meth c 0 0 (rR_qV D cI cZ ad below args s) (f12_laysHunks_21_s k21 M x1 x2 x3 x4 x5 x6) 21 [some (.ref (ad 67)), some (.int x1), some (.int x2), some (.int x3), some (.int x4), some (.int x5), some (.int x6), none, none, none] [] M := by
  intro M x1 x2 x3 x4 x5 x6
  unfold f12_laysHunks_21_s
  refine rv_iload (q := 23) E.x dX12_laysHunks_21 rfl rfl ?_
  refine rv_aload_n (q := 24) E.x dX12_laysHunks_23 rfl rfl ?_
  refine rv_iload_n (q := 25) E.x dX12_laysHunks_24 rfl rfl ?_
  refine rv_iload (q := 27) E.x dX12_laysHunks_25 rfl rfl ?_
  refine rv_b1 (fun r2 e1 => ?_)
  refine rR_calli (q := 30) E (c12_sizeOf E.2.2.1 e1) gX12_sizeOf hX12_sizeOf ⟨rfl, rfl⟩ ⟨Nat.le_of_ble_eq_true rfl, Nat.le_of_ble_eq_true rfl⟩ rfl rfl rfl (Nat.le_of_ble_eq_true rfl) dX12_laysHunks_27 rfl ?_
  refine rv_icmp_lt (q := 33) (tgt := 45) E.x dX12_laysHunks_30 (by decide) rfl ?_ ?_
  · refine rv_iload (q := 35) E.x dX12_laysHunks_33 rfl rfl ?_
    refine rv_aload_n (q := 36) E.x dX12_laysHunks_35 rfl rfl ?_
    refine rv_iload_n (q := 37) E.x dX12_laysHunks_36 rfl rfl ?_
    refine rv_iload (q := 39) E.x dX12_laysHunks_37 rfl rfl ?_
    refine rv_b1 (fun r4 e3 => ?_)
    refine rR_calli (q := 42) E (c12_sizeOf E.2.2.1 e3) gX12_sizeOf hX12_sizeOf ⟨rfl, rfl⟩ ⟨Nat.le_of_ble_eq_true rfl, Nat.le_of_ble_eq_true rfl⟩ rfl rfl rfl (Nat.le_of_ble_eq_true rfl) dX12_laysHunks_39 rfl ?_
    refine rv_icmp_ge (q := 45) (tgt := 255) E.x dX12_laysHunks_42 (by decide) rfl ?_ ?_
    · refine rv_wk [true, true, true, true, true, true, true, false, false, false] ?_
      exact b12_laysHunks_45 E k21 h21 M x1 x2 x3 x4 x5 x6
    · exact rR_vret E rfl dX12_laysHunks_255
  · refine rv_wk [true, true, true, true, true, true, true, false, false, false] ?_
    exact b12_laysHunks_45 E k21 h21 M x1 x2 x3 x4 x5 x6
theorem b12_laysHunks_21 {p : Program} {l : Launch} {e : Env} {s : State} {m : MethodId} {args : Array Value} {below : List Frame} {meth : Method} {c : Code} {D : va_G} {cI cZ : ClassId} {ad : Nat → Nat} (E : rR_E D cI cZ ad cX12_laysHunks 10 none p s m args meth c)   : ∀ (n : Nat), ∀ (M : rv_Mem) (x1 : Int32) (x2 : Int32) (x3 : Int32) (x4 : Int32) (x5 : Int32) (x6 : Int32), rv_M (rR_G D cI cZ ad) (rR_A ad) p l e rm12_laysHunks s m args below meth c 0 0 (rR_qV D cI cZ ad below args s) (f12_laysHunks_21 n M x1 x2 x3 x4 x5 x6) 21 [some (.ref (ad 67)), some (.int x1), some (.int x2), some (.int x3), some (.int x4), some (.int x5), some (.int x6), none, none, none] [] M := by
  intro n
  induction n with
  | zero => exact fun _ _ _ _ _ _ _ => rv_stuck
  | succ n ih => exact b12_laysHunks_21_s E  (f12_laysHunks_21 n) ih
set_option maxRecDepth 100000 in
theorem b12_laysHunks {p : Program} {l : Launch} {e : Env} {s : State} {m : MethodId} {args : Array Value} {below : List Frame} {meth : Method} {c : Code} {D : va_G} {cI cZ : ClassId} {ad : Nat → Nat} (E : rR_E D cI cZ ad cX12_laysHunks 10 none p s m args meth c) (M : rv_Mem) (a1 : Int32) (a2 : Int32) (a3 : Int32) (a4 : Int32) : rv_M (rR_G D cI cZ ad) (rR_A ad) p l e rm12_laysHunks s m args below meth c 0 0  (rR_qV D cI cZ ad below args s) (f12_laysHunks M a1 a2 a3 a4) 0 [some (.ref (ad 67)), some (.int a1), some (.int a2), some (.int a3), some (.int a4), none, none, none, none, none] [] M := by
  unfold f12_laysHunks
  refine rv_aload_n (q := 1) E.x dX12_laysHunks_0 rfl rfl ?_
  refine rv_iload_n (q := 2) E.x dX12_laysHunks_1 rfl rfl ?_
  refine rv_iload_n (q := 3) E.x dX12_laysHunks_2 rfl rfl ?_
  refine rv_iload (q := 5) E.x dX12_laysHunks_3 rfl rfl ?_
  refine rv_b1 (fun M2 e1 => ?_)
  refine rR_callv (q := 8) E (c12_pairs E.2.2.1 e1) gX12_pairs hX12_pairs ⟨rfl, rfl⟩ ⟨Nat.le_of_ble_eq_true rfl, Nat.le_of_ble_eq_true rfl⟩ rfl rfl rfl (Nat.le_of_ble_eq_true rfl) dX12_laysHunks_5 rfl ?_
  refine rv_aload_n (q := 9) E.x dX12_laysHunks_8 rfl rfl ?_
  refine rR_get (q := 12) E 61 wf12_61 rfl (Nat.le_of_ble_eq_true rfl) rfl dX12_laysHunks_9 rfl ?_
  refine rv_iload_n (q := 13) E.x dX12_laysHunks_12 rfl rfl ?_
  refine rv_iconst (q := 14) E.x dX12_laysHunks_13 rv_ki0 rfl ?_
  refine rR_iast (q := 15) (n := 4) E (Nat.le_of_ble_eq_true rfl) rfl rfl dX12_laysHunks_14 rfl ?_
  refine rv_ltm (fun M3 => ?_)
  refine rv_iconst (q := 16) E.x dX12_laysHunks_15 rv_ki0 rfl ?_
  refine rv_istore (q := 18) (lv' := [_, _, _, _, _, _, _, _, _, _]) E.x dX12_laysHunks_16 (Nat.le_of_ble_eq_true rfl) rfl rfl rfl ?_
  refine rv_iconst (q := 19) E.x dX12_laysHunks_18 rv_ki0 rfl ?_
  refine rv_istore (q := 21) (lv' := [_, _, _, _, _, _, _, _, _, _]) E.x dX12_laysHunks_19 (Nat.le_of_ble_eq_true rfl) rfl rfl rfl ?_
  refine rv_wk [true, true, true, true, true, true, true, false, false, false] ?_
  exact b12_laysHunks_21 E rv_FU M3 a1 a2 a3 a4 0 0
theorem c12_laysHunks {l : Launch} {D : va_G} {cI cZ : ClassId} {ad : Nat → Nat} (hI : rR_I ad) {M : rv_Mem} {a1 : Int32} {a2 : Int32} {a3 : Int32} {a4 : Int32} {M1 : rv_Mem} (h : f12_laysHunks M a1 a2 a3 a4 = some M1) : Met l yX12_laysHunks (rv_ws yX12_laysHunks cX12_laysHunks 10 none) rm12_laysHunks (rR_Pc D cI cZ ad [.ref (ad 67), .int a1, .int a2, .int a3, .int a4] M) (rR_QV D cI cZ ad M1) 0 0 (rR_A ad) := rR_met hI rfl (rv_cat rfl) (Nat.le_of_ble_eq_true rfl) (fun p e s m args below meth c E => ⟨(rR_qV D cI cZ ad below args s), rfl, b12_laysHunks E M a1 a2 a3 a4⟩) h
abbrev rm12_areAlike : Room := { frames := 1, cells := 0, slots := 0, locals := 24 }
set_option maxRecDepth 100000 in
theorem b12_areAlike_104 {p : Program} {l : Launch} {e : Env} {s : State} {m : MethodId} {args : Array Value} {below : List Frame} {meth : Method} {c : Code} {D : va_G} {cI cZ : ClassId} {ad : Nat → Nat} (E : rR_E D cI cZ ad cX12_areAlike 6 (some .boolean) p s m args meth c) (M : rv_Mem) (k40 : Int32 → Int32 → Int32 → Bool → Int32 → Option (Bool)) (h40 : ∀ (x1 : Int32) (x2 : Int32) (x3 : Int32) (x4 : Bool) (x5 : Int32), rv_M (rR_G D cI cZ ad) (rR_A ad) p l e rm12_areAlike s m args below meth c 0 0 (rR_qZ D cI cZ ad below args s M) (k40 x1 x2 x3 x4 x5) 40 [some (.ref (ad 67)), some (.int x1), some (.int x2), some (.int x3), some (.int (rv_i x4)), some (.int x5)] [] M) : ∀ (x1 : Int32) (x2 : Int32) (x3 : Int32) (x5 : Int32) (s0 : Bool), rv_M (rR_G D cI cZ ad) (rR_A ad) p l e rm12_areAlike s m args below meth c 0 0 (rR_qZ D cI cZ ad below args s M) (f12_areAlike_104 M k40 x1 x2 x3 x5 s0) 104 [some (.ref (ad 67)), some (.int x1), some (.int x2), some (.int x3), none, some (.int x5)] [.int (rv_i s0)] M := by
  intro x1 x2 x3 x5 s0
  unfold f12_areAlike_104
  refine rv_istore (q := 106) (lv' := [_, _, _, _, _, _]) E.x dX12_areAlike_104 (Nat.le_of_ble_eq_true rfl) rfl rfl rfl ?_
  refine rv_iinc (q := 109) (lv' := [_, _, _, _, _, _]) E.x dX12_areAlike_106 rv_ki1 rfl rfl rfl rfl ?_
  refine rv_goto (q := 40) E.x dX12_areAlike_109 (by decide) ?_
  refine rv_wk [true, true, true, true, true, true] ?_
  exact h40 x1 x2 x3 s0 (x5 + 1)
set_option maxRecDepth 100000 in
theorem b12_areAlike_179 {p : Program} {l : Launch} {e : Env} {s : State} {m : MethodId} {args : Array Value} {below : List Frame} {meth : Method} {c : Code} {D : va_G} {cI cZ : ClassId} {ad : Nat → Nat} (E : rR_E D cI cZ ad cX12_areAlike 6 (some .boolean) p s m args meth c) (M : rv_Mem) (k115 : Int32 → Int32 → Int32 → Bool → Int32 → Option (Bool)) (h115 : ∀ (x1 : Int32) (x2 : Int32) (x3 : Int32) (x4 : Bool) (x5 : Int32), rv_M (rR_G D cI cZ ad) (rR_A ad) p l e rm12_areAlike s m args below meth c 0 0 (rR_qZ D cI cZ ad below args s M) (k115 x1 x2 x3 x4 x5) 115 [some (.ref (ad 67)), some (.int x1), some (.int x2), some (.int x3), some (.int (rv_i x4)), some (.int x5)] [] M) : ∀ (x1 : Int32) (x2 : Int32) (x3 : Int32) (x5 : Int32) (s0 : Bool), rv_M (rR_G D cI cZ ad) (rR_A ad) p l e rm12_areAlike s m args below meth c 0 0 (rR_qZ D cI cZ ad below args s M) (f12_areAlike_179 M k115 x1 x2 x3 x5 s0) 179 [some (.ref (ad 67)), some (.int x1), some (.int x2), some (.int x3), none, some (.int x5)] [.int (rv_i s0)] M := by
  intro x1 x2 x3 x5 s0
  unfold f12_areAlike_179
  refine rv_istore (q := 181) (lv' := [_, _, _, _, _, _]) E.x dX12_areAlike_179 (Nat.le_of_ble_eq_true rfl) rfl rfl rfl ?_
  refine rv_iinc (q := 184) (lv' := [_, _, _, _, _, _]) E.x dX12_areAlike_181 rv_ki1 rfl rfl rfl rfl ?_
  refine rv_goto (q := 115) E.x dX12_areAlike_184 (by decide) ?_
  refine rv_wk [true, true, true, true, true, true] ?_
  exact h115 x1 x2 x3 s0 (x5 + 1)
set_option maxRecDepth 100000 in
theorem b12_areAlike_115_s {p : Program} {l : Launch} {e : Env} {s : State} {m : MethodId} {args : Array Value} {below : List Frame} {meth : Method} {c : Code} {D : va_G} {cI cZ : ClassId} {ad : Nat → Nat} (E : rR_E D cI cZ ad cX12_areAlike 6 (some .boolean) p s m args meth c) (M : rv_Mem)   (k115 : Int32 → Int32 → Int32 → Bool → Int32 → Option (Bool)) (h115 : ∀ (x1 : Int32) (x2 : Int32) (x3 : Int32) (x4 : Bool) (x5 : Int32), rv_M (rR_G D cI cZ ad) (rR_A ad) p l e rm12_areAlike s m args below meth c 0 0 (rR_qZ D cI cZ ad below args s M) (k115 x1 x2 x3 x4 x5) 115 [some (.ref (ad 67)), some (.int x1), some (.int x2), some (.int x3), some (.int (rv_i x4)), some (.int x5)] [] M) : ∀ (x1 : Int32) (x2 : Int32) (x3 : Int32) (x4 : Bool) (x5 : Int32), rv_M (rR_G D cI cZ ad) (rR_A ad) p l e rm12_areAlike s m args below meth c 0 0 (rR_qZ D cI cZ ad below args s M) (f12_areAlike_115_s M k115 x1 x2 x3 x4 x5) 115 [some (.ref (ad 67)), some (.int x1), some (.int x2), some (.int x3), some (.int (rv_i x4)), some (.int x5)] [] M := by
  intro x1 x2 x3 x4 x5
  unfold f12_areAlike_115_s
  refine rv_iload (q := 117) E.x dX12_areAlike_115 rfl rfl ?_
  refine rv_aload_n (q := 118) E.x dX12_areAlike_117 rfl rfl ?_
  refine rR_get (q := 121) E 58 wf12_58 rfl (Nat.le_of_ble_eq_true rfl) rfl dX12_areAlike_118 rfl ?_
  refine rv_iload_n (q := 122) E.x dX12_areAlike_121 rfl rfl ?_
  refine rR_iald (q := 123) (n := 60) E (Nat.le_of_ble_eq_true rfl) rfl rfl dX12_areAlike_122 rfl ?_
  refine rv_icmp_ge (q := 126) (tgt := 187) E.x dX12_areAlike_123 (by decide) rfl ?_ ?_
  · refine rv_iload (q := 128) E.x dX12_areAlike_126 rfl rfl ?_
    refine rv_ifz_eq (q := 131) (tgt := 187) E.x dX12_areAlike_128 (by decide) rfl ?_ ?_
    · refine rv_aload_n (q := 132) E.x dX12_areAlike_131 rfl rfl ?_
      refine rv_aload_n (q := 133) E.x dX12_areAlike_132 rfl rfl ?_
      refine rR_get (q := 136) E 60 wf12_60 rfl (Nat.le_of_ble_eq_true rfl) rfl dX12_areAlike_133 rfl ?_
      refine rv_iload_n (q := 137) E.x dX12_areAlike_136 rfl rfl ?_
      refine rR_iald (q := 138) (n := 60) E (Nat.le_of_ble_eq_true rfl) rfl rfl dX12_areAlike_137 rfl ?_
      refine rv_iload_n (q := 139) E.x dX12_areAlike_138 rfl rfl ?_
      refine rv_aload_n (q := 140) E.x dX12_areAlike_139 rfl rfl ?_
      refine rR_get (q := 143) E 56 wf12_56 rfl (Nat.le_of_ble_eq_true rfl) rfl dX12_areAlike_140 rfl ?_
      refine rv_iload_n (q := 144) E.x dX12_areAlike_143 rfl rfl ?_
      refine rR_iald (q := 145) (n := 60) E (Nat.le_of_ble_eq_true rfl) rfl rfl dX12_areAlike_144 rfl ?_
      refine rv_iload (q := 147) E.x dX12_areAlike_145 rfl rfl ?_
      refine rv_iadd (q := 148) E.x dX12_areAlike_147 rfl ?_
      refine rv_b1 (fun r2 e1 => ?_)
      refine rR_calli (q := 151) E (c12_lineAt E.2.2.1 e1) gX12_lineAt hX12_lineAt ⟨rfl, rfl⟩ ⟨Nat.le_of_ble_eq_true rfl, Nat.le_of_ble_eq_true rfl⟩ rfl rfl rfl (Nat.le_of_ble_eq_true rfl) dX12_areAlike_148 rfl ?_
      refine rv_aload_n (q := 152) E.x dX12_areAlike_151 rfl rfl ?_
      refine rv_aload_n (q := 153) E.x dX12_areAlike_152 rfl rfl ?_
      refine rR_get (q := 156) E 60 wf12_60 rfl (Nat.le_of_ble_eq_true rfl) rfl dX12_areAlike_153 rfl ?_
      refine rv_iload_n (q := 157) E.x dX12_areAlike_156 rfl rfl ?_
      refine rR_iald (q := 158) (n := 60) E (Nat.le_of_ble_eq_true rfl) rfl rfl dX12_areAlike_157 rfl ?_
      refine rv_iload_n (q := 159) E.x dX12_areAlike_158 rfl rfl ?_
      refine rv_aload_n (q := 160) E.x dX12_areAlike_159 rfl rfl ?_
      refine rR_get (q := 163) E 56 wf12_56 rfl (Nat.le_of_ble_eq_true rfl) rfl dX12_areAlike_160 rfl ?_
      refine rv_iload_n (q := 164) E.x dX12_areAlike_163 rfl rfl ?_
      refine rR_iald (q := 165) (n := 60) E (Nat.le_of_ble_eq_true rfl) rfl rfl dX12_areAlike_164 rfl ?_
      refine rv_iload (q := 167) E.x dX12_areAlike_165 rfl rfl ?_
      refine rv_iadd (q := 168) E.x dX12_areAlike_167 rfl ?_
      refine rv_b1 (fun r4 e3 => ?_)
      refine rR_calli (q := 171) E (c12_lineAt E.2.2.1 e3) gX12_lineAt hX12_lineAt ⟨rfl, rfl⟩ ⟨Nat.le_of_ble_eq_true rfl, Nat.le_of_ble_eq_true rfl⟩ rfl rfl rfl (Nat.le_of_ble_eq_true rfl) dX12_areAlike_168 rfl ?_
      refine rv_icmp_ne (q := 174) (tgt := 178) E.x dX12_areAlike_171 (by decide) rfl ?_ ?_
      · refine rv_iconst (q := 175) E.x dX12_areAlike_174 rv_ki1 rfl ?_
        refine rv_goto (q := 179) E.x dX12_areAlike_175 (by decide) ?_
        refine rv_wk [true, true, true, true, false, true] ?_
        exact b12_areAlike_179 E M k115 h115 x1 x2 x3 x5 true
      · refine rv_iconst (q := 179) E.x dX12_areAlike_178 rv_ki0 rfl ?_
        refine rv_wk [true, true, true, true, false, true] ?_
        exact b12_areAlike_179 E M k115 h115 x1 x2 x3 x5 false
    · refine rv_iload (q := 189) E.x dX12_areAlike_187 rfl rfl ?_
      exact rR_zret E x4 rfl dX12_areAlike_189
  · refine rv_iload (q := 189) E.x dX12_areAlike_187 rfl rfl ?_
    exact rR_zret E x4 rfl dX12_areAlike_189
theorem b12_areAlike_115 {p : Program} {l : Launch} {e : Env} {s : State} {m : MethodId} {args : Array Value} {below : List Frame} {meth : Method} {c : Code} {D : va_G} {cI cZ : ClassId} {ad : Nat → Nat} (E : rR_E D cI cZ ad cX12_areAlike 6 (some .boolean) p s m args meth c) (M : rv_Mem)   : ∀ (n : Nat), ∀ (x1 : Int32) (x2 : Int32) (x3 : Int32) (x4 : Bool) (x5 : Int32), rv_M (rR_G D cI cZ ad) (rR_A ad) p l e rm12_areAlike s m args below meth c 0 0 (rR_qZ D cI cZ ad below args s M) (f12_areAlike_115 M n x1 x2 x3 x4 x5) 115 [some (.ref (ad 67)), some (.int x1), some (.int x2), some (.int x3), some (.int (rv_i x4)), some (.int x5)] [] M := by
  intro n
  induction n with
  | zero => exact fun _ _ _ _ _ => rv_stuck
  | succ n ih => exact b12_areAlike_115_s E M (f12_areAlike_115 M n) ih
set_option maxRecDepth 100000 in
theorem b12_areAlike_112 {p : Program} {l : Launch} {e : Env} {s : State} {m : MethodId} {args : Array Value} {below : List Frame} {meth : Method} {c : Code} {D : va_G} {cI cZ : ClassId} {ad : Nat → Nat} (E : rR_E D cI cZ ad cX12_areAlike 6 (some .boolean) p s m args meth c) (M : rv_Mem)   : ∀ (x1 : Int32) (x2 : Int32) (x3 : Int32) (x4 : Bool), rv_M (rR_G D cI cZ ad) (rR_A ad) p l e rm12_areAlike s m args below meth c 0 0 (rR_qZ D cI cZ ad below args s M) (f12_areAlike_112 M x1 x2 x3 x4) 112 [some (.ref (ad 67)), some (.int x1), some (.int x2), some (.int x3), some (.int (rv_i x4)), none] [] M := by
  intro x1 x2 x3 x4
  unfold f12_areAlike_112
  refine rv_iconst (q := 113) E.x dX12_areAlike_112 rv_ki0 rfl ?_
  refine rv_istore (q := 115) (lv' := [_, _, _, _, _, _]) E.x dX12_areAlike_113 (Nat.le_of_ble_eq_true rfl) rfl rfl rfl ?_
  refine rv_wk [true, true, true, true, true, true] ?_
  exact b12_areAlike_115 E M rv_FU x1 x2 x3 x4 0
set_option maxRecDepth 100000 in
theorem b12_areAlike_40_s {p : Program} {l : Launch} {e : Env} {s : State} {m : MethodId} {args : Array Value} {below : List Frame} {meth : Method} {c : Code} {D : va_G} {cI cZ : ClassId} {ad : Nat → Nat} (E : rR_E D cI cZ ad cX12_areAlike 6 (some .boolean) p s m args meth c) (M : rv_Mem)   (k40 : Int32 → Int32 → Int32 → Bool → Int32 → Option (Bool)) (h40 : ∀ (x1 : Int32) (x2 : Int32) (x3 : Int32) (x4 : Bool) (x5 : Int32), rv_M (rR_G D cI cZ ad) (rR_A ad) p l e rm12_areAlike s m args below meth c 0 0 (rR_qZ D cI cZ ad below args s M) (k40 x1 x2 x3 x4 x5) 40 [some (.ref (ad 67)), some (.int x1), some (.int x2), some (.int x3), some (.int (rv_i x4)), some (.int x5)] [] M) : ∀ (x1 : Int32) (x2 : Int32) (x3 : Int32) (x4 : Bool) (x5 : Int32), rv_M (rR_G D cI cZ ad) (rR_A ad) p l e rm12_areAlike s m args below meth c 0 0 (rR_qZ D cI cZ ad below args s M) (f12_areAlike_40_s M k40 x1 x2 x3 x4 x5) 40 [some (.ref (ad 67)), some (.int x1), some (.int x2), some (.int x3), some (.int (rv_i x4)), some (.int x5)] [] M := by
  intro x1 x2 x3 x4 x5
  unfold f12_areAlike_40_s
  refine rv_iload (q := 42) E.x dX12_areAlike_40 rfl rfl ?_
  refine rv_aload_n (q := 43) E.x dX12_areAlike_42 rfl rfl ?_
  refine rR_get (q := 46) E 57 wf12_57 rfl (Nat.le_of_ble_eq_true rfl) rfl dX12_areAlike_43 rfl ?_
  refine rv_iload_n (q := 47) E.x dX12_areAlike_46 rfl rfl ?_
  refine rR_iald (q := 48) (n := 60) E (Nat.le_of_ble_eq_true rfl) rfl rfl dX12_areAlike_47 rfl ?_
  refine rv_icmp_ge (q := 51) (tgt := 112) E.x dX12_areAlike_48 (by decide) rfl ?_ ?_
  · refine rv_iload (q := 53) E.x dX12_areAlike_51 rfl rfl ?_
    refine rv_ifz_eq (q := 56) (tgt := 112) E.x dX12_areAlike_53 (by decide) rfl ?_ ?_
    · refine rv_aload_n (q := 57) E.x dX12_areAlike_56 rfl rfl ?_
      refine rv_aload_n (q := 58) E.x dX12_areAlike_57 rfl rfl ?_
      refine rR_get (q := 61) E 59 wf12_59 rfl (Nat.le_of_ble_eq_true rfl) rfl dX12_areAlike_58 rfl ?_
      refine rv_iload_n (q := 62) E.x dX12_areAlike_61 rfl rfl ?_
      refine rR_iald (q := 63) (n := 60) E (Nat.le_of_ble_eq_true rfl) rfl rfl dX12_areAlike_62 rfl ?_
      refine rv_iload_n (q := 64) E.x dX12_areAlike_63 rfl rfl ?_
      refine rv_aload_n (q := 65) E.x dX12_areAlike_64 rfl rfl ?_
      refine rR_get (q := 68) E 55 wf12_55 rfl (Nat.le_of_ble_eq_true rfl) rfl dX12_areAlike_65 rfl ?_
      refine rv_iload_n (q := 69) E.x dX12_areAlike_68 rfl rfl ?_
      refine rR_iald (q := 70) (n := 60) E (Nat.le_of_ble_eq_true rfl) rfl rfl dX12_areAlike_69 rfl ?_
      refine rv_iload (q := 72) E.x dX12_areAlike_70 rfl rfl ?_
      refine rv_iadd (q := 73) E.x dX12_areAlike_72 rfl ?_
      refine rv_b1 (fun r2 e1 => ?_)
      refine rR_calli (q := 76) E (c12_lineAt E.2.2.1 e1) gX12_lineAt hX12_lineAt ⟨rfl, rfl⟩ ⟨Nat.le_of_ble_eq_true rfl, Nat.le_of_ble_eq_true rfl⟩ rfl rfl rfl (Nat.le_of_ble_eq_true rfl) dX12_areAlike_73 rfl ?_
      refine rv_aload_n (q := 77) E.x dX12_areAlike_76 rfl rfl ?_
      refine rv_aload_n (q := 78) E.x dX12_areAlike_77 rfl rfl ?_
      refine rR_get (q := 81) E 59 wf12_59 rfl (Nat.le_of_ble_eq_true rfl) rfl dX12_areAlike_78 rfl ?_
      refine rv_iload_n (q := 82) E.x dX12_areAlike_81 rfl rfl ?_
      refine rR_iald (q := 83) (n := 60) E (Nat.le_of_ble_eq_true rfl) rfl rfl dX12_areAlike_82 rfl ?_
      refine rv_iload_n (q := 84) E.x dX12_areAlike_83 rfl rfl ?_
      refine rv_aload_n (q := 85) E.x dX12_areAlike_84 rfl rfl ?_
      refine rR_get (q := 88) E 55 wf12_55 rfl (Nat.le_of_ble_eq_true rfl) rfl dX12_areAlike_85 rfl ?_
      refine rv_iload_n (q := 89) E.x dX12_areAlike_88 rfl rfl ?_
      refine rR_iald (q := 90) (n := 60) E (Nat.le_of_ble_eq_true rfl) rfl rfl dX12_areAlike_89 rfl ?_
      refine rv_iload (q := 92) E.x dX12_areAlike_90 rfl rfl ?_
      refine rv_iadd (q := 93) E.x dX12_areAlike_92 rfl ?_
      refine rv_b1 (fun r4 e3 => ?_)
      refine rR_calli (q := 96) E (c12_lineAt E.2.2.1 e3) gX12_lineAt hX12_lineAt ⟨rfl, rfl⟩ ⟨Nat.le_of_ble_eq_true rfl, Nat.le_of_ble_eq_true rfl⟩ rfl rfl rfl (Nat.le_of_ble_eq_true rfl) dX12_areAlike_93 rfl ?_
      refine rv_icmp_ne (q := 99) (tgt := 103) E.x dX12_areAlike_96 (by decide) rfl ?_ ?_
      · refine rv_iconst (q := 100) E.x dX12_areAlike_99 rv_ki1 rfl ?_
        refine rv_goto (q := 104) E.x dX12_areAlike_100 (by decide) ?_
        refine rv_wk [true, true, true, true, false, true] ?_
        exact b12_areAlike_104 E M k40 h40 x1 x2 x3 x5 true
      · refine rv_iconst (q := 104) E.x dX12_areAlike_103 rv_ki0 rfl ?_
        refine rv_wk [true, true, true, true, false, true] ?_
        exact b12_areAlike_104 E M k40 h40 x1 x2 x3 x5 false
    · refine rv_wk [true, true, true, true, true, false] ?_
      exact b12_areAlike_112 E M x1 x2 x3 x4
  · refine rv_wk [true, true, true, true, true, false] ?_
    exact b12_areAlike_112 E M x1 x2 x3 x4
theorem b12_areAlike_40 {p : Program} {l : Launch} {e : Env} {s : State} {m : MethodId} {args : Array Value} {below : List Frame} {meth : Method} {c : Code} {D : va_G} {cI cZ : ClassId} {ad : Nat → Nat} (E : rR_E D cI cZ ad cX12_areAlike 6 (some .boolean) p s m args meth c) (M : rv_Mem)   : ∀ (n : Nat), ∀ (x1 : Int32) (x2 : Int32) (x3 : Int32) (x4 : Bool) (x5 : Int32), rv_M (rR_G D cI cZ ad) (rR_A ad) p l e rm12_areAlike s m args below meth c 0 0 (rR_qZ D cI cZ ad below args s M) (f12_areAlike_40 M n x1 x2 x3 x4 x5) 40 [some (.ref (ad 67)), some (.int x1), some (.int x2), some (.int x3), some (.int (rv_i x4)), some (.int x5)] [] M := by
  intro n
  induction n with
  | zero => exact fun _ _ _ _ _ => rv_stuck
  | succ n ih => exact b12_areAlike_40_s E M (f12_areAlike_40 M n) ih
set_option maxRecDepth 100000 in
theorem b12_areAlike_35 {p : Program} {l : Launch} {e : Env} {s : State} {m : MethodId} {args : Array Value} {below : List Frame} {meth : Method} {c : Code} {D : va_G} {cI cZ : ClassId} {ad : Nat → Nat} (E : rR_E D cI cZ ad cX12_areAlike 6 (some .boolean) p s m args meth c) (M : rv_Mem)   : ∀ (x1 : Int32) (x2 : Int32) (x3 : Int32) (s0 : Bool), rv_M (rR_G D cI cZ ad) (rR_A ad) p l e rm12_areAlike s m args below meth c 0 0 (rR_qZ D cI cZ ad below args s M) (f12_areAlike_35 M x1 x2 x3 s0) 35 [some (.ref (ad 67)), some (.int x1), some (.int x2), some (.int x3), none, none] [.int (rv_i s0)] M := by
  intro x1 x2 x3 s0
  unfold f12_areAlike_35
  refine rv_istore (q := 37) (lv' := [_, _, _, _, _, _]) E.x dX12_areAlike_35 (Nat.le_of_ble_eq_true rfl) rfl rfl rfl ?_
  refine rv_iconst (q := 38) E.x dX12_areAlike_37 rv_ki0 rfl ?_
  refine rv_istore (q := 40) (lv' := [_, _, _, _, _, _]) E.x dX12_areAlike_38 (Nat.le_of_ble_eq_true rfl) rfl rfl rfl ?_
  refine rv_wk [true, true, true, true, true, true] ?_
  exact b12_areAlike_40 E M rv_FU x1 x2 x3 s0 0
set_option maxRecDepth 100000 in
theorem b12_areAlike_34 {p : Program} {l : Launch} {e : Env} {s : State} {m : MethodId} {args : Array Value} {below : List Frame} {meth : Method} {c : Code} {D : va_G} {cI cZ : ClassId} {ad : Nat → Nat} (E : rR_E D cI cZ ad cX12_areAlike 6 (some .boolean) p s m args meth c) (M : rv_Mem)   : ∀ (x1 : Int32) (x2 : Int32) (x3 : Int32), rv_M (rR_G D cI cZ ad) (rR_A ad) p l e rm12_areAlike s m args below meth c 0 0 (rR_qZ D cI cZ ad below args s M) (f12_areAlike_34 M x1 x2 x3) 34 [some (.ref (ad 67)), some (.int x1), some (.int x2), some (.int x3), none, none] [] M := by
  intro x1 x2 x3
  unfold f12_areAlike_34
  refine rv_iconst (q := 35) E.x dX12_areAlike_34 rv_ki0 rfl ?_
  refine rv_wk [true, true, true, true, false, false] ?_
  exact b12_areAlike_35 E M x1 x2 x3 false
set_option maxRecDepth 100000 in
theorem b12_areAlike {p : Program} {l : Launch} {e : Env} {s : State} {m : MethodId} {args : Array Value} {below : List Frame} {meth : Method} {c : Code} {D : va_G} {cI cZ : ClassId} {ad : Nat → Nat} (E : rR_E D cI cZ ad cX12_areAlike 6 (some .boolean) p s m args meth c) (M : rv_Mem) (a1 : Int32) (a2 : Int32) (a3 : Int32) : rv_M (rR_G D cI cZ ad) (rR_A ad) p l e rm12_areAlike s m args below meth c 0 0  (rR_qZ D cI cZ ad below args s M) (f12_areAlike M a1 a2 a3) 0 [some (.ref (ad 67)), some (.int a1), some (.int a2), some (.int a3), none, none] [] M := by
  unfold f12_areAlike
  refine rv_aload_n (q := 1) E.x dX12_areAlike_0 rfl rfl ?_
  refine rR_get (q := 4) E 57 wf12_57 rfl (Nat.le_of_ble_eq_true rfl) rfl dX12_areAlike_1 rfl ?_
  refine rv_iload_n (q := 5) E.x dX12_areAlike_4 rfl rfl ?_
  refine rR_iald (q := 6) (n := 60) E (Nat.le_of_ble_eq_true rfl) rfl rfl dX12_areAlike_5 rfl ?_
  refine rv_aload_n (q := 7) E.x dX12_areAlike_6 rfl rfl ?_
  refine rR_get (q := 10) E 57 wf12_57 rfl (Nat.le_of_ble_eq_true rfl) rfl dX12_areAlike_7 rfl ?_
  refine rv_iload_n (q := 11) E.x dX12_areAlike_10 rfl rfl ?_
  refine rR_iald (q := 12) (n := 60) E (Nat.le_of_ble_eq_true rfl) rfl rfl dX12_areAlike_11 rfl ?_
  refine rv_icmp_ne (q := 15) (tgt := 34) E.x dX12_areAlike_12 (by decide) rfl ?_ ?_
  · refine rv_aload_n (q := 16) E.x dX12_areAlike_15 rfl rfl ?_
    refine rR_get (q := 19) E 58 wf12_58 rfl (Nat.le_of_ble_eq_true rfl) rfl dX12_areAlike_16 rfl ?_
    refine rv_iload_n (q := 20) E.x dX12_areAlike_19 rfl rfl ?_
    refine rR_iald (q := 21) (n := 60) E (Nat.le_of_ble_eq_true rfl) rfl rfl dX12_areAlike_20 rfl ?_
    refine rv_aload_n (q := 22) E.x dX12_areAlike_21 rfl rfl ?_
    refine rR_get (q := 25) E 58 wf12_58 rfl (Nat.le_of_ble_eq_true rfl) rfl dX12_areAlike_22 rfl ?_
    refine rv_iload_n (q := 26) E.x dX12_areAlike_25 rfl rfl ?_
    refine rR_iald (q := 27) (n := 60) E (Nat.le_of_ble_eq_true rfl) rfl rfl dX12_areAlike_26 rfl ?_
    refine rv_icmp_ne (q := 30) (tgt := 34) E.x dX12_areAlike_27 (by decide) rfl ?_ ?_
    · refine rv_iconst (q := 31) E.x dX12_areAlike_30 rv_ki1 rfl ?_
      refine rv_goto (q := 35) E.x dX12_areAlike_31 (by decide) ?_
      refine rv_wk [true, true, true, true, false, false] ?_
      exact b12_areAlike_35 E M a1 a2 a3 true
    · refine rv_wk [true, true, true, true, false, false] ?_
      exact b12_areAlike_34 E M a1 a2 a3
  · refine rv_wk [true, true, true, true, false, false] ?_
    exact b12_areAlike_34 E M a1 a2 a3
theorem c12_areAlike {l : Launch} {D : va_G} {cI cZ : ClassId} {ad : Nat → Nat} (hI : rR_I ad) {M : rv_Mem} {a1 : Int32} {a2 : Int32} {a3 : Int32} {r : Bool} (h : f12_areAlike M a1 a2 a3 = some r) : Met l yX12_areAlike (rv_ws yX12_areAlike cX12_areAlike 6 (some .boolean)) rm12_areAlike (rR_Pc D cI cZ ad [.ref (ad 67), .int a1, .int a2, .int a3] M) (rR_QI D cI cZ ad (rv_i r) M) 0 0 (rR_A ad) := rR_met hI rfl (rv_cat rfl) (Nat.le_of_ble_eq_true rfl) (fun p e s m args below meth c E => ⟨(rR_qZ D cI cZ ad below args s M), rfl, b12_areAlike E M a1 a2 a3⟩) h
abbrev rm12_fills : Room := { frames := 1, cells := 0, slots := 0, locals := 24 }
set_option maxRecDepth 100000 in
theorem b12_fills_3_s {p : Program} {l : Launch} {e : Env} {s : State} {m : MethodId} {args : Array Value} {below : List Frame} {meth : Method} {c : Code} {D : va_G} {cI cZ : ClassId} {ad : Nat → Nat} (E : rR_E D cI cZ ad cX12_fills 6 none p s m args meth c)   (k3 : rv_Mem → Int32 → Int32 → Int32 → Int32 → Int32 → Option (rv_Mem)) (h3 : ∀ (M : rv_Mem) (x1 : Int32) (x2 : Int32) (x3 : Int32) (x4 : Int32) (x5 : Int32), rv_M (rR_G D cI cZ ad) (rR_A ad) p l e rm12_fills s m args below meth c 0 0 (rR_qV D cI cZ ad below args s) (k3 M x1 x2 x3 x4 x5) 3 [some (.ref (ad 67)), some (.int x1), some (.int x2), some (.int x3), some (.int x4), some (.int x5)] [] M) : ∀ (M : rv_Mem) (x1 : Int32) (x2 : Int32) (x3 : Int32) (x4 : Int32) (x5 : Int32), rv_M (rR_G D cI cZ ad) (rR_A ad) p l e rm12_fills s m args below meth c 0 0 (rR_qV D cI cZ ad below args s) (f12_fills_3_s k3 M x1 x2 x3 x4 x5) 3 [some (.ref (ad 67)), some (.int x1), some (.int x2), some (.int x3), some (.int x4), some (.int x5)] [] M := by
  intro M x1 x2 x3 x4 x5
  unfold f12_fills_3_s
  refine rv_iload (q := 5) E.x dX12_fills_3 rfl rfl ?_
  refine rv_iload (q := 7) E.x dX12_fills_5 rfl rfl ?_
  refine rv_icmp_ge (q := 10) (tgt := 45) E.x dX12_fills_7 (by decide) rfl ?_ ?_
  · refine rv_aload_n (q := 11) E.x dX12_fills_10 rfl rfl ?_
    refine rR_get (q := 14) E 62 wf12_62 rfl (Nat.le_of_ble_eq_true rfl) rfl dX12_fills_11 rfl ?_
    refine rv_aload_n (q := 15) E.x dX12_fills_14 rfl rfl ?_
    refine rR_get (q := 18) E 63 wf12_63 rfl (Nat.le_of_ble_eq_true rfl) rfl dX12_fills_15 rfl ?_
    refine rv_aload_n (q := 19) E.x dX12_fills_18 rfl rfl ?_
    refine rv_iload_n (q := 20) E.x dX12_fills_19 rfl rfl ?_
    refine rv_iload_n (q := 21) E.x dX12_fills_20 rfl rfl ?_
    refine rv_iload_n (q := 22) E.x dX12_fills_21 rfl rfl ?_
    refine rv_iload (q := 24) E.x dX12_fills_22 rfl rfl ?_
    refine rv_iadd (q := 25) E.x dX12_fills_24 rfl ?_
    refine rv_b1 (fun r2 e1 => ?_)
    refine rR_calli (q := 28) E (c12_lineAt E.2.2.1 e1) gX12_lineAt hX12_lineAt ⟨rfl, rfl⟩ ⟨Nat.le_of_ble_eq_true rfl, Nat.le_of_ble_eq_true rfl⟩ rfl rfl rfl (Nat.le_of_ble_eq_true rfl) dX12_fills_25 rfl ?_
    refine rR_iast (q := 29) (n := 24) E (Nat.le_of_ble_eq_true rfl) rfl rfl dX12_fills_28 rfl ?_
    refine rv_ltm (fun M3 => ?_)
    refine rv_aload_n (q := 30) E.x dX12_fills_29 rfl rfl ?_
    refine rv_dup (q := 31) E.x dX12_fills_30 rfl rfl ?_
    refine rR_get (q := 34) E 63 wf12_63 rfl (Nat.le_of_ble_eq_true rfl) rfl dX12_fills_31 rfl ?_
    refine rv_iconst (q := 35) E.x dX12_fills_34 rv_ki1 rfl ?_
    refine rv_iadd (q := 36) E.x dX12_fills_35 rfl ?_
    refine rR_put (q := 39) E 63 wf12_63 rfl (Nat.le_of_ble_eq_true rfl) rfl rfl rfl dX12_fills_36 rfl ?_
    refine rv_ltm (fun M4 => ?_)
    refine rv_iinc (q := 42) (lv' := [_, _, _, _, _, _]) E.x dX12_fills_39 rv_ki1 rfl rfl rfl rfl ?_
    refine rv_goto (q := 3) E.x dX12_fills_42 (by decide) ?_
    refine rv_wk [true, true, true, true, true, true] ?_
    exact h3 M4 x1 x2 x3 x4 (x5 + 1)
  · exact rR_vret E rfl dX12_fills_45
theorem b12_fills_3 {p : Program} {l : Launch} {e : Env} {s : State} {m : MethodId} {args : Array Value} {below : List Frame} {meth : Method} {c : Code} {D : va_G} {cI cZ : ClassId} {ad : Nat → Nat} (E : rR_E D cI cZ ad cX12_fills 6 none p s m args meth c)   : ∀ (n : Nat), ∀ (M : rv_Mem) (x1 : Int32) (x2 : Int32) (x3 : Int32) (x4 : Int32) (x5 : Int32), rv_M (rR_G D cI cZ ad) (rR_A ad) p l e rm12_fills s m args below meth c 0 0 (rR_qV D cI cZ ad below args s) (f12_fills_3 n M x1 x2 x3 x4 x5) 3 [some (.ref (ad 67)), some (.int x1), some (.int x2), some (.int x3), some (.int x4), some (.int x5)] [] M := by
  intro n
  induction n with
  | zero => exact fun _ _ _ _ _ _ => rv_stuck
  | succ n ih => exact b12_fills_3_s E  (f12_fills_3 n) ih
set_option maxRecDepth 100000 in
theorem b12_fills {p : Program} {l : Launch} {e : Env} {s : State} {m : MethodId} {args : Array Value} {below : List Frame} {meth : Method} {c : Code} {D : va_G} {cI cZ : ClassId} {ad : Nat → Nat} (E : rR_E D cI cZ ad cX12_fills 6 none p s m args meth c) (M : rv_Mem) (a1 : Int32) (a2 : Int32) (a3 : Int32) (a4 : Int32) : rv_M (rR_G D cI cZ ad) (rR_A ad) p l e rm12_fills s m args below meth c 0 0  (rR_qV D cI cZ ad below args s) (f12_fills M a1 a2 a3 a4) 0 [some (.ref (ad 67)), some (.int a1), some (.int a2), some (.int a3), some (.int a4), none] [] M := by
  unfold f12_fills
  refine rv_iconst (q := 1) E.x dX12_fills_0 rv_ki0 rfl ?_
  refine rv_istore (q := 3) (lv' := [_, _, _, _, _, _]) E.x dX12_fills_1 (Nat.le_of_ble_eq_true rfl) rfl rfl rfl ?_
  refine rv_wk [true, true, true, true, true, true] ?_
  exact b12_fills_3 E rv_FU M a1 a2 a3 a4 0
theorem c12_fills {l : Launch} {D : va_G} {cI cZ : ClassId} {ad : Nat → Nat} (hI : rR_I ad) {M : rv_Mem} {a1 : Int32} {a2 : Int32} {a3 : Int32} {a4 : Int32} {M1 : rv_Mem} (h : f12_fills M a1 a2 a3 a4 = some M1) : Met l yX12_fills (rv_ws yX12_fills cX12_fills 6 none) rm12_fills (rR_Pc D cI cZ ad [.ref (ad 67), .int a1, .int a2, .int a3, .int a4] M) (rR_QV D cI cZ ad M1) 0 0 (rR_A ad) := rR_met hI rfl (rv_cat rfl) (Nat.le_of_ble_eq_true rfl) (fun p e s m args below meth c E => ⟨(rR_qV D cI cZ ad below args s), rfl, b12_fills E M a1 a2 a3 a4⟩) h
