abbrev rmp_dice : Room := { frames := 0, cells := 0, slots := 0, locals := 0 }
set_option maxRecDepth 100000 in
theorem bp_dice_32 {p : Program} {l : Launch} {e : Env} {s : State} {m : MethodId} {args : Array Value} {below : List Frame} {meth : Method} {c : Code} {D : va_G} {cI cZ cO : ClassId} {mi de z0 o b L : Nat} {k : Nat → Nat} {xs : Nat → Int32} (E : lk_E D cI cZ cO mi de z0 b L k xs cL_dice 2 (some .int) p l s m args meth c) (gh : rC_gh) (A : rv_Mem)   : ∀ (M : rv_Mem) (s0 : Int32), rv_M (lk_G D cI cZ cO de z0 o k) (fun q => z0 ≤ q) p l e rmp_dice s m args below meth c 0 0 (lk_qRI D cI cZ cO de z0 o k gh A below args s 0 0) (gp_dice_32 L xs gh A M s0) 32 [none, none] [.int s0] (gh, M, A) := by
  intro M s0
  unfold gp_dice_32
  refine lk_ldc (q := 34) E wkL_8 dL_dice_32 rfl ?_
  refine rv_iand (q := 35) E.x dL_dice_34 rfl ?_
  exact lk_iret E rfl ⟨Nat.le_of_ble_eq_true rfl, Nat.le_of_ble_eq_true rfl⟩ dL_dice_35
set_option maxRecDepth 100000 in
theorem bp_dice {p : Program} {l : Launch} {e : Env} {s : State} {m : MethodId} {args : Array Value} {below : List Frame} {meth : Method} {c : Code} {D : va_G} {cI cZ cO : ClassId} {mi de z0 o b L : Nat} {k : Nat → Nat} {xs : Nat → Int32} (E : lk_E D cI cZ cO mi de z0 b L k xs cL_dice 2 (some .int) p l s m args meth c) (gh : rC_gh) (M A : rv_Mem) (a2 : Int32) : rv_M (lk_G D cI cZ cO de z0 o k) (fun q => z0 ≤ q) p l e rmp_dice s m args below meth c 0 0 (lk_qRI D cI cZ cO de z0 o k gh A below args s 0 0) (gp_dice L xs gh M A a2) 0 [some (.ref b), some (.int a2)] [] (gh, M, A) := by
  unfold gp_dice
  refine rv_iload_n (q := 1) E.x dL_dice_0 rfl rfl ?_
  refine rv_aload_n (q := 2) E.x dL_dice_1 rfl rfl ?_
  refine lk_slen (q := 3) E dL_dice_2 rfl ?_
  refine rv_icmp_ge (q := 6) (tgt := 12) E.x dL_dice_3 (by decide) rfl ?_ ?_
  · refine rv_aload_n (q := 7) E.x dL_dice_6 rfl rfl ?_
    refine rv_iload_n (q := 8) E.x dL_dice_7 rfl rfl ?_
    refine lk_sld (q := 9) E dL_dice_8 rfl ?_
    refine rv_goto (q := 32) E.x dL_dice_9 (by decide) ?_
    refine rv_wk [false, false] ?_
    exact bp_dice_32 E gh A M (xs (a2).toNatClampNeg)
  · refine lk_ldc (q := 14) E wkL_7 dL_dice_12 rfl ?_
    refine rv_iload_n (q := 15) E.x dL_dice_14 rfl rfl ?_
    refine rv_sipush (q := 18) E.x dL_dice_15 rv_ks331 rfl ?_
    refine rv_iadd (q := 19) E.x dL_dice_18 rfl ?_
    refine rv_imul (q := 20) E.x dL_dice_19 rfl ?_
    refine rv_sipush (q := 23) E.x dL_dice_20 rv_ks723 rfl ?_
    refine rv_iload_n (q := 24) E.x dL_dice_23 rfl rfl ?_
    refine rv_imul (q := 25) E.x dL_dice_24 rfl ?_
    refine rv_iload_n (q := 26) E.x dL_dice_25 rfl rfl ?_
    refine rv_imul (q := 27) E.x dL_dice_26 rfl ?_
    refine rv_iadd (q := 28) E.x dL_dice_27 rfl ?_
    refine rv_sipush (q := 31) E.x dL_dice_28 rv_ks227 rfl ?_
    refine rv_iadd (q := 32) E.x dL_dice_31 rfl ?_
    refine rv_wk [false, false] ?_
    exact bp_dice_32 E gh A M (((1160258023 * (a2 + 331)) + ((723 * a2) * a2)) + 227)
theorem wP_dice {l : Launch} {D : va_G} {cI cZ cO : ClassId} {mi de z0 o b L : Nat} {k : Nat → Nat} {xs : Nat → Int32} (S : lk_S l de z0 b k) {gh : rC_gh} {M A : rv_Mem} {a2 : Int32} {r : Int32} {M1 : rv_Mem} (h : gp_dice L xs gh M A a2 = some (r, M1)) : Met l yL_dice (rv_ws yL_dice cL_dice 2 (some .int)) rmp_dice (va_Pc [.ref b, .int a2] (lk_P D cI cZ cO mi de z0 o b L k xs (gh, M, A))) (lk_qi D cI cZ cO de z0 o k r (gh, M1, A)) 0 0 (fun q => z0 ≤ q) := lk_met S rfl (Nat.le_of_ble_eq_true rfl) (fun p e s m args below meth c E => ⟨(lk_qRI D cI cZ cO de z0 o k gh A below args s 0 0), rfl, bp_dice E gh M A a2⟩) h
abbrev rmp_act : Room := { frames := 10, cells := 3, slots := 193, locals := 244 }
set_option maxRecDepth 100000 in
theorem bp_act_156 {p : Program} {l : Launch} {e : Env} {s : State} {m : MethodId} {args : Array Value} {below : List Frame} {meth : Method} {c : Code} {D : va_G} {cI cZ cO : ClassId} {mi de z0 o b L : Nat} {k : Nat → Nat} {xs : Nat → Int32} (E : lk_E D cI cZ cO mi de z0 b L k xs cL_act 8 (some .int) p l s m args meth c) (htb : c.exceptionTable.toList = tableOf [(0, 470, 471, 98), (0, 470, 477, 100), (0, 470, 483, 102)]) (A : rv_Mem)   : ∀ (gh : rC_gh) (M : rv_Mem) (s1 : Int32) (s2 : Bool) (s3 : Bool), rv_M (lk_G D cI cZ cO de z0 o k) (fun q => z0 ≤ q) p l e rmp_act s m args below meth c 0 0 (lk_qWI D cI cZ cO de z0 o k A below args s 3 193) (gp_act_156 A gh M s1 s2 s3) 156 [none, none, none, none, none, none, none, none] [.int (rv_i s3), .int (rv_i s2), .int s1, .ref o] (gh, M, A) := by
  intro gh M s1 s2 s3
  unfold gp_act_156
  refine lk_x3r (fun r2 M5 e1 => ?_) (fun w3 M6 e4 => ?_)
  · refine lk_ci (q := 159) (v := r2) (M1 := M5) E (fun u hI _ => c11_setFlags E.2.2.1.1 hI e1) gP_41 hX11_setFlags ⟨rfl, rfl⟩ ⟨Nat.le_of_ble_eq_true rfl, Nat.le_of_ble_eq_true rfl⟩ ⟨Nat.le_of_ble_eq_true rfl, Nat.le_of_ble_eq_true rfl⟩ rfl rfl rfl (Nat.le_of_ble_eq_true rfl) dL_act_156 rfl ?_
    refine rv_goto (q := 470) E.x dL_act_159 (by decide) ?_
    exact lk_iret E rfl ⟨Nat.le_of_ble_eq_true rfl, Nat.le_of_ble_eq_true rfl⟩ dL_act_470
  · refine lk_hhr ?_ ?_ ?_
    · intro hx; subst hx
      refine lk_cx (x := 1) (M1 := M6) (hh := [(0, 470, 471, 98), (0, 470, 477, 100), (0, 470, 483, 102)]) E (fun u hI _ => ⟨_, Or.inl rfl, c11_setFlags_x E.2.2.1.1 hI e4⟩) gP_41 hX11_setFlags ⟨rfl, rfl⟩ ⟨Nat.le_of_ble_eq_true rfl, Nat.le_of_ble_eq_true rfl⟩ ⟨Nat.le_of_ble_eq_true rfl, Nat.le_of_ble_eq_true rfl⟩ rfl rfl rfl (Nat.le_of_ble_eq_true rfl) dL_act_156 htb [] ⟨0, 470, 471, 98⟩ [⟨0, 470, 477, 100⟩, ⟨0, 470, 483, 102⟩] rfl (fun z hz => nomatch hz) rfl (by decide) lP_1 E.2.1.2.2.1.2.2.2.1 (fun q9 => ?_)
      refine rv_astore (q := 473) (lv' := [_, _, _, _, _, _, _, _]) E.x dL_act_471 (Nat.le_of_ble_eq_true rfl) rfl rfl rfl ?_
      refine rv_sipush (q := 476) E.x dL_act_473 rv_ksm1261 rfl ?_
      exact lk_iret E rfl ⟨Nat.le_of_ble_eq_true rfl, Nat.le_of_ble_eq_true rfl⟩ dL_act_476
    · intro hx; subst hx
      refine lk_cx (x := 2) (M1 := M6) (hh := [(0, 470, 471, 98), (0, 470, 477, 100), (0, 470, 483, 102)]) E (fun u hI _ => ⟨_, Or.inl rfl, c11_setFlags_x E.2.2.1.1 hI e4⟩) gP_41 hX11_setFlags ⟨rfl, rfl⟩ ⟨Nat.le_of_ble_eq_true rfl, Nat.le_of_ble_eq_true rfl⟩ ⟨Nat.le_of_ble_eq_true rfl, Nat.le_of_ble_eq_true rfl⟩ rfl rfl rfl (Nat.le_of_ble_eq_true rfl) dL_act_156 htb [⟨0, 470, 471, 98⟩] ⟨0, 470, 477, 100⟩ [⟨0, 470, 483, 102⟩] rfl (fun z hz => by cases List.mem_singleton.mp hz; exact ⟨by decide, _, lP_1, E.2.1.2.2.2.2.1.1⟩) rfl (by decide) lP_2 E.2.1.2.2.1.2.2.2.2.1 (fun q9 => ?_)
      refine rv_astore (q := 479) (lv' := [_, _, _, _, _, _, _, _]) E.x dL_act_477 (Nat.le_of_ble_eq_true rfl) rfl rfl rfl ?_
      refine rv_sipush (q := 482) E.x dL_act_479 rv_ksm1262 rfl ?_
      exact lk_iret E rfl ⟨Nat.le_of_ble_eq_true rfl, Nat.le_of_ble_eq_true rfl⟩ dL_act_482
    · intro hx; subst hx
      refine lk_cx (x := 3) (M1 := M6) (hh := [(0, 470, 471, 98), (0, 470, 477, 100), (0, 470, 483, 102)]) E (fun u hI _ => ⟨_, Or.inl rfl, c11_setFlags_x E.2.2.1.1 hI e4⟩) gP_41 hX11_setFlags ⟨rfl, rfl⟩ ⟨Nat.le_of_ble_eq_true rfl, Nat.le_of_ble_eq_true rfl⟩ ⟨Nat.le_of_ble_eq_true rfl, Nat.le_of_ble_eq_true rfl⟩ rfl rfl rfl (Nat.le_of_ble_eq_true rfl) dL_act_156 htb [⟨0, 470, 471, 98⟩, ⟨0, 470, 477, 100⟩] ⟨0, 470, 483, 102⟩ [] rfl (fun z hz => by rcases List.mem_cons.mp hz with rfl | hz; exact ⟨by decide, _, lP_1, E.2.1.2.2.2.2.1.2.1⟩; cases List.mem_singleton.mp hz; exact ⟨by decide, _, lP_2, E.2.1.2.2.2.2.1.2.2⟩) rfl (by decide) lP_3 E.2.1.2.2.1.2.2.2.2.2.1 (fun q9 => ?_)
      refine rv_astore (q := 485) (lv' := [_, _, _, _, _, _, _, _]) E.x dL_act_483 (Nat.le_of_ble_eq_true rfl) rfl rfl rfl ?_
      refine rv_sipush (q := 488) E.x dL_act_485 rv_ksm1263 rfl ?_
      exact lk_iret E rfl ⟨Nat.le_of_ble_eq_true rfl, Nat.le_of_ble_eq_true rfl⟩ dL_act_488
set_option maxRecDepth 100000 in
theorem bp_act_145 {p : Program} {l : Launch} {e : Env} {s : State} {m : MethodId} {args : Array Value} {below : List Frame} {meth : Method} {c : Code} {D : va_G} {cI cZ cO : ClassId} {mi de z0 o b L : Nat} {k : Nat → Nat} {xs : Nat → Int32} (E : lk_E D cI cZ cO mi de z0 b L k xs cL_act 8 (some .int) p l s m args meth c) (htb : c.exceptionTable.toList = tableOf [(0, 470, 471, 98), (0, 470, 477, 100), (0, 470, 483, 102)]) (A : rv_Mem)   : ∀ (gh : rC_gh) (M : rv_Mem) (x4 : Int32) (s1 : Int32) (s2 : Bool), rv_M (lk_G D cI cZ cO de z0 o k) (fun q => z0 ≤ q) p l e rmp_act s m args below meth c 0 0 (lk_qWI D cI cZ cO de z0 o k A below args s 3 193) (gp_act_145 A gh M x4 s1 s2) 145 [none, none, none, none, some (.int x4), none, none, none] [.int (rv_i s2), .int s1, .ref o] (gh, M, A) := by
  intro gh M x4 s1 s2
  unfold gp_act_145
  refine rv_iload (q := 147) E.x dL_act_145 rfl rfl ?_
  refine rv_iconst (q := 148) E.x dL_act_147 rv_ki1 rfl ?_
  refine rv_icmp_ne (q := 151) (tgt := 155) E.x dL_act_148 (by decide) rfl ?_ ?_
  · refine rv_iconst (q := 152) E.x dL_act_151 rv_ki1 rfl ?_
    refine rv_goto (q := 156) E.x dL_act_152 (by decide) ?_
    refine rv_wk [false, false, false, false, false, false, false, false] ?_
    exact bp_act_156 E htb A gh M s1 s2 true
  · refine rv_iconst (q := 156) E.x dL_act_155 rv_ki0 rfl ?_
    refine rv_wk [false, false, false, false, false, false, false, false] ?_
    exact bp_act_156 E htb A gh M s1 s2 false
set_option maxRecDepth 100000 in
theorem bp_act_197 {p : Program} {l : Launch} {e : Env} {s : State} {m : MethodId} {args : Array Value} {below : List Frame} {meth : Method} {c : Code} {D : va_G} {cI cZ cO : ClassId} {mi de z0 o b L : Nat} {k : Nat → Nat} {xs : Nat → Int32} (E : lk_E D cI cZ cO mi de z0 b L k xs cL_act 8 (some .int) p l s m args meth c) (htb : c.exceptionTable.toList = tableOf [(0, 470, 471, 98), (0, 470, 477, 100), (0, 470, 483, 102)]) (A : rv_Mem)   : ∀ (gh : rC_gh) (M : rv_Mem) (s1 : Int32) (s2 : Int32) (s3 : Bool), rv_M (lk_G D cI cZ cO de z0 o k) (fun q => z0 ≤ q) p l e rmp_act s m args below meth c 0 0 (lk_qWI D cI cZ cO de z0 o k A below args s 3 193) (gp_act_197 A gh M s1 s2 s3) 197 [none, none, none, none, none, none, none, none] [.int (rv_i s3), .int s2, .int s1, .ref o] (gh, M, A) := by
  intro gh M s1 s2 s3
  unfold gp_act_197
  refine lk_xmr (fun r2 g5 M6 e1 => ?_) (fun w3 e4 => ?_)
  · refine lk_cm (q := 200) (v := r2) E (fun u hI _ => c11_answer E.2.2.1.1 hI e1) gP_48 hX11_answer ⟨rfl, rfl⟩ ⟨Nat.le_of_ble_eq_true rfl, Nat.le_of_ble_eq_true rfl⟩ ⟨Nat.le_of_ble_eq_true rfl, Nat.le_of_ble_eq_true rfl⟩ rfl rfl rfl (Nat.le_of_ble_eq_true rfl) dL_act_197 rfl ?_
    refine rv_goto (q := 470) E.x dL_act_200 (by decide) ?_
    exact lk_iret E rfl ⟨Nat.le_of_ble_eq_true rfl, Nat.le_of_ble_eq_true rfl⟩ dL_act_470
  · refine lk_hhr ?_ ?_ ?_
    · intro hx; subst hx
      refine lk_cx (x := 1) (M1 := M) (hh := [(0, 470, 471, 98), (0, 470, 477, 100), (0, 470, 483, 102)]) E (fun u hI _ => ⟨_, Or.inr rfl, c11_answer_x E.2.2.1.1 hI e4⟩) gP_48 hX11_answer ⟨rfl, rfl⟩ ⟨Nat.le_of_ble_eq_true rfl, Nat.le_of_ble_eq_true rfl⟩ ⟨Nat.le_of_ble_eq_true rfl, Nat.le_of_ble_eq_true rfl⟩ rfl rfl rfl (Nat.le_of_ble_eq_true rfl) dL_act_197 htb [] ⟨0, 470, 471, 98⟩ [⟨0, 470, 477, 100⟩, ⟨0, 470, 483, 102⟩] rfl (fun z hz => nomatch hz) rfl (by decide) lP_1 E.2.1.2.2.1.2.2.2.1 (fun q9 => ?_)
      refine rv_astore (q := 473) (lv' := [_, _, _, _, _, _, _, _]) E.x dL_act_471 (Nat.le_of_ble_eq_true rfl) rfl rfl rfl ?_
      refine rv_sipush (q := 476) E.x dL_act_473 rv_ksm1261 rfl ?_
      exact lk_iret E rfl ⟨Nat.le_of_ble_eq_true rfl, Nat.le_of_ble_eq_true rfl⟩ dL_act_476
    · intro hx; subst hx
      refine lk_cx (x := 2) (M1 := M) (hh := [(0, 470, 471, 98), (0, 470, 477, 100), (0, 470, 483, 102)]) E (fun u hI _ => ⟨_, Or.inr rfl, c11_answer_x E.2.2.1.1 hI e4⟩) gP_48 hX11_answer ⟨rfl, rfl⟩ ⟨Nat.le_of_ble_eq_true rfl, Nat.le_of_ble_eq_true rfl⟩ ⟨Nat.le_of_ble_eq_true rfl, Nat.le_of_ble_eq_true rfl⟩ rfl rfl rfl (Nat.le_of_ble_eq_true rfl) dL_act_197 htb [⟨0, 470, 471, 98⟩] ⟨0, 470, 477, 100⟩ [⟨0, 470, 483, 102⟩] rfl (fun z hz => by cases List.mem_singleton.mp hz; exact ⟨by decide, _, lP_1, E.2.1.2.2.2.2.1.1⟩) rfl (by decide) lP_2 E.2.1.2.2.1.2.2.2.2.1 (fun q9 => ?_)
      refine rv_astore (q := 479) (lv' := [_, _, _, _, _, _, _, _]) E.x dL_act_477 (Nat.le_of_ble_eq_true rfl) rfl rfl rfl ?_
      refine rv_sipush (q := 482) E.x dL_act_479 rv_ksm1262 rfl ?_
      exact lk_iret E rfl ⟨Nat.le_of_ble_eq_true rfl, Nat.le_of_ble_eq_true rfl⟩ dL_act_482
    · intro hx; subst hx
      refine lk_cx (x := 3) (M1 := M) (hh := [(0, 470, 471, 98), (0, 470, 477, 100), (0, 470, 483, 102)]) E (fun u hI _ => ⟨_, Or.inr rfl, c11_answer_x E.2.2.1.1 hI e4⟩) gP_48 hX11_answer ⟨rfl, rfl⟩ ⟨Nat.le_of_ble_eq_true rfl, Nat.le_of_ble_eq_true rfl⟩ ⟨Nat.le_of_ble_eq_true rfl, Nat.le_of_ble_eq_true rfl⟩ rfl rfl rfl (Nat.le_of_ble_eq_true rfl) dL_act_197 htb [⟨0, 470, 471, 98⟩, ⟨0, 470, 477, 100⟩] ⟨0, 470, 483, 102⟩ [] rfl (fun z hz => by rcases List.mem_cons.mp hz with rfl | hz; exact ⟨by decide, _, lP_1, E.2.1.2.2.2.2.1.2.1⟩; cases List.mem_singleton.mp hz; exact ⟨by decide, _, lP_2, E.2.1.2.2.2.2.1.2.2⟩) rfl (by decide) lP_3 E.2.1.2.2.1.2.2.2.2.2.1 (fun q9 => ?_)
      refine rv_astore (q := 485) (lv' := [_, _, _, _, _, _, _, _]) E.x dL_act_483 (Nat.le_of_ble_eq_true rfl) rfl rfl rfl ?_
      refine rv_sipush (q := 488) E.x dL_act_485 rv_ksm1263 rfl ?_
      exact lk_iret E rfl ⟨Nat.le_of_ble_eq_true rfl, Nat.le_of_ble_eq_true rfl⟩ dL_act_488
set_option maxRecDepth 100000 in
theorem bp_act_255 {p : Program} {l : Launch} {e : Env} {s : State} {m : MethodId} {args : Array Value} {below : List Frame} {meth : Method} {c : Code} {D : va_G} {cI cZ cO : ClassId} {mi de z0 o b L : Nat} {k : Nat → Nat} {xs : Nat → Int32} (E : lk_E D cI cZ cO mi de z0 b L k xs cL_act 8 (some .int) p l s m args meth c) (htb : c.exceptionTable.toList = tableOf [(0, 470, 471, 98), (0, 470, 477, 100), (0, 470, 483, 102)]) (A : rv_Mem)   : ∀ (gh : rC_gh) (M : rv_Mem) (s1 : Int32) (s2 : Int32) (s3 : Int32) (s4 : Bool), rv_M (lk_G D cI cZ cO de z0 o k) (fun q => z0 ≤ q) p l e rmp_act s m args below meth c 0 0 (lk_qWI D cI cZ cO de z0 o k A below args s 3 193) (gp_act_255 A gh M s1 s2 s3 s4) 255 [none, none, none, none, none, none, none, none] [.int (rv_i s4), .int s3, .int s2, .int s1, .ref o] (gh, M, A) := by
  intro gh M s1 s2 s3 s4
  unfold gp_act_255
  refine lk_x3r (fun r2 M5 e1 => ?_) (fun w3 M6 e4 => ?_)
  · refine lk_ci (q := 258) (v := r2) (M1 := M5) E (fun u hI _ => c11_setOwners E.2.2.1.1 hI e1) gP_58 hX11_setOwners ⟨rfl, rfl⟩ ⟨Nat.le_of_ble_eq_true rfl, Nat.le_of_ble_eq_true rfl⟩ ⟨Nat.le_of_ble_eq_true rfl, Nat.le_of_ble_eq_true rfl⟩ rfl rfl rfl (Nat.le_of_ble_eq_true rfl) dL_act_255 rfl ?_
    refine rv_goto (q := 470) E.x dL_act_258 (by decide) ?_
    exact lk_iret E rfl ⟨Nat.le_of_ble_eq_true rfl, Nat.le_of_ble_eq_true rfl⟩ dL_act_470
  · refine lk_hhr ?_ ?_ ?_
    · intro hx; subst hx
      refine lk_cx (x := 1) (M1 := M6) (hh := [(0, 470, 471, 98), (0, 470, 477, 100), (0, 470, 483, 102)]) E (fun u hI _ => ⟨_, Or.inl rfl, c11_setOwners_x E.2.2.1.1 hI e4⟩) gP_58 hX11_setOwners ⟨rfl, rfl⟩ ⟨Nat.le_of_ble_eq_true rfl, Nat.le_of_ble_eq_true rfl⟩ ⟨Nat.le_of_ble_eq_true rfl, Nat.le_of_ble_eq_true rfl⟩ rfl rfl rfl (Nat.le_of_ble_eq_true rfl) dL_act_255 htb [] ⟨0, 470, 471, 98⟩ [⟨0, 470, 477, 100⟩, ⟨0, 470, 483, 102⟩] rfl (fun z hz => nomatch hz) rfl (by decide) lP_1 E.2.1.2.2.1.2.2.2.1 (fun q9 => ?_)
      refine rv_astore (q := 473) (lv' := [_, _, _, _, _, _, _, _]) E.x dL_act_471 (Nat.le_of_ble_eq_true rfl) rfl rfl rfl ?_
      refine rv_sipush (q := 476) E.x dL_act_473 rv_ksm1261 rfl ?_
      exact lk_iret E rfl ⟨Nat.le_of_ble_eq_true rfl, Nat.le_of_ble_eq_true rfl⟩ dL_act_476
    · intro hx; subst hx
      refine lk_cx (x := 2) (M1 := M6) (hh := [(0, 470, 471, 98), (0, 470, 477, 100), (0, 470, 483, 102)]) E (fun u hI _ => ⟨_, Or.inl rfl, c11_setOwners_x E.2.2.1.1 hI e4⟩) gP_58 hX11_setOwners ⟨rfl, rfl⟩ ⟨Nat.le_of_ble_eq_true rfl, Nat.le_of_ble_eq_true rfl⟩ ⟨Nat.le_of_ble_eq_true rfl, Nat.le_of_ble_eq_true rfl⟩ rfl rfl rfl (Nat.le_of_ble_eq_true rfl) dL_act_255 htb [⟨0, 470, 471, 98⟩] ⟨0, 470, 477, 100⟩ [⟨0, 470, 483, 102⟩] rfl (fun z hz => by cases List.mem_singleton.mp hz; exact ⟨by decide, _, lP_1, E.2.1.2.2.2.2.1.1⟩) rfl (by decide) lP_2 E.2.1.2.2.1.2.2.2.2.1 (fun q9 => ?_)
      refine rv_astore (q := 479) (lv' := [_, _, _, _, _, _, _, _]) E.x dL_act_477 (Nat.le_of_ble_eq_true rfl) rfl rfl rfl ?_
      refine rv_sipush (q := 482) E.x dL_act_479 rv_ksm1262 rfl ?_
      exact lk_iret E rfl ⟨Nat.le_of_ble_eq_true rfl, Nat.le_of_ble_eq_true rfl⟩ dL_act_482
    · intro hx; subst hx
      refine lk_cx (x := 3) (M1 := M6) (hh := [(0, 470, 471, 98), (0, 470, 477, 100), (0, 470, 483, 102)]) E (fun u hI _ => ⟨_, Or.inl rfl, c11_setOwners_x E.2.2.1.1 hI e4⟩) gP_58 hX11_setOwners ⟨rfl, rfl⟩ ⟨Nat.le_of_ble_eq_true rfl, Nat.le_of_ble_eq_true rfl⟩ ⟨Nat.le_of_ble_eq_true rfl, Nat.le_of_ble_eq_true rfl⟩ rfl rfl rfl (Nat.le_of_ble_eq_true rfl) dL_act_255 htb [⟨0, 470, 471, 98⟩, ⟨0, 470, 477, 100⟩] ⟨0, 470, 483, 102⟩ [] rfl (fun z hz => by rcases List.mem_cons.mp hz with rfl | hz; exact ⟨by decide, _, lP_1, E.2.1.2.2.2.2.1.2.1⟩; cases List.mem_singleton.mp hz; exact ⟨by decide, _, lP_2, E.2.1.2.2.2.2.1.2.2⟩) rfl (by decide) lP_3 E.2.1.2.2.1.2.2.2.2.2.1 (fun q9 => ?_)
      refine rv_astore (q := 485) (lv' := [_, _, _, _, _, _, _, _]) E.x dL_act_483 (Nat.le_of_ble_eq_true rfl) rfl rfl rfl ?_
      refine rv_sipush (q := 488) E.x dL_act_485 rv_ksm1263 rfl ?_
      exact lk_iret E rfl ⟨Nat.le_of_ble_eq_true rfl, Nat.le_of_ble_eq_true rfl⟩ dL_act_488
set_option maxRecDepth 100000 in
theorem bp_act_431 {p : Program} {l : Launch} {e : Env} {s : State} {m : MethodId} {args : Array Value} {below : List Frame} {meth : Method} {c : Code} {D : va_G} {cI cZ cO : ClassId} {mi de z0 o b L : Nat} {k : Nat → Nat} {xs : Nat → Int32} (E : lk_E D cI cZ cO mi de z0 b L k xs cL_act 8 (some .int) p l s m args meth c) (htb : c.exceptionTable.toList = tableOf [(0, 470, 471, 98), (0, 470, 477, 100), (0, 470, 483, 102)]) (A : rv_Mem)   : ∀ (gh : rC_gh) (M : rv_Mem) (s1 : Int32) (s2 : Int32) (s3 : Bool), rv_M (lk_G D cI cZ cO de z0 o k) (fun q => z0 ≤ q) p l e rmp_act s m args below meth c 0 0 (lk_qWI D cI cZ cO de z0 o k A below args s 3 193) (gp_act_431 A gh M s1 s2 s3) 431 [none, none, none, none, none, none, none, none] [.int (rv_i s3), .int s2, .int s1, .ref o] (gh, M, A) := by
  intro gh M s1 s2 s3
  unfold gp_act_431
  refine lk_x3r (fun r2 M5 e1 => ?_) (fun w3 M6 e4 => ?_)
  · refine lk_ci (q := 434) (v := (rv_i r2)) (M1 := M5) E (fun u hI _ => c11_setInclude E.2.2.1.1 hI e1) gP_91 hX11_setInclude ⟨rfl, rfl⟩ ⟨Nat.le_of_ble_eq_true rfl, Nat.le_of_ble_eq_true rfl⟩ ⟨Nat.le_of_ble_eq_true rfl, Nat.le_of_ble_eq_true rfl⟩ rfl rfl rfl (Nat.le_of_ble_eq_true rfl) dL_act_431 rfl ?_
    refine rv_ifz_eq (q := 437) (tgt := 441) E.x dL_act_434 (by decide) rfl ?_ ?_
    · refine rv_iconst (q := 438) E.x dL_act_437 rv_ki1 rfl ?_
      refine rv_goto (q := 470) E.x dL_act_438 (by decide) ?_
      exact lk_iret E rfl ⟨Nat.le_of_ble_eq_true rfl, Nat.le_of_ble_eq_true rfl⟩ dL_act_470
    · refine rv_iconst (q := 442) E.x dL_act_441 rv_ki0 rfl ?_
      refine rv_goto (q := 470) E.x dL_act_442 (by decide) ?_
      exact lk_iret E rfl ⟨Nat.le_of_ble_eq_true rfl, Nat.le_of_ble_eq_true rfl⟩ dL_act_470
  · refine lk_hhr ?_ ?_ ?_
    · intro hx; subst hx
      refine lk_cx (x := 1) (M1 := M6) (hh := [(0, 470, 471, 98), (0, 470, 477, 100), (0, 470, 483, 102)]) E (fun u hI _ => ⟨_, Or.inl rfl, c11_setInclude_x E.2.2.1.1 hI e4⟩) gP_91 hX11_setInclude ⟨rfl, rfl⟩ ⟨Nat.le_of_ble_eq_true rfl, Nat.le_of_ble_eq_true rfl⟩ ⟨Nat.le_of_ble_eq_true rfl, Nat.le_of_ble_eq_true rfl⟩ rfl rfl rfl (Nat.le_of_ble_eq_true rfl) dL_act_431 htb [] ⟨0, 470, 471, 98⟩ [⟨0, 470, 477, 100⟩, ⟨0, 470, 483, 102⟩] rfl (fun z hz => nomatch hz) rfl (by decide) lP_1 E.2.1.2.2.1.2.2.2.1 (fun q9 => ?_)
      refine rv_astore (q := 473) (lv' := [_, _, _, _, _, _, _, _]) E.x dL_act_471 (Nat.le_of_ble_eq_true rfl) rfl rfl rfl ?_
      refine rv_sipush (q := 476) E.x dL_act_473 rv_ksm1261 rfl ?_
      exact lk_iret E rfl ⟨Nat.le_of_ble_eq_true rfl, Nat.le_of_ble_eq_true rfl⟩ dL_act_476
    · intro hx; subst hx
      refine lk_cx (x := 2) (M1 := M6) (hh := [(0, 470, 471, 98), (0, 470, 477, 100), (0, 470, 483, 102)]) E (fun u hI _ => ⟨_, Or.inl rfl, c11_setInclude_x E.2.2.1.1 hI e4⟩) gP_91 hX11_setInclude ⟨rfl, rfl⟩ ⟨Nat.le_of_ble_eq_true rfl, Nat.le_of_ble_eq_true rfl⟩ ⟨Nat.le_of_ble_eq_true rfl, Nat.le_of_ble_eq_true rfl⟩ rfl rfl rfl (Nat.le_of_ble_eq_true rfl) dL_act_431 htb [⟨0, 470, 471, 98⟩] ⟨0, 470, 477, 100⟩ [⟨0, 470, 483, 102⟩] rfl (fun z hz => by cases List.mem_singleton.mp hz; exact ⟨by decide, _, lP_1, E.2.1.2.2.2.2.1.1⟩) rfl (by decide) lP_2 E.2.1.2.2.1.2.2.2.2.1 (fun q9 => ?_)
      refine rv_astore (q := 479) (lv' := [_, _, _, _, _, _, _, _]) E.x dL_act_477 (Nat.le_of_ble_eq_true rfl) rfl rfl rfl ?_
      refine rv_sipush (q := 482) E.x dL_act_479 rv_ksm1262 rfl ?_
      exact lk_iret E rfl ⟨Nat.le_of_ble_eq_true rfl, Nat.le_of_ble_eq_true rfl⟩ dL_act_482
    · intro hx; subst hx
      refine lk_cx (x := 3) (M1 := M6) (hh := [(0, 470, 471, 98), (0, 470, 477, 100), (0, 470, 483, 102)]) E (fun u hI _ => ⟨_, Or.inl rfl, c11_setInclude_x E.2.2.1.1 hI e4⟩) gP_91 hX11_setInclude ⟨rfl, rfl⟩ ⟨Nat.le_of_ble_eq_true rfl, Nat.le_of_ble_eq_true rfl⟩ ⟨Nat.le_of_ble_eq_true rfl, Nat.le_of_ble_eq_true rfl⟩ rfl rfl rfl (Nat.le_of_ble_eq_true rfl) dL_act_431 htb [⟨0, 470, 471, 98⟩, ⟨0, 470, 477, 100⟩] ⟨0, 470, 483, 102⟩ [] rfl (fun z hz => by rcases List.mem_cons.mp hz with rfl | hz; exact ⟨by decide, _, lP_1, E.2.1.2.2.2.2.1.2.1⟩; cases List.mem_singleton.mp hz; exact ⟨by decide, _, lP_2, E.2.1.2.2.2.2.1.2.2⟩) rfl (by decide) lP_3 E.2.1.2.2.1.2.2.2.2.2.1 (fun q9 => ?_)
      refine rv_astore (q := 485) (lv' := [_, _, _, _, _, _, _, _]) E.x dL_act_483 (Nat.le_of_ble_eq_true rfl) rfl rfl rfl ?_
      refine rv_sipush (q := 488) E.x dL_act_485 rv_ksm1263 rfl ?_
      exact lk_iret E rfl ⟨Nat.le_of_ble_eq_true rfl, Nat.le_of_ble_eq_true rfl⟩ dL_act_488
set_option maxRecDepth 100000 in
theorem bp_act_459 {p : Program} {l : Launch} {e : Env} {s : State} {m : MethodId} {args : Array Value} {below : List Frame} {meth : Method} {c : Code} {D : va_G} {cI cZ cO : ClassId} {mi de z0 o b L : Nat} {k : Nat → Nat} {xs : Nat → Int32} (E : lk_E D cI cZ cO mi de z0 b L k xs cL_act 8 (some .int) p l s m args meth c) (htb : c.exceptionTable.toList = tableOf [(0, 470, 471, 98), (0, 470, 477, 100), (0, 470, 483, 102)]) (A : rv_Mem)   : ∀ (gh : rC_gh) (M : rv_Mem) (s1 : Int32) (s2 : Int32) (s3 : Bool), rv_M (lk_G D cI cZ cO de z0 o k) (fun q => z0 ≤ q) p l e rmp_act s m args below meth c 0 0 (lk_qWI D cI cZ cO de z0 o k A below args s 3 193) (gp_act_459 A gh M s1 s2 s3) 459 [none, none, none, none, none, none, none, none] [.int (rv_i s3), .int s2, .int s1, .ref o] (gh, M, A) := by
  intro gh M s1 s2 s3
  unfold gp_act_459
  refine lk_x3r (fun r2 M5 e1 => ?_) (fun w3 M6 e4 => ?_)
  · refine lk_ci (q := 462) (v := (rv_i r2)) (M1 := M5) E (fun u hI _ => c11_watch E.2.2.1.1 hI e1) gP_95 hX11_watch ⟨rfl, rfl⟩ ⟨Nat.le_of_ble_eq_true rfl, Nat.le_of_ble_eq_true rfl⟩ ⟨Nat.le_of_ble_eq_true rfl, Nat.le_of_ble_eq_true rfl⟩ rfl rfl rfl (Nat.le_of_ble_eq_true rfl) dL_act_459 rfl ?_
    refine rv_ifz_eq (q := 465) (tgt := 469) E.x dL_act_462 (by decide) rfl ?_ ?_
    · refine rv_iconst (q := 466) E.x dL_act_465 rv_ki1 rfl ?_
      refine rv_goto (q := 470) E.x dL_act_466 (by decide) ?_
      exact lk_iret E rfl ⟨Nat.le_of_ble_eq_true rfl, Nat.le_of_ble_eq_true rfl⟩ dL_act_470
    · refine rv_iconst (q := 470) E.x dL_act_469 rv_ki0 rfl ?_
      exact lk_iret E rfl ⟨Nat.le_of_ble_eq_true rfl, Nat.le_of_ble_eq_true rfl⟩ dL_act_470
  · refine lk_hhr ?_ ?_ ?_
    · intro hx; subst hx
      refine lk_cx (x := 1) (M1 := M6) (hh := [(0, 470, 471, 98), (0, 470, 477, 100), (0, 470, 483, 102)]) E (fun u hI _ => ⟨_, Or.inl rfl, c11_watch_x E.2.2.1.1 hI e4⟩) gP_95 hX11_watch ⟨rfl, rfl⟩ ⟨Nat.le_of_ble_eq_true rfl, Nat.le_of_ble_eq_true rfl⟩ ⟨Nat.le_of_ble_eq_true rfl, Nat.le_of_ble_eq_true rfl⟩ rfl rfl rfl (Nat.le_of_ble_eq_true rfl) dL_act_459 htb [] ⟨0, 470, 471, 98⟩ [⟨0, 470, 477, 100⟩, ⟨0, 470, 483, 102⟩] rfl (fun z hz => nomatch hz) rfl (by decide) lP_1 E.2.1.2.2.1.2.2.2.1 (fun q9 => ?_)
      refine rv_astore (q := 473) (lv' := [_, _, _, _, _, _, _, _]) E.x dL_act_471 (Nat.le_of_ble_eq_true rfl) rfl rfl rfl ?_
      refine rv_sipush (q := 476) E.x dL_act_473 rv_ksm1261 rfl ?_
      exact lk_iret E rfl ⟨Nat.le_of_ble_eq_true rfl, Nat.le_of_ble_eq_true rfl⟩ dL_act_476
    · intro hx; subst hx
      refine lk_cx (x := 2) (M1 := M6) (hh := [(0, 470, 471, 98), (0, 470, 477, 100), (0, 470, 483, 102)]) E (fun u hI _ => ⟨_, Or.inl rfl, c11_watch_x E.2.2.1.1 hI e4⟩) gP_95 hX11_watch ⟨rfl, rfl⟩ ⟨Nat.le_of_ble_eq_true rfl, Nat.le_of_ble_eq_true rfl⟩ ⟨Nat.le_of_ble_eq_true rfl, Nat.le_of_ble_eq_true rfl⟩ rfl rfl rfl (Nat.le_of_ble_eq_true rfl) dL_act_459 htb [⟨0, 470, 471, 98⟩] ⟨0, 470, 477, 100⟩ [⟨0, 470, 483, 102⟩] rfl (fun z hz => by cases List.mem_singleton.mp hz; exact ⟨by decide, _, lP_1, E.2.1.2.2.2.2.1.1⟩) rfl (by decide) lP_2 E.2.1.2.2.1.2.2.2.2.1 (fun q9 => ?_)
      refine rv_astore (q := 479) (lv' := [_, _, _, _, _, _, _, _]) E.x dL_act_477 (Nat.le_of_ble_eq_true rfl) rfl rfl rfl ?_
      refine rv_sipush (q := 482) E.x dL_act_479 rv_ksm1262 rfl ?_
      exact lk_iret E rfl ⟨Nat.le_of_ble_eq_true rfl, Nat.le_of_ble_eq_true rfl⟩ dL_act_482
    · intro hx; subst hx
      refine lk_cx (x := 3) (M1 := M6) (hh := [(0, 470, 471, 98), (0, 470, 477, 100), (0, 470, 483, 102)]) E (fun u hI _ => ⟨_, Or.inl rfl, c11_watch_x E.2.2.1.1 hI e4⟩) gP_95 hX11_watch ⟨rfl, rfl⟩ ⟨Nat.le_of_ble_eq_true rfl, Nat.le_of_ble_eq_true rfl⟩ ⟨Nat.le_of_ble_eq_true rfl, Nat.le_of_ble_eq_true rfl⟩ rfl rfl rfl (Nat.le_of_ble_eq_true rfl) dL_act_459 htb [⟨0, 470, 471, 98⟩, ⟨0, 470, 477, 100⟩] ⟨0, 470, 483, 102⟩ [] rfl (fun z hz => by rcases List.mem_cons.mp hz with rfl | hz; exact ⟨by decide, _, lP_1, E.2.1.2.2.2.2.1.2.1⟩; cases List.mem_singleton.mp hz; exact ⟨by decide, _, lP_2, E.2.1.2.2.2.2.1.2.2⟩) rfl (by decide) lP_3 E.2.1.2.2.1.2.2.2.2.2.1 (fun q9 => ?_)
      refine rv_astore (q := 485) (lv' := [_, _, _, _, _, _, _, _]) E.x dL_act_483 (Nat.le_of_ble_eq_true rfl) rfl rfl rfl ?_
      refine rv_sipush (q := 488) E.x dL_act_485 rv_ksm1263 rfl ?_
      exact lk_iret E rfl ⟨Nat.le_of_ble_eq_true rfl, Nat.le_of_ble_eq_true rfl⟩ dL_act_488
set_option maxRecDepth 100000 in
theorem bp_act {p : Program} {l : Launch} {e : Env} {s : State} {m : MethodId} {args : Array Value} {below : List Frame} {meth : Method} {c : Code} {D : va_G} {cI cZ cO : ClassId} {mi de z0 o b L : Nat} {k : Nat → Nat} {xs : Nat → Int32} (E : lk_E D cI cZ cO mi de z0 b L k xs cL_act 8 (some .int) p l s m args meth c) (htb : c.exceptionTable.toList = tableOf [(0, 470, 471, 98), (0, 470, 477, 100), (0, 470, 483, 102)]) (gh : rC_gh) (M A : rv_Mem) (a2 : Int32) (a3 : Int32) (a4 : Int32) (a5 : Int32) (a6 : Int32) (a7 : Int32) : rv_M (lk_G D cI cZ cO de z0 o k) (fun q => z0 ≤ q) p l e rmp_act s m args below meth c 0 0 (lk_qWI D cI cZ cO de z0 o k A below args s 3 193) (gp_act gh M A a2 a3 a4 a5 a6 a7) 0 [some (.ref o), some (.int a2), some (.int a3), some (.int a4), some (.int a5), some (.int a6), some (.int a7), none] [] (gh, M, A) := by
  unfold gp_act
  refine rv_iload_n (q := 1) E.x dL_act_0 rfl rfl ?_
  refine rv_if_ne (q := 4) (tgt := 12) E.x dL_act_1 (by decide) rfl ?_ ?_
  · refine rv_aload_n (q := 5) E.x dL_act_4 rfl rfl ?_
    refine rv_iload_n (q := 6) E.x dL_act_5 rfl rfl ?_
    refine lk_x3r (fun r2 M5 e1 => ?_) (fun w3 M6 e4 => ?_)
    · refine lk_ci (q := 9) (v := r2) (M1 := M5) E (fun u hI _ => c11_take E.2.2.1.1 hI e1) gP_9 hX11_take ⟨rfl, rfl⟩ ⟨Nat.le_of_ble_eq_true rfl, Nat.le_of_ble_eq_true rfl⟩ ⟨Nat.le_of_ble_eq_true rfl, Nat.le_of_ble_eq_true rfl⟩ rfl rfl rfl (Nat.le_of_ble_eq_true rfl) dL_act_6 rfl ?_
      refine rv_goto (q := 470) E.x dL_act_9 (by decide) ?_
      exact lk_iret E rfl ⟨Nat.le_of_ble_eq_true rfl, Nat.le_of_ble_eq_true rfl⟩ dL_act_470
    · refine lk_hhr ?_ ?_ ?_
      · intro hx; subst hx
        refine lk_cx (x := 1) (M1 := M6) (hh := [(0, 470, 471, 98), (0, 470, 477, 100), (0, 470, 483, 102)]) E (fun u hI _ => ⟨_, Or.inl rfl, c11_take_x E.2.2.1.1 hI e4⟩) gP_9 hX11_take ⟨rfl, rfl⟩ ⟨Nat.le_of_ble_eq_true rfl, Nat.le_of_ble_eq_true rfl⟩ ⟨Nat.le_of_ble_eq_true rfl, Nat.le_of_ble_eq_true rfl⟩ rfl rfl rfl (Nat.le_of_ble_eq_true rfl) dL_act_6 htb [] ⟨0, 470, 471, 98⟩ [⟨0, 470, 477, 100⟩, ⟨0, 470, 483, 102⟩] rfl (fun z hz => nomatch hz) rfl (by decide) lP_1 E.2.1.2.2.1.2.2.2.1 (fun q9 => ?_)
        refine rv_astore (q := 473) (lv' := [_, _, _, _, _, _, _, _]) E.x dL_act_471 (Nat.le_of_ble_eq_true rfl) rfl rfl rfl ?_
        refine rv_sipush (q := 476) E.x dL_act_473 rv_ksm1261 rfl ?_
        exact lk_iret E rfl ⟨Nat.le_of_ble_eq_true rfl, Nat.le_of_ble_eq_true rfl⟩ dL_act_476
      · intro hx; subst hx
        refine lk_cx (x := 2) (M1 := M6) (hh := [(0, 470, 471, 98), (0, 470, 477, 100), (0, 470, 483, 102)]) E (fun u hI _ => ⟨_, Or.inl rfl, c11_take_x E.2.2.1.1 hI e4⟩) gP_9 hX11_take ⟨rfl, rfl⟩ ⟨Nat.le_of_ble_eq_true rfl, Nat.le_of_ble_eq_true rfl⟩ ⟨Nat.le_of_ble_eq_true rfl, Nat.le_of_ble_eq_true rfl⟩ rfl rfl rfl (Nat.le_of_ble_eq_true rfl) dL_act_6 htb [⟨0, 470, 471, 98⟩] ⟨0, 470, 477, 100⟩ [⟨0, 470, 483, 102⟩] rfl (fun z hz => by cases List.mem_singleton.mp hz; exact ⟨by decide, _, lP_1, E.2.1.2.2.2.2.1.1⟩) rfl (by decide) lP_2 E.2.1.2.2.1.2.2.2.2.1 (fun q9 => ?_)
        refine rv_astore (q := 479) (lv' := [_, _, _, _, _, _, _, _]) E.x dL_act_477 (Nat.le_of_ble_eq_true rfl) rfl rfl rfl ?_
        refine rv_sipush (q := 482) E.x dL_act_479 rv_ksm1262 rfl ?_
        exact lk_iret E rfl ⟨Nat.le_of_ble_eq_true rfl, Nat.le_of_ble_eq_true rfl⟩ dL_act_482
      · intro hx; subst hx
        refine lk_cx (x := 3) (M1 := M6) (hh := [(0, 470, 471, 98), (0, 470, 477, 100), (0, 470, 483, 102)]) E (fun u hI _ => ⟨_, Or.inl rfl, c11_take_x E.2.2.1.1 hI e4⟩) gP_9 hX11_take ⟨rfl, rfl⟩ ⟨Nat.le_of_ble_eq_true rfl, Nat.le_of_ble_eq_true rfl⟩ ⟨Nat.le_of_ble_eq_true rfl, Nat.le_of_ble_eq_true rfl⟩ rfl rfl rfl (Nat.le_of_ble_eq_true rfl) dL_act_6 htb [⟨0, 470, 471, 98⟩, ⟨0, 470, 477, 100⟩] ⟨0, 470, 483, 102⟩ [] rfl (fun z hz => by rcases List.mem_cons.mp hz with rfl | hz; exact ⟨by decide, _, lP_1, E.2.1.2.2.2.2.1.2.1⟩; cases List.mem_singleton.mp hz; exact ⟨by decide, _, lP_2, E.2.1.2.2.2.2.1.2.2⟩) rfl (by decide) lP_3 E.2.1.2.2.1.2.2.2.2.2.1 (fun q9 => ?_)
        refine rv_astore (q := 485) (lv' := [_, _, _, _, _, _, _, _]) E.x dL_act_483 (Nat.le_of_ble_eq_true rfl) rfl rfl rfl ?_
        refine rv_sipush (q := 488) E.x dL_act_485 rv_ksm1263 rfl ?_
        exact lk_iret E rfl ⟨Nat.le_of_ble_eq_true rfl, Nat.le_of_ble_eq_true rfl⟩ dL_act_488
  · refine rv_iload_n (q := 13) E.x dL_act_12 rfl rfl ?_
    refine rv_iconst (q := 14) E.x dL_act_13 rv_ki1 rfl ?_
    refine rv_icmp_ne (q := 17) (tgt := 26) E.x dL_act_14 (by decide) rfl ?_ ?_
    · refine rv_aload_n (q := 18) E.x dL_act_17 rfl rfl ?_
      refine rv_iload_n (q := 19) E.x dL_act_18 rfl rfl ?_
      refine rv_iload_n (q := 20) E.x dL_act_19 rfl rfl ?_
      refine lk_x3r (fun r8 M11 e7 => ?_) (fun w9 M12 e10 => ?_)
      · refine lk_ci (q := 23) (v := r8) (M1 := M11) E (fun u hI _ => c11_takeSet E.2.2.1.1 hI e7) gP_15 hX11_takeSet ⟨rfl, rfl⟩ ⟨Nat.le_of_ble_eq_true rfl, Nat.le_of_ble_eq_true rfl⟩ ⟨Nat.le_of_ble_eq_true rfl, Nat.le_of_ble_eq_true rfl⟩ rfl rfl rfl (Nat.le_of_ble_eq_true rfl) dL_act_20 rfl ?_
        refine rv_goto (q := 470) E.x dL_act_23 (by decide) ?_
        exact lk_iret E rfl ⟨Nat.le_of_ble_eq_true rfl, Nat.le_of_ble_eq_true rfl⟩ dL_act_470
      · refine lk_hhr ?_ ?_ ?_
        · intro hx; subst hx
          refine lk_cx (x := 1) (M1 := M12) (hh := [(0, 470, 471, 98), (0, 470, 477, 100), (0, 470, 483, 102)]) E (fun u hI _ => ⟨_, Or.inl rfl, c11_takeSet_x E.2.2.1.1 hI e10⟩) gP_15 hX11_takeSet ⟨rfl, rfl⟩ ⟨Nat.le_of_ble_eq_true rfl, Nat.le_of_ble_eq_true rfl⟩ ⟨Nat.le_of_ble_eq_true rfl, Nat.le_of_ble_eq_true rfl⟩ rfl rfl rfl (Nat.le_of_ble_eq_true rfl) dL_act_20 htb [] ⟨0, 470, 471, 98⟩ [⟨0, 470, 477, 100⟩, ⟨0, 470, 483, 102⟩] rfl (fun z hz => nomatch hz) rfl (by decide) lP_1 E.2.1.2.2.1.2.2.2.1 (fun q9 => ?_)
          refine rv_astore (q := 473) (lv' := [_, _, _, _, _, _, _, _]) E.x dL_act_471 (Nat.le_of_ble_eq_true rfl) rfl rfl rfl ?_
          refine rv_sipush (q := 476) E.x dL_act_473 rv_ksm1261 rfl ?_
          exact lk_iret E rfl ⟨Nat.le_of_ble_eq_true rfl, Nat.le_of_ble_eq_true rfl⟩ dL_act_476
        · intro hx; subst hx
          refine lk_cx (x := 2) (M1 := M12) (hh := [(0, 470, 471, 98), (0, 470, 477, 100), (0, 470, 483, 102)]) E (fun u hI _ => ⟨_, Or.inl rfl, c11_takeSet_x E.2.2.1.1 hI e10⟩) gP_15 hX11_takeSet ⟨rfl, rfl⟩ ⟨Nat.le_of_ble_eq_true rfl, Nat.le_of_ble_eq_true rfl⟩ ⟨Nat.le_of_ble_eq_true rfl, Nat.le_of_ble_eq_true rfl⟩ rfl rfl rfl (Nat.le_of_ble_eq_true rfl) dL_act_20 htb [⟨0, 470, 471, 98⟩] ⟨0, 470, 477, 100⟩ [⟨0, 470, 483, 102⟩] rfl (fun z hz => by cases List.mem_singleton.mp hz; exact ⟨by decide, _, lP_1, E.2.1.2.2.2.2.1.1⟩) rfl (by decide) lP_2 E.2.1.2.2.1.2.2.2.2.1 (fun q9 => ?_)
          refine rv_astore (q := 479) (lv' := [_, _, _, _, _, _, _, _]) E.x dL_act_477 (Nat.le_of_ble_eq_true rfl) rfl rfl rfl ?_
          refine rv_sipush (q := 482) E.x dL_act_479 rv_ksm1262 rfl ?_
          exact lk_iret E rfl ⟨Nat.le_of_ble_eq_true rfl, Nat.le_of_ble_eq_true rfl⟩ dL_act_482
        · intro hx; subst hx
          refine lk_cx (x := 3) (M1 := M12) (hh := [(0, 470, 471, 98), (0, 470, 477, 100), (0, 470, 483, 102)]) E (fun u hI _ => ⟨_, Or.inl rfl, c11_takeSet_x E.2.2.1.1 hI e10⟩) gP_15 hX11_takeSet ⟨rfl, rfl⟩ ⟨Nat.le_of_ble_eq_true rfl, Nat.le_of_ble_eq_true rfl⟩ ⟨Nat.le_of_ble_eq_true rfl, Nat.le_of_ble_eq_true rfl⟩ rfl rfl rfl (Nat.le_of_ble_eq_true rfl) dL_act_20 htb [⟨0, 470, 471, 98⟩, ⟨0, 470, 477, 100⟩] ⟨0, 470, 483, 102⟩ [] rfl (fun z hz => by rcases List.mem_cons.mp hz with rfl | hz; exact ⟨by decide, _, lP_1, E.2.1.2.2.2.2.1.2.1⟩; cases List.mem_singleton.mp hz; exact ⟨by decide, _, lP_2, E.2.1.2.2.2.2.1.2.2⟩) rfl (by decide) lP_3 E.2.1.2.2.1.2.2.2.2.2.1 (fun q9 => ?_)
          refine rv_astore (q := 485) (lv' := [_, _, _, _, _, _, _, _]) E.x dL_act_483 (Nat.le_of_ble_eq_true rfl) rfl rfl rfl ?_
          refine rv_sipush (q := 488) E.x dL_act_485 rv_ksm1263 rfl ?_
          exact lk_iret E rfl ⟨Nat.le_of_ble_eq_true rfl, Nat.le_of_ble_eq_true rfl⟩ dL_act_488
    · refine rv_iload_n (q := 27) E.x dL_act_26 rfl rfl ?_
      refine rv_iconst (q := 28) E.x dL_act_27 rv_ki2 rfl ?_
      refine rv_icmp_ne (q := 31) (tgt := 42) E.x dL_act_28 (by decide) rfl ?_ ?_
      · refine rv_aload_n (q := 32) E.x dL_act_31 rfl rfl ?_
        refine rv_iload_n (q := 33) E.x dL_act_32 rfl rfl ?_
        refine rv_iload_n (q := 34) E.x dL_act_33 rfl rfl ?_
        refine rv_iload (q := 36) E.x dL_act_34 rfl rfl ?_
        refine lk_x3r (fun r14 M17 e13 => ?_) (fun w15 M18 e16 => ?_)
        · refine lk_ci (q := 39) (v := r14) (M1 := M17) E (fun u hI _ => c11_put E.2.2.1.1 hI e13) gP_19 hX11_put ⟨rfl, rfl⟩ ⟨Nat.le_of_ble_eq_true rfl, Nat.le_of_ble_eq_true rfl⟩ ⟨Nat.le_of_ble_eq_true rfl, Nat.le_of_ble_eq_true rfl⟩ rfl rfl rfl (Nat.le_of_ble_eq_true rfl) dL_act_36 rfl ?_
          refine rv_goto (q := 470) E.x dL_act_39 (by decide) ?_
          exact lk_iret E rfl ⟨Nat.le_of_ble_eq_true rfl, Nat.le_of_ble_eq_true rfl⟩ dL_act_470
        · refine lk_hhr ?_ ?_ ?_
          · intro hx; subst hx
            refine lk_cx (x := 1) (M1 := M18) (hh := [(0, 470, 471, 98), (0, 470, 477, 100), (0, 470, 483, 102)]) E (fun u hI _ => ⟨_, Or.inl rfl, c11_put_x E.2.2.1.1 hI e16⟩) gP_19 hX11_put ⟨rfl, rfl⟩ ⟨Nat.le_of_ble_eq_true rfl, Nat.le_of_ble_eq_true rfl⟩ ⟨Nat.le_of_ble_eq_true rfl, Nat.le_of_ble_eq_true rfl⟩ rfl rfl rfl (Nat.le_of_ble_eq_true rfl) dL_act_36 htb [] ⟨0, 470, 471, 98⟩ [⟨0, 470, 477, 100⟩, ⟨0, 470, 483, 102⟩] rfl (fun z hz => nomatch hz) rfl (by decide) lP_1 E.2.1.2.2.1.2.2.2.1 (fun q9 => ?_)
            refine rv_astore (q := 473) (lv' := [_, _, _, _, _, _, _, _]) E.x dL_act_471 (Nat.le_of_ble_eq_true rfl) rfl rfl rfl ?_
            refine rv_sipush (q := 476) E.x dL_act_473 rv_ksm1261 rfl ?_
            exact lk_iret E rfl ⟨Nat.le_of_ble_eq_true rfl, Nat.le_of_ble_eq_true rfl⟩ dL_act_476
          · intro hx; subst hx
            refine lk_cx (x := 2) (M1 := M18) (hh := [(0, 470, 471, 98), (0, 470, 477, 100), (0, 470, 483, 102)]) E (fun u hI _ => ⟨_, Or.inl rfl, c11_put_x E.2.2.1.1 hI e16⟩) gP_19 hX11_put ⟨rfl, rfl⟩ ⟨Nat.le_of_ble_eq_true rfl, Nat.le_of_ble_eq_true rfl⟩ ⟨Nat.le_of_ble_eq_true rfl, Nat.le_of_ble_eq_true rfl⟩ rfl rfl rfl (Nat.le_of_ble_eq_true rfl) dL_act_36 htb [⟨0, 470, 471, 98⟩] ⟨0, 470, 477, 100⟩ [⟨0, 470, 483, 102⟩] rfl (fun z hz => by cases List.mem_singleton.mp hz; exact ⟨by decide, _, lP_1, E.2.1.2.2.2.2.1.1⟩) rfl (by decide) lP_2 E.2.1.2.2.1.2.2.2.2.1 (fun q9 => ?_)
            refine rv_astore (q := 479) (lv' := [_, _, _, _, _, _, _, _]) E.x dL_act_477 (Nat.le_of_ble_eq_true rfl) rfl rfl rfl ?_
            refine rv_sipush (q := 482) E.x dL_act_479 rv_ksm1262 rfl ?_
            exact lk_iret E rfl ⟨Nat.le_of_ble_eq_true rfl, Nat.le_of_ble_eq_true rfl⟩ dL_act_482
          · intro hx; subst hx
            refine lk_cx (x := 3) (M1 := M18) (hh := [(0, 470, 471, 98), (0, 470, 477, 100), (0, 470, 483, 102)]) E (fun u hI _ => ⟨_, Or.inl rfl, c11_put_x E.2.2.1.1 hI e16⟩) gP_19 hX11_put ⟨rfl, rfl⟩ ⟨Nat.le_of_ble_eq_true rfl, Nat.le_of_ble_eq_true rfl⟩ ⟨Nat.le_of_ble_eq_true rfl, Nat.le_of_ble_eq_true rfl⟩ rfl rfl rfl (Nat.le_of_ble_eq_true rfl) dL_act_36 htb [⟨0, 470, 471, 98⟩, ⟨0, 470, 477, 100⟩] ⟨0, 470, 483, 102⟩ [] rfl (fun z hz => by rcases List.mem_cons.mp hz with rfl | hz; exact ⟨by decide, _, lP_1, E.2.1.2.2.2.2.1.2.1⟩; cases List.mem_singleton.mp hz; exact ⟨by decide, _, lP_2, E.2.1.2.2.2.2.1.2.2⟩) rfl (by decide) lP_3 E.2.1.2.2.1.2.2.2.2.2.1 (fun q9 => ?_)
            refine rv_astore (q := 485) (lv' := [_, _, _, _, _, _, _, _]) E.x dL_act_483 (Nat.le_of_ble_eq_true rfl) rfl rfl rfl ?_
            refine rv_sipush (q := 488) E.x dL_act_485 rv_ksm1263 rfl ?_
            exact lk_iret E rfl ⟨Nat.le_of_ble_eq_true rfl, Nat.le_of_ble_eq_true rfl⟩ dL_act_488
      · refine rv_iload_n (q := 43) E.x dL_act_42 rfl rfl ?_
        refine rv_iconst (q := 44) E.x dL_act_43 rv_ki3 rfl ?_
        refine rv_icmp_ne (q := 47) (tgt := 56) E.x dL_act_44 (by decide) rfl ?_ ?_
        · refine rv_aload_n (q := 48) E.x dL_act_47 rfl rfl ?_
          refine rv_iload_n (q := 49) E.x dL_act_48 rfl rfl ?_
          refine rv_iload_n (q := 50) E.x dL_act_49 rfl rfl ?_
          refine lk_x3r (fun r20 M23 e19 => ?_) (fun w21 M24 e22 => ?_)
          · refine lk_ci (q := 53) (v := r20) (M1 := M23) E (fun u hI _ => c11_cut E.2.2.1.1 hI e19) gP_23 hX11_cut ⟨rfl, rfl⟩ ⟨Nat.le_of_ble_eq_true rfl, Nat.le_of_ble_eq_true rfl⟩ ⟨Nat.le_of_ble_eq_true rfl, Nat.le_of_ble_eq_true rfl⟩ rfl rfl rfl (Nat.le_of_ble_eq_true rfl) dL_act_50 rfl ?_
            refine rv_goto (q := 470) E.x dL_act_53 (by decide) ?_
            exact lk_iret E rfl ⟨Nat.le_of_ble_eq_true rfl, Nat.le_of_ble_eq_true rfl⟩ dL_act_470
          · refine lk_hhr ?_ ?_ ?_
            · intro hx; subst hx
              refine lk_cx (x := 1) (M1 := M24) (hh := [(0, 470, 471, 98), (0, 470, 477, 100), (0, 470, 483, 102)]) E (fun u hI _ => ⟨_, Or.inl rfl, c11_cut_x E.2.2.1.1 hI e22⟩) gP_23 hX11_cut ⟨rfl, rfl⟩ ⟨Nat.le_of_ble_eq_true rfl, Nat.le_of_ble_eq_true rfl⟩ ⟨Nat.le_of_ble_eq_true rfl, Nat.le_of_ble_eq_true rfl⟩ rfl rfl rfl (Nat.le_of_ble_eq_true rfl) dL_act_50 htb [] ⟨0, 470, 471, 98⟩ [⟨0, 470, 477, 100⟩, ⟨0, 470, 483, 102⟩] rfl (fun z hz => nomatch hz) rfl (by decide) lP_1 E.2.1.2.2.1.2.2.2.1 (fun q9 => ?_)
              refine rv_astore (q := 473) (lv' := [_, _, _, _, _, _, _, _]) E.x dL_act_471 (Nat.le_of_ble_eq_true rfl) rfl rfl rfl ?_
              refine rv_sipush (q := 476) E.x dL_act_473 rv_ksm1261 rfl ?_
              exact lk_iret E rfl ⟨Nat.le_of_ble_eq_true rfl, Nat.le_of_ble_eq_true rfl⟩ dL_act_476
            · intro hx; subst hx
              refine lk_cx (x := 2) (M1 := M24) (hh := [(0, 470, 471, 98), (0, 470, 477, 100), (0, 470, 483, 102)]) E (fun u hI _ => ⟨_, Or.inl rfl, c11_cut_x E.2.2.1.1 hI e22⟩) gP_23 hX11_cut ⟨rfl, rfl⟩ ⟨Nat.le_of_ble_eq_true rfl, Nat.le_of_ble_eq_true rfl⟩ ⟨Nat.le_of_ble_eq_true rfl, Nat.le_of_ble_eq_true rfl⟩ rfl rfl rfl (Nat.le_of_ble_eq_true rfl) dL_act_50 htb [⟨0, 470, 471, 98⟩] ⟨0, 470, 477, 100⟩ [⟨0, 470, 483, 102⟩] rfl (fun z hz => by cases List.mem_singleton.mp hz; exact ⟨by decide, _, lP_1, E.2.1.2.2.2.2.1.1⟩) rfl (by decide) lP_2 E.2.1.2.2.1.2.2.2.2.1 (fun q9 => ?_)
              refine rv_astore (q := 479) (lv' := [_, _, _, _, _, _, _, _]) E.x dL_act_477 (Nat.le_of_ble_eq_true rfl) rfl rfl rfl ?_
              refine rv_sipush (q := 482) E.x dL_act_479 rv_ksm1262 rfl ?_
              exact lk_iret E rfl ⟨Nat.le_of_ble_eq_true rfl, Nat.le_of_ble_eq_true rfl⟩ dL_act_482
            · intro hx; subst hx
              refine lk_cx (x := 3) (M1 := M24) (hh := [(0, 470, 471, 98), (0, 470, 477, 100), (0, 470, 483, 102)]) E (fun u hI _ => ⟨_, Or.inl rfl, c11_cut_x E.2.2.1.1 hI e22⟩) gP_23 hX11_cut ⟨rfl, rfl⟩ ⟨Nat.le_of_ble_eq_true rfl, Nat.le_of_ble_eq_true rfl⟩ ⟨Nat.le_of_ble_eq_true rfl, Nat.le_of_ble_eq_true rfl⟩ rfl rfl rfl (Nat.le_of_ble_eq_true rfl) dL_act_50 htb [⟨0, 470, 471, 98⟩, ⟨0, 470, 477, 100⟩] ⟨0, 470, 483, 102⟩ [] rfl (fun z hz => by rcases List.mem_cons.mp hz with rfl | hz; exact ⟨by decide, _, lP_1, E.2.1.2.2.2.2.1.2.1⟩; cases List.mem_singleton.mp hz; exact ⟨by decide, _, lP_2, E.2.1.2.2.2.2.1.2.2⟩) rfl (by decide) lP_3 E.2.1.2.2.1.2.2.2.2.2.1 (fun q9 => ?_)
              refine rv_astore (q := 485) (lv' := [_, _, _, _, _, _, _, _]) E.x dL_act_483 (Nat.le_of_ble_eq_true rfl) rfl rfl rfl ?_
              refine rv_sipush (q := 488) E.x dL_act_485 rv_ksm1263 rfl ?_
              exact lk_iret E rfl ⟨Nat.le_of_ble_eq_true rfl, Nat.le_of_ble_eq_true rfl⟩ dL_act_488
        · refine rv_iload_n (q := 57) E.x dL_act_56 rfl rfl ?_
          refine rv_iconst (q := 58) E.x dL_act_57 rv_ki4 rfl ?_
          refine rv_icmp_ne (q := 61) (tgt := 69) E.x dL_act_58 (by decide) rfl ?_ ?_
          · refine rv_aload_n (q := 62) E.x dL_act_61 rfl rfl ?_
            refine rv_iload_n (q := 63) E.x dL_act_62 rfl rfl ?_
            refine lk_xmr (fun r26 g29 M30 e25 => ?_) (fun w27 e28 => ?_)
            · refine lk_cm (q := 66) (v := r26) E (fun u hI _ => c11_open E.2.2.1.1 hI e25) gP_26 hX11_open ⟨rfl, rfl⟩ ⟨Nat.le_of_ble_eq_true rfl, Nat.le_of_ble_eq_true rfl⟩ ⟨Nat.le_of_ble_eq_true rfl, Nat.le_of_ble_eq_true rfl⟩ rfl rfl rfl (Nat.le_of_ble_eq_true rfl) dL_act_63 rfl ?_
              refine rv_goto (q := 470) E.x dL_act_66 (by decide) ?_
              exact lk_iret E rfl ⟨Nat.le_of_ble_eq_true rfl, Nat.le_of_ble_eq_true rfl⟩ dL_act_470
            · refine lk_hhr ?_ ?_ ?_
              · intro hx; subst hx
                refine lk_cx (x := 1) (M1 := M) (hh := [(0, 470, 471, 98), (0, 470, 477, 100), (0, 470, 483, 102)]) E (fun u hI _ => ⟨_, Or.inr rfl, c11_open_x E.2.2.1.1 hI e28⟩) gP_26 hX11_open ⟨rfl, rfl⟩ ⟨Nat.le_of_ble_eq_true rfl, Nat.le_of_ble_eq_true rfl⟩ ⟨Nat.le_of_ble_eq_true rfl, Nat.le_of_ble_eq_true rfl⟩ rfl rfl rfl (Nat.le_of_ble_eq_true rfl) dL_act_63 htb [] ⟨0, 470, 471, 98⟩ [⟨0, 470, 477, 100⟩, ⟨0, 470, 483, 102⟩] rfl (fun z hz => nomatch hz) rfl (by decide) lP_1 E.2.1.2.2.1.2.2.2.1 (fun q9 => ?_)
                refine rv_astore (q := 473) (lv' := [_, _, _, _, _, _, _, _]) E.x dL_act_471 (Nat.le_of_ble_eq_true rfl) rfl rfl rfl ?_
                refine rv_sipush (q := 476) E.x dL_act_473 rv_ksm1261 rfl ?_
                exact lk_iret E rfl ⟨Nat.le_of_ble_eq_true rfl, Nat.le_of_ble_eq_true rfl⟩ dL_act_476
              · intro hx; subst hx
                refine lk_cx (x := 2) (M1 := M) (hh := [(0, 470, 471, 98), (0, 470, 477, 100), (0, 470, 483, 102)]) E (fun u hI _ => ⟨_, Or.inr rfl, c11_open_x E.2.2.1.1 hI e28⟩) gP_26 hX11_open ⟨rfl, rfl⟩ ⟨Nat.le_of_ble_eq_true rfl, Nat.le_of_ble_eq_true rfl⟩ ⟨Nat.le_of_ble_eq_true rfl, Nat.le_of_ble_eq_true rfl⟩ rfl rfl rfl (Nat.le_of_ble_eq_true rfl) dL_act_63 htb [⟨0, 470, 471, 98⟩] ⟨0, 470, 477, 100⟩ [⟨0, 470, 483, 102⟩] rfl (fun z hz => by cases List.mem_singleton.mp hz; exact ⟨by decide, _, lP_1, E.2.1.2.2.2.2.1.1⟩) rfl (by decide) lP_2 E.2.1.2.2.1.2.2.2.2.1 (fun q9 => ?_)
                refine rv_astore (q := 479) (lv' := [_, _, _, _, _, _, _, _]) E.x dL_act_477 (Nat.le_of_ble_eq_true rfl) rfl rfl rfl ?_
                refine rv_sipush (q := 482) E.x dL_act_479 rv_ksm1262 rfl ?_
                exact lk_iret E rfl ⟨Nat.le_of_ble_eq_true rfl, Nat.le_of_ble_eq_true rfl⟩ dL_act_482
              · intro hx; subst hx
                refine lk_cx (x := 3) (M1 := M) (hh := [(0, 470, 471, 98), (0, 470, 477, 100), (0, 470, 483, 102)]) E (fun u hI _ => ⟨_, Or.inr rfl, c11_open_x E.2.2.1.1 hI e28⟩) gP_26 hX11_open ⟨rfl, rfl⟩ ⟨Nat.le_of_ble_eq_true rfl, Nat.le_of_ble_eq_true rfl⟩ ⟨Nat.le_of_ble_eq_true rfl, Nat.le_of_ble_eq_true rfl⟩ rfl rfl rfl (Nat.le_of_ble_eq_true rfl) dL_act_63 htb [⟨0, 470, 471, 98⟩, ⟨0, 470, 477, 100⟩] ⟨0, 470, 483, 102⟩ [] rfl (fun z hz => by rcases List.mem_cons.mp hz with rfl | hz; exact ⟨by decide, _, lP_1, E.2.1.2.2.2.2.1.2.1⟩; cases List.mem_singleton.mp hz; exact ⟨by decide, _, lP_2, E.2.1.2.2.2.2.1.2.2⟩) rfl (by decide) lP_3 E.2.1.2.2.1.2.2.2.2.2.1 (fun q9 => ?_)
                refine rv_astore (q := 485) (lv' := [_, _, _, _, _, _, _, _]) E.x dL_act_483 (Nat.le_of_ble_eq_true rfl) rfl rfl rfl ?_
                refine rv_sipush (q := 488) E.x dL_act_485 rv_ksm1263 rfl ?_
                exact lk_iret E rfl ⟨Nat.le_of_ble_eq_true rfl, Nat.le_of_ble_eq_true rfl⟩ dL_act_488
          · refine rv_iload_n (q := 70) E.x dL_act_69 rfl rfl ?_
            refine rv_iconst (q := 71) E.x dL_act_70 rv_ki5 rfl ?_
            refine rv_icmp_ne (q := 74) (tgt := 83) E.x dL_act_71 (by decide) rfl ?_ ?_
            · refine rv_aload_n (q := 75) E.x dL_act_74 rfl rfl ?_
              refine rv_iload_n (q := 76) E.x dL_act_75 rfl rfl ?_
              refine rv_iload_n (q := 77) E.x dL_act_76 rfl rfl ?_
              refine lk_x3r (fun r32 M35 e31 => ?_) (fun w33 M36 e34 => ?_)
              · refine lk_ci (q := 80) (v := r32) (M1 := M35) E (fun u hI _ => c11_upload E.2.2.1.1 hI e31) gP_29 hX11_upload ⟨rfl, rfl⟩ ⟨Nat.le_of_ble_eq_true rfl, Nat.le_of_ble_eq_true rfl⟩ ⟨Nat.le_of_ble_eq_true rfl, Nat.le_of_ble_eq_true rfl⟩ rfl rfl rfl (Nat.le_of_ble_eq_true rfl) dL_act_77 rfl ?_
                refine rv_goto (q := 470) E.x dL_act_80 (by decide) ?_
                exact lk_iret E rfl ⟨Nat.le_of_ble_eq_true rfl, Nat.le_of_ble_eq_true rfl⟩ dL_act_470
              · refine lk_hhr ?_ ?_ ?_
                · intro hx; subst hx
                  refine lk_cx (x := 1) (M1 := M36) (hh := [(0, 470, 471, 98), (0, 470, 477, 100), (0, 470, 483, 102)]) E (fun u hI _ => ⟨_, Or.inl rfl, c11_upload_x E.2.2.1.1 hI e34⟩) gP_29 hX11_upload ⟨rfl, rfl⟩ ⟨Nat.le_of_ble_eq_true rfl, Nat.le_of_ble_eq_true rfl⟩ ⟨Nat.le_of_ble_eq_true rfl, Nat.le_of_ble_eq_true rfl⟩ rfl rfl rfl (Nat.le_of_ble_eq_true rfl) dL_act_77 htb [] ⟨0, 470, 471, 98⟩ [⟨0, 470, 477, 100⟩, ⟨0, 470, 483, 102⟩] rfl (fun z hz => nomatch hz) rfl (by decide) lP_1 E.2.1.2.2.1.2.2.2.1 (fun q9 => ?_)
                  refine rv_astore (q := 473) (lv' := [_, _, _, _, _, _, _, _]) E.x dL_act_471 (Nat.le_of_ble_eq_true rfl) rfl rfl rfl ?_
                  refine rv_sipush (q := 476) E.x dL_act_473 rv_ksm1261 rfl ?_
                  exact lk_iret E rfl ⟨Nat.le_of_ble_eq_true rfl, Nat.le_of_ble_eq_true rfl⟩ dL_act_476
                · intro hx; subst hx
                  refine lk_cx (x := 2) (M1 := M36) (hh := [(0, 470, 471, 98), (0, 470, 477, 100), (0, 470, 483, 102)]) E (fun u hI _ => ⟨_, Or.inl rfl, c11_upload_x E.2.2.1.1 hI e34⟩) gP_29 hX11_upload ⟨rfl, rfl⟩ ⟨Nat.le_of_ble_eq_true rfl, Nat.le_of_ble_eq_true rfl⟩ ⟨Nat.le_of_ble_eq_true rfl, Nat.le_of_ble_eq_true rfl⟩ rfl rfl rfl (Nat.le_of_ble_eq_true rfl) dL_act_77 htb [⟨0, 470, 471, 98⟩] ⟨0, 470, 477, 100⟩ [⟨0, 470, 483, 102⟩] rfl (fun z hz => by cases List.mem_singleton.mp hz; exact ⟨by decide, _, lP_1, E.2.1.2.2.2.2.1.1⟩) rfl (by decide) lP_2 E.2.1.2.2.1.2.2.2.2.1 (fun q9 => ?_)
                  refine rv_astore (q := 479) (lv' := [_, _, _, _, _, _, _, _]) E.x dL_act_477 (Nat.le_of_ble_eq_true rfl) rfl rfl rfl ?_
                  refine rv_sipush (q := 482) E.x dL_act_479 rv_ksm1262 rfl ?_
                  exact lk_iret E rfl ⟨Nat.le_of_ble_eq_true rfl, Nat.le_of_ble_eq_true rfl⟩ dL_act_482
                · intro hx; subst hx
                  refine lk_cx (x := 3) (M1 := M36) (hh := [(0, 470, 471, 98), (0, 470, 477, 100), (0, 470, 483, 102)]) E (fun u hI _ => ⟨_, Or.inl rfl, c11_upload_x E.2.2.1.1 hI e34⟩) gP_29 hX11_upload ⟨rfl, rfl⟩ ⟨Nat.le_of_ble_eq_true rfl, Nat.le_of_ble_eq_true rfl⟩ ⟨Nat.le_of_ble_eq_true rfl, Nat.le_of_ble_eq_true rfl⟩ rfl rfl rfl (Nat.le_of_ble_eq_true rfl) dL_act_77 htb [⟨0, 470, 471, 98⟩, ⟨0, 470, 477, 100⟩] ⟨0, 470, 483, 102⟩ [] rfl (fun z hz => by rcases List.mem_cons.mp hz with rfl | hz; exact ⟨by decide, _, lP_1, E.2.1.2.2.2.2.1.2.1⟩; cases List.mem_singleton.mp hz; exact ⟨by decide, _, lP_2, E.2.1.2.2.2.2.1.2.2⟩) rfl (by decide) lP_3 E.2.1.2.2.1.2.2.2.2.2.1 (fun q9 => ?_)
                  refine rv_astore (q := 485) (lv' := [_, _, _, _, _, _, _, _]) E.x dL_act_483 (Nat.le_of_ble_eq_true rfl) rfl rfl rfl ?_
                  refine rv_sipush (q := 488) E.x dL_act_485 rv_ksm1263 rfl ?_
                  exact lk_iret E rfl ⟨Nat.le_of_ble_eq_true rfl, Nat.le_of_ble_eq_true rfl⟩ dL_act_488
            · refine rv_iload_n (q := 84) E.x dL_act_83 rfl rfl ?_
              refine rv_bipush (q := 86) E.x dL_act_84 rv_kb6 rfl ?_
              refine rv_icmp_ne (q := 89) (tgt := 98) E.x dL_act_86 (by decide) rfl ?_ ?_
              · refine rv_aload_n (q := 90) E.x dL_act_89 rfl rfl ?_
                refine rv_iload_n (q := 91) E.x dL_act_90 rfl rfl ?_
                refine rv_iload_n (q := 92) E.x dL_act_91 rfl rfl ?_
                refine lk_x3r (fun r38 M41 e37 => ?_) (fun w39 M42 e40 => ?_)
                · refine lk_ci (q := 95) (v := r38) (M1 := M41) E (fun u hI _ => c11_rebase E.2.2.1.1 hI e37) gP_32 hX11_rebase ⟨rfl, rfl⟩ ⟨Nat.le_of_ble_eq_true rfl, Nat.le_of_ble_eq_true rfl⟩ ⟨Nat.le_of_ble_eq_true rfl, Nat.le_of_ble_eq_true rfl⟩ rfl rfl rfl (Nat.le_of_ble_eq_true rfl) dL_act_92 rfl ?_
                  refine rv_goto (q := 470) E.x dL_act_95 (by decide) ?_
                  exact lk_iret E rfl ⟨Nat.le_of_ble_eq_true rfl, Nat.le_of_ble_eq_true rfl⟩ dL_act_470
                · refine lk_hhr ?_ ?_ ?_
                  · intro hx; subst hx
                    refine lk_cx (x := 1) (M1 := M42) (hh := [(0, 470, 471, 98), (0, 470, 477, 100), (0, 470, 483, 102)]) E (fun u hI _ => ⟨_, Or.inl rfl, c11_rebase_x E.2.2.1.1 hI e40⟩) gP_32 hX11_rebase ⟨rfl, rfl⟩ ⟨Nat.le_of_ble_eq_true rfl, Nat.le_of_ble_eq_true rfl⟩ ⟨Nat.le_of_ble_eq_true rfl, Nat.le_of_ble_eq_true rfl⟩ rfl rfl rfl (Nat.le_of_ble_eq_true rfl) dL_act_92 htb [] ⟨0, 470, 471, 98⟩ [⟨0, 470, 477, 100⟩, ⟨0, 470, 483, 102⟩] rfl (fun z hz => nomatch hz) rfl (by decide) lP_1 E.2.1.2.2.1.2.2.2.1 (fun q9 => ?_)
                    refine rv_astore (q := 473) (lv' := [_, _, _, _, _, _, _, _]) E.x dL_act_471 (Nat.le_of_ble_eq_true rfl) rfl rfl rfl ?_
                    refine rv_sipush (q := 476) E.x dL_act_473 rv_ksm1261 rfl ?_
                    exact lk_iret E rfl ⟨Nat.le_of_ble_eq_true rfl, Nat.le_of_ble_eq_true rfl⟩ dL_act_476
                  · intro hx; subst hx
                    refine lk_cx (x := 2) (M1 := M42) (hh := [(0, 470, 471, 98), (0, 470, 477, 100), (0, 470, 483, 102)]) E (fun u hI _ => ⟨_, Or.inl rfl, c11_rebase_x E.2.2.1.1 hI e40⟩) gP_32 hX11_rebase ⟨rfl, rfl⟩ ⟨Nat.le_of_ble_eq_true rfl, Nat.le_of_ble_eq_true rfl⟩ ⟨Nat.le_of_ble_eq_true rfl, Nat.le_of_ble_eq_true rfl⟩ rfl rfl rfl (Nat.le_of_ble_eq_true rfl) dL_act_92 htb [⟨0, 470, 471, 98⟩] ⟨0, 470, 477, 100⟩ [⟨0, 470, 483, 102⟩] rfl (fun z hz => by cases List.mem_singleton.mp hz; exact ⟨by decide, _, lP_1, E.2.1.2.2.2.2.1.1⟩) rfl (by decide) lP_2 E.2.1.2.2.1.2.2.2.2.1 (fun q9 => ?_)
                    refine rv_astore (q := 479) (lv' := [_, _, _, _, _, _, _, _]) E.x dL_act_477 (Nat.le_of_ble_eq_true rfl) rfl rfl rfl ?_
                    refine rv_sipush (q := 482) E.x dL_act_479 rv_ksm1262 rfl ?_
                    exact lk_iret E rfl ⟨Nat.le_of_ble_eq_true rfl, Nat.le_of_ble_eq_true rfl⟩ dL_act_482
                  · intro hx; subst hx
                    refine lk_cx (x := 3) (M1 := M42) (hh := [(0, 470, 471, 98), (0, 470, 477, 100), (0, 470, 483, 102)]) E (fun u hI _ => ⟨_, Or.inl rfl, c11_rebase_x E.2.2.1.1 hI e40⟩) gP_32 hX11_rebase ⟨rfl, rfl⟩ ⟨Nat.le_of_ble_eq_true rfl, Nat.le_of_ble_eq_true rfl⟩ ⟨Nat.le_of_ble_eq_true rfl, Nat.le_of_ble_eq_true rfl⟩ rfl rfl rfl (Nat.le_of_ble_eq_true rfl) dL_act_92 htb [⟨0, 470, 471, 98⟩, ⟨0, 470, 477, 100⟩] ⟨0, 470, 483, 102⟩ [] rfl (fun z hz => by rcases List.mem_cons.mp hz with rfl | hz; exact ⟨by decide, _, lP_1, E.2.1.2.2.2.2.1.2.1⟩; cases List.mem_singleton.mp hz; exact ⟨by decide, _, lP_2, E.2.1.2.2.2.2.1.2.2⟩) rfl (by decide) lP_3 E.2.1.2.2.1.2.2.2.2.2.1 (fun q9 => ?_)
                    refine rv_astore (q := 485) (lv' := [_, _, _, _, _, _, _, _]) E.x dL_act_483 (Nat.le_of_ble_eq_true rfl) rfl rfl rfl ?_
                    refine rv_sipush (q := 488) E.x dL_act_485 rv_ksm1263 rfl ?_
                    exact lk_iret E rfl ⟨Nat.le_of_ble_eq_true rfl, Nat.le_of_ble_eq_true rfl⟩ dL_act_488
              · refine rv_iload_n (q := 99) E.x dL_act_98 rfl rfl ?_
                refine rv_bipush (q := 101) E.x dL_act_99 rv_kb7 rfl ?_
                refine rv_icmp_ne (q := 104) (tgt := 113) E.x dL_act_101 (by decide) rfl ?_ ?_
                · refine rv_aload_n (q := 105) E.x dL_act_104 rfl rfl ?_
                  refine rv_iload_n (q := 106) E.x dL_act_105 rfl rfl ?_
                  refine rv_iload_n (q := 107) E.x dL_act_106 rfl rfl ?_
                  refine lk_x3r (fun r44 M47 e43 => ?_) (fun w45 M48 e46 => ?_)
                  · refine lk_ci (q := 110) (v := r44) (M1 := M47) E (fun u hI _ => c11_abandon E.2.2.1.1 hI e43) gP_35 hX11_abandon ⟨rfl, rfl⟩ ⟨Nat.le_of_ble_eq_true rfl, Nat.le_of_ble_eq_true rfl⟩ ⟨Nat.le_of_ble_eq_true rfl, Nat.le_of_ble_eq_true rfl⟩ rfl rfl rfl (Nat.le_of_ble_eq_true rfl) dL_act_107 rfl ?_
                    refine rv_goto (q := 470) E.x dL_act_110 (by decide) ?_
                    exact lk_iret E rfl ⟨Nat.le_of_ble_eq_true rfl, Nat.le_of_ble_eq_true rfl⟩ dL_act_470
                  · refine lk_hhr ?_ ?_ ?_
                    · intro hx; subst hx
                      refine lk_cx (x := 1) (M1 := M48) (hh := [(0, 470, 471, 98), (0, 470, 477, 100), (0, 470, 483, 102)]) E (fun u hI _ => ⟨_, Or.inl rfl, c11_abandon_x E.2.2.1.1 hI e46⟩) gP_35 hX11_abandon ⟨rfl, rfl⟩ ⟨Nat.le_of_ble_eq_true rfl, Nat.le_of_ble_eq_true rfl⟩ ⟨Nat.le_of_ble_eq_true rfl, Nat.le_of_ble_eq_true rfl⟩ rfl rfl rfl (Nat.le_of_ble_eq_true rfl) dL_act_107 htb [] ⟨0, 470, 471, 98⟩ [⟨0, 470, 477, 100⟩, ⟨0, 470, 483, 102⟩] rfl (fun z hz => nomatch hz) rfl (by decide) lP_1 E.2.1.2.2.1.2.2.2.1 (fun q9 => ?_)
                      refine rv_astore (q := 473) (lv' := [_, _, _, _, _, _, _, _]) E.x dL_act_471 (Nat.le_of_ble_eq_true rfl) rfl rfl rfl ?_
                      refine rv_sipush (q := 476) E.x dL_act_473 rv_ksm1261 rfl ?_
                      exact lk_iret E rfl ⟨Nat.le_of_ble_eq_true rfl, Nat.le_of_ble_eq_true rfl⟩ dL_act_476
                    · intro hx; subst hx
                      refine lk_cx (x := 2) (M1 := M48) (hh := [(0, 470, 471, 98), (0, 470, 477, 100), (0, 470, 483, 102)]) E (fun u hI _ => ⟨_, Or.inl rfl, c11_abandon_x E.2.2.1.1 hI e46⟩) gP_35 hX11_abandon ⟨rfl, rfl⟩ ⟨Nat.le_of_ble_eq_true rfl, Nat.le_of_ble_eq_true rfl⟩ ⟨Nat.le_of_ble_eq_true rfl, Nat.le_of_ble_eq_true rfl⟩ rfl rfl rfl (Nat.le_of_ble_eq_true rfl) dL_act_107 htb [⟨0, 470, 471, 98⟩] ⟨0, 470, 477, 100⟩ [⟨0, 470, 483, 102⟩] rfl (fun z hz => by cases List.mem_singleton.mp hz; exact ⟨by decide, _, lP_1, E.2.1.2.2.2.2.1.1⟩) rfl (by decide) lP_2 E.2.1.2.2.1.2.2.2.2.1 (fun q9 => ?_)
                      refine rv_astore (q := 479) (lv' := [_, _, _, _, _, _, _, _]) E.x dL_act_477 (Nat.le_of_ble_eq_true rfl) rfl rfl rfl ?_
                      refine rv_sipush (q := 482) E.x dL_act_479 rv_ksm1262 rfl ?_
                      exact lk_iret E rfl ⟨Nat.le_of_ble_eq_true rfl, Nat.le_of_ble_eq_true rfl⟩ dL_act_482
                    · intro hx; subst hx
                      refine lk_cx (x := 3) (M1 := M48) (hh := [(0, 470, 471, 98), (0, 470, 477, 100), (0, 470, 483, 102)]) E (fun u hI _ => ⟨_, Or.inl rfl, c11_abandon_x E.2.2.1.1 hI e46⟩) gP_35 hX11_abandon ⟨rfl, rfl⟩ ⟨Nat.le_of_ble_eq_true rfl, Nat.le_of_ble_eq_true rfl⟩ ⟨Nat.le_of_ble_eq_true rfl, Nat.le_of_ble_eq_true rfl⟩ rfl rfl rfl (Nat.le_of_ble_eq_true rfl) dL_act_107 htb [⟨0, 470, 471, 98⟩, ⟨0, 470, 477, 100⟩] ⟨0, 470, 483, 102⟩ [] rfl (fun z hz => by rcases List.mem_cons.mp hz with rfl | hz; exact ⟨by decide, _, lP_1, E.2.1.2.2.2.2.1.2.1⟩; cases List.mem_singleton.mp hz; exact ⟨by decide, _, lP_2, E.2.1.2.2.2.2.1.2.2⟩) rfl (by decide) lP_3 E.2.1.2.2.1.2.2.2.2.2.1 (fun q9 => ?_)
                      refine rv_astore (q := 485) (lv' := [_, _, _, _, _, _, _, _]) E.x dL_act_483 (Nat.le_of_ble_eq_true rfl) rfl rfl rfl ?_
                      refine rv_sipush (q := 488) E.x dL_act_485 rv_ksm1263 rfl ?_
                      exact lk_iret E rfl ⟨Nat.le_of_ble_eq_true rfl, Nat.le_of_ble_eq_true rfl⟩ dL_act_488
                · refine rv_iload_n (q := 114) E.x dL_act_113 rfl rfl ?_
                  refine rv_bipush (q := 116) E.x dL_act_114 rv_kb8 rfl ?_
                  refine rv_icmp_ne (q := 119) (tgt := 127) E.x dL_act_116 (by decide) rfl ?_ ?_
                  · refine rv_aload_n (q := 120) E.x dL_act_119 rfl rfl ?_
                    refine rv_iload_n (q := 121) E.x dL_act_120 rfl rfl ?_
                    refine lk_x3r (fun r50 M53 e49 => ?_) (fun w51 M54 e52 => ?_)
                    · refine lk_ci (q := 124) (v := r50) (M1 := M53) E (fun u hI _ => c11_restore E.2.2.1.1 hI e49) gP_38 hX11_restore ⟨rfl, rfl⟩ ⟨Nat.le_of_ble_eq_true rfl, Nat.le_of_ble_eq_true rfl⟩ ⟨Nat.le_of_ble_eq_true rfl, Nat.le_of_ble_eq_true rfl⟩ rfl rfl rfl (Nat.le_of_ble_eq_true rfl) dL_act_121 rfl ?_
                      refine rv_goto (q := 470) E.x dL_act_124 (by decide) ?_
                      exact lk_iret E rfl ⟨Nat.le_of_ble_eq_true rfl, Nat.le_of_ble_eq_true rfl⟩ dL_act_470
                    · refine lk_hhr ?_ ?_ ?_
                      · intro hx; subst hx
                        refine lk_cx (x := 1) (M1 := M54) (hh := [(0, 470, 471, 98), (0, 470, 477, 100), (0, 470, 483, 102)]) E (fun u hI _ => ⟨_, Or.inl rfl, c11_restore_x E.2.2.1.1 hI e52⟩) gP_38 hX11_restore ⟨rfl, rfl⟩ ⟨Nat.le_of_ble_eq_true rfl, Nat.le_of_ble_eq_true rfl⟩ ⟨Nat.le_of_ble_eq_true rfl, Nat.le_of_ble_eq_true rfl⟩ rfl rfl rfl (Nat.le_of_ble_eq_true rfl) dL_act_121 htb [] ⟨0, 470, 471, 98⟩ [⟨0, 470, 477, 100⟩, ⟨0, 470, 483, 102⟩] rfl (fun z hz => nomatch hz) rfl (by decide) lP_1 E.2.1.2.2.1.2.2.2.1 (fun q9 => ?_)
                        refine rv_astore (q := 473) (lv' := [_, _, _, _, _, _, _, _]) E.x dL_act_471 (Nat.le_of_ble_eq_true rfl) rfl rfl rfl ?_
                        refine rv_sipush (q := 476) E.x dL_act_473 rv_ksm1261 rfl ?_
                        exact lk_iret E rfl ⟨Nat.le_of_ble_eq_true rfl, Nat.le_of_ble_eq_true rfl⟩ dL_act_476
                      · intro hx; subst hx
                        refine lk_cx (x := 2) (M1 := M54) (hh := [(0, 470, 471, 98), (0, 470, 477, 100), (0, 470, 483, 102)]) E (fun u hI _ => ⟨_, Or.inl rfl, c11_restore_x E.2.2.1.1 hI e52⟩) gP_38 hX11_restore ⟨rfl, rfl⟩ ⟨Nat.le_of_ble_eq_true rfl, Nat.le_of_ble_eq_true rfl⟩ ⟨Nat.le_of_ble_eq_true rfl, Nat.le_of_ble_eq_true rfl⟩ rfl rfl rfl (Nat.le_of_ble_eq_true rfl) dL_act_121 htb [⟨0, 470, 471, 98⟩] ⟨0, 470, 477, 100⟩ [⟨0, 470, 483, 102⟩] rfl (fun z hz => by cases List.mem_singleton.mp hz; exact ⟨by decide, _, lP_1, E.2.1.2.2.2.2.1.1⟩) rfl (by decide) lP_2 E.2.1.2.2.1.2.2.2.2.1 (fun q9 => ?_)
                        refine rv_astore (q := 479) (lv' := [_, _, _, _, _, _, _, _]) E.x dL_act_477 (Nat.le_of_ble_eq_true rfl) rfl rfl rfl ?_
                        refine rv_sipush (q := 482) E.x dL_act_479 rv_ksm1262 rfl ?_
                        exact lk_iret E rfl ⟨Nat.le_of_ble_eq_true rfl, Nat.le_of_ble_eq_true rfl⟩ dL_act_482
                      · intro hx; subst hx
                        refine lk_cx (x := 3) (M1 := M54) (hh := [(0, 470, 471, 98), (0, 470, 477, 100), (0, 470, 483, 102)]) E (fun u hI _ => ⟨_, Or.inl rfl, c11_restore_x E.2.2.1.1 hI e52⟩) gP_38 hX11_restore ⟨rfl, rfl⟩ ⟨Nat.le_of_ble_eq_true rfl, Nat.le_of_ble_eq_true rfl⟩ ⟨Nat.le_of_ble_eq_true rfl, Nat.le_of_ble_eq_true rfl⟩ rfl rfl rfl (Nat.le_of_ble_eq_true rfl) dL_act_121 htb [⟨0, 470, 471, 98⟩, ⟨0, 470, 477, 100⟩] ⟨0, 470, 483, 102⟩ [] rfl (fun z hz => by rcases List.mem_cons.mp hz with rfl | hz; exact ⟨by decide, _, lP_1, E.2.1.2.2.2.2.1.2.1⟩; cases List.mem_singleton.mp hz; exact ⟨by decide, _, lP_2, E.2.1.2.2.2.2.1.2.2⟩) rfl (by decide) lP_3 E.2.1.2.2.1.2.2.2.2.2.1 (fun q9 => ?_)
                        refine rv_astore (q := 485) (lv' := [_, _, _, _, _, _, _, _]) E.x dL_act_483 (Nat.le_of_ble_eq_true rfl) rfl rfl rfl ?_
                        refine rv_sipush (q := 488) E.x dL_act_485 rv_ksm1263 rfl ?_
                        exact lk_iret E rfl ⟨Nat.le_of_ble_eq_true rfl, Nat.le_of_ble_eq_true rfl⟩ dL_act_488
                  · refine rv_iload_n (q := 128) E.x dL_act_127 rfl rfl ?_
                    refine rv_bipush (q := 130) E.x dL_act_128 rv_kb9 rfl ?_
                    refine rv_icmp_ne (q := 133) (tgt := 162) E.x dL_act_130 (by decide) rfl ?_ ?_
                    · refine rv_aload_n (q := 134) E.x dL_act_133 rfl rfl ?_
                      refine rv_iload_n (q := 135) E.x dL_act_134 rfl rfl ?_
                      refine rv_iload_n (q := 136) E.x dL_act_135 rfl rfl ?_
                      refine rv_iconst (q := 137) E.x dL_act_136 rv_ki1 rfl ?_
                      refine rv_icmp_ne (q := 140) (tgt := 144) E.x dL_act_137 (by decide) rfl ?_ ?_
                      · refine rv_iconst (q := 141) E.x dL_act_140 rv_ki1 rfl ?_
                        refine rv_goto (q := 145) E.x dL_act_141 (by decide) ?_
                        refine rv_wk [false, false, false, false, true, false, false, false] ?_
                        exact bp_act_145 E htb A gh M a5 a3 true
                      · refine rv_iconst (q := 145) E.x dL_act_144 rv_ki0 rfl ?_
                        refine rv_wk [false, false, false, false, true, false, false, false] ?_
                        exact bp_act_145 E htb A gh M a5 a3 false
                    · refine rv_iload_n (q := 163) E.x dL_act_162 rfl rfl ?_
                      refine rv_bipush (q := 165) E.x dL_act_163 rv_kb10 rfl ?_
                      refine rv_icmp_ne (q := 168) (tgt := 177) E.x dL_act_165 (by decide) rfl ?_ ?_
                      · refine rv_aload_n (q := 169) E.x dL_act_168 rfl rfl ?_
                        refine rv_iload_n (q := 170) E.x dL_act_169 rfl rfl ?_
                        refine rv_iload_n (q := 171) E.x dL_act_170 rfl rfl ?_
                        refine lk_x3r (fun r56 M59 e55 => ?_) (fun w57 M60 e58 => ?_)
                        · refine lk_ci (q := 174) (v := r56) (M1 := M59) E (fun u hI _ => c11_setTopic E.2.2.1.1 hI e55) gP_45 hX11_setTopic ⟨rfl, rfl⟩ ⟨Nat.le_of_ble_eq_true rfl, Nat.le_of_ble_eq_true rfl⟩ ⟨Nat.le_of_ble_eq_true rfl, Nat.le_of_ble_eq_true rfl⟩ rfl rfl rfl (Nat.le_of_ble_eq_true rfl) dL_act_171 rfl ?_
                          refine rv_goto (q := 470) E.x dL_act_174 (by decide) ?_
                          exact lk_iret E rfl ⟨Nat.le_of_ble_eq_true rfl, Nat.le_of_ble_eq_true rfl⟩ dL_act_470
                        · refine lk_hhr ?_ ?_ ?_
                          · intro hx; subst hx
                            refine lk_cx (x := 1) (M1 := M60) (hh := [(0, 470, 471, 98), (0, 470, 477, 100), (0, 470, 483, 102)]) E (fun u hI _ => ⟨_, Or.inl rfl, c11_setTopic_x E.2.2.1.1 hI e58⟩) gP_45 hX11_setTopic ⟨rfl, rfl⟩ ⟨Nat.le_of_ble_eq_true rfl, Nat.le_of_ble_eq_true rfl⟩ ⟨Nat.le_of_ble_eq_true rfl, Nat.le_of_ble_eq_true rfl⟩ rfl rfl rfl (Nat.le_of_ble_eq_true rfl) dL_act_171 htb [] ⟨0, 470, 471, 98⟩ [⟨0, 470, 477, 100⟩, ⟨0, 470, 483, 102⟩] rfl (fun z hz => nomatch hz) rfl (by decide) lP_1 E.2.1.2.2.1.2.2.2.1 (fun q9 => ?_)
                            refine rv_astore (q := 473) (lv' := [_, _, _, _, _, _, _, _]) E.x dL_act_471 (Nat.le_of_ble_eq_true rfl) rfl rfl rfl ?_
                            refine rv_sipush (q := 476) E.x dL_act_473 rv_ksm1261 rfl ?_
                            exact lk_iret E rfl ⟨Nat.le_of_ble_eq_true rfl, Nat.le_of_ble_eq_true rfl⟩ dL_act_476
                          · intro hx; subst hx
                            refine lk_cx (x := 2) (M1 := M60) (hh := [(0, 470, 471, 98), (0, 470, 477, 100), (0, 470, 483, 102)]) E (fun u hI _ => ⟨_, Or.inl rfl, c11_setTopic_x E.2.2.1.1 hI e58⟩) gP_45 hX11_setTopic ⟨rfl, rfl⟩ ⟨Nat.le_of_ble_eq_true rfl, Nat.le_of_ble_eq_true rfl⟩ ⟨Nat.le_of_ble_eq_true rfl, Nat.le_of_ble_eq_true rfl⟩ rfl rfl rfl (Nat.le_of_ble_eq_true rfl) dL_act_171 htb [⟨0, 470, 471, 98⟩] ⟨0, 470, 477, 100⟩ [⟨0, 470, 483, 102⟩] rfl (fun z hz => by cases List.mem_singleton.mp hz; exact ⟨by decide, _, lP_1, E.2.1.2.2.2.2.1.1⟩) rfl (by decide) lP_2 E.2.1.2.2.1.2.2.2.2.1 (fun q9 => ?_)
                            refine rv_astore (q := 479) (lv' := [_, _, _, _, _, _, _, _]) E.x dL_act_477 (Nat.le_of_ble_eq_true rfl) rfl rfl rfl ?_
                            refine rv_sipush (q := 482) E.x dL_act_479 rv_ksm1262 rfl ?_
                            exact lk_iret E rfl ⟨Nat.le_of_ble_eq_true rfl, Nat.le_of_ble_eq_true rfl⟩ dL_act_482
                          · intro hx; subst hx
                            refine lk_cx (x := 3) (M1 := M60) (hh := [(0, 470, 471, 98), (0, 470, 477, 100), (0, 470, 483, 102)]) E (fun u hI _ => ⟨_, Or.inl rfl, c11_setTopic_x E.2.2.1.1 hI e58⟩) gP_45 hX11_setTopic ⟨rfl, rfl⟩ ⟨Nat.le_of_ble_eq_true rfl, Nat.le_of_ble_eq_true rfl⟩ ⟨Nat.le_of_ble_eq_true rfl, Nat.le_of_ble_eq_true rfl⟩ rfl rfl rfl (Nat.le_of_ble_eq_true rfl) dL_act_171 htb [⟨0, 470, 471, 98⟩, ⟨0, 470, 477, 100⟩] ⟨0, 470, 483, 102⟩ [] rfl (fun z hz => by rcases List.mem_cons.mp hz with rfl | hz; exact ⟨by decide, _, lP_1, E.2.1.2.2.2.2.1.2.1⟩; cases List.mem_singleton.mp hz; exact ⟨by decide, _, lP_2, E.2.1.2.2.2.2.1.2.2⟩) rfl (by decide) lP_3 E.2.1.2.2.1.2.2.2.2.2.1 (fun q9 => ?_)
                            refine rv_astore (q := 485) (lv' := [_, _, _, _, _, _, _, _]) E.x dL_act_483 (Nat.le_of_ble_eq_true rfl) rfl rfl rfl ?_
                            refine rv_sipush (q := 488) E.x dL_act_485 rv_ksm1263 rfl ?_
                            exact lk_iret E rfl ⟨Nat.le_of_ble_eq_true rfl, Nat.le_of_ble_eq_true rfl⟩ dL_act_488
                      · refine rv_iload_n (q := 178) E.x dL_act_177 rfl rfl ?_
                        refine rv_bipush (q := 180) E.x dL_act_178 rv_kb11 rfl ?_
                        refine rv_icmp_ne (q := 183) (tgt := 203) E.x dL_act_180 (by decide) rfl ?_ ?_
                        · refine rv_aload_n (q := 184) E.x dL_act_183 rfl rfl ?_
                          refine rv_iload_n (q := 185) E.x dL_act_184 rfl rfl ?_
                          refine rv_iload_n (q := 186) E.x dL_act_185 rfl rfl ?_
                          refine rv_iload (q := 188) E.x dL_act_186 rfl rfl ?_
                          refine rv_iconst (q := 189) E.x dL_act_188 rv_ki1 rfl ?_
                          refine rv_icmp_ne (q := 192) (tgt := 196) E.x dL_act_189 (by decide) rfl ?_ ?_
                          · refine rv_iconst (q := 193) E.x dL_act_192 rv_ki1 rfl ?_
                            refine rv_goto (q := 197) E.x dL_act_193 (by decide) ?_
                            refine rv_wk [false, false, false, false, false, false, false, false] ?_
                            exact bp_act_197 E htb A gh M a3 a4 true
                          · refine rv_iconst (q := 197) E.x dL_act_196 rv_ki0 rfl ?_
                            refine rv_wk [false, false, false, false, false, false, false, false] ?_
                            exact bp_act_197 E htb A gh M a3 a4 false
                        · refine rv_iload_n (q := 204) E.x dL_act_203 rfl rfl ?_
                          refine rv_bipush (q := 206) E.x dL_act_204 rv_kb12 rfl ?_
                          refine rv_icmp_ne (q := 209) (tgt := 218) E.x dL_act_206 (by decide) rfl ?_ ?_
                          · refine rv_aload_n (q := 210) E.x dL_act_209 rfl rfl ?_
                            refine rv_iload_n (q := 211) E.x dL_act_210 rfl rfl ?_
                            refine rv_iload_n (q := 212) E.x dL_act_211 rfl rfl ?_
                            refine lk_x3r (fun r62 M65 e61 => ?_) (fun w63 M66 e64 => ?_)
                            · refine lk_ci (q := 215) (v := r62) (M1 := M65) E (fun u hI _ => c11_publish E.2.2.1.1 hI e61) gP_52 hX11_publish ⟨rfl, rfl⟩ ⟨Nat.le_of_ble_eq_true rfl, Nat.le_of_ble_eq_true rfl⟩ ⟨Nat.le_of_ble_eq_true rfl, Nat.le_of_ble_eq_true rfl⟩ rfl rfl rfl (Nat.le_of_ble_eq_true rfl) dL_act_212 rfl ?_
                              refine rv_goto (q := 470) E.x dL_act_215 (by decide) ?_
                              exact lk_iret E rfl ⟨Nat.le_of_ble_eq_true rfl, Nat.le_of_ble_eq_true rfl⟩ dL_act_470
                            · refine lk_hhr ?_ ?_ ?_
                              · intro hx; subst hx
                                refine lk_cx (x := 1) (M1 := M66) (hh := [(0, 470, 471, 98), (0, 470, 477, 100), (0, 470, 483, 102)]) E (fun u hI _ => ⟨_, Or.inl rfl, c11_publish_x E.2.2.1.1 hI e64⟩) gP_52 hX11_publish ⟨rfl, rfl⟩ ⟨Nat.le_of_ble_eq_true rfl, Nat.le_of_ble_eq_true rfl⟩ ⟨Nat.le_of_ble_eq_true rfl, Nat.le_of_ble_eq_true rfl⟩ rfl rfl rfl (Nat.le_of_ble_eq_true rfl) dL_act_212 htb [] ⟨0, 470, 471, 98⟩ [⟨0, 470, 477, 100⟩, ⟨0, 470, 483, 102⟩] rfl (fun z hz => nomatch hz) rfl (by decide) lP_1 E.2.1.2.2.1.2.2.2.1 (fun q9 => ?_)
                                refine rv_astore (q := 473) (lv' := [_, _, _, _, _, _, _, _]) E.x dL_act_471 (Nat.le_of_ble_eq_true rfl) rfl rfl rfl ?_
                                refine rv_sipush (q := 476) E.x dL_act_473 rv_ksm1261 rfl ?_
                                exact lk_iret E rfl ⟨Nat.le_of_ble_eq_true rfl, Nat.le_of_ble_eq_true rfl⟩ dL_act_476
                              · intro hx; subst hx
                                refine lk_cx (x := 2) (M1 := M66) (hh := [(0, 470, 471, 98), (0, 470, 477, 100), (0, 470, 483, 102)]) E (fun u hI _ => ⟨_, Or.inl rfl, c11_publish_x E.2.2.1.1 hI e64⟩) gP_52 hX11_publish ⟨rfl, rfl⟩ ⟨Nat.le_of_ble_eq_true rfl, Nat.le_of_ble_eq_true rfl⟩ ⟨Nat.le_of_ble_eq_true rfl, Nat.le_of_ble_eq_true rfl⟩ rfl rfl rfl (Nat.le_of_ble_eq_true rfl) dL_act_212 htb [⟨0, 470, 471, 98⟩] ⟨0, 470, 477, 100⟩ [⟨0, 470, 483, 102⟩] rfl (fun z hz => by cases List.mem_singleton.mp hz; exact ⟨by decide, _, lP_1, E.2.1.2.2.2.2.1.1⟩) rfl (by decide) lP_2 E.2.1.2.2.1.2.2.2.2.1 (fun q9 => ?_)
                                refine rv_astore (q := 479) (lv' := [_, _, _, _, _, _, _, _]) E.x dL_act_477 (Nat.le_of_ble_eq_true rfl) rfl rfl rfl ?_
                                refine rv_sipush (q := 482) E.x dL_act_479 rv_ksm1262 rfl ?_
                                exact lk_iret E rfl ⟨Nat.le_of_ble_eq_true rfl, Nat.le_of_ble_eq_true rfl⟩ dL_act_482
                              · intro hx; subst hx
                                refine lk_cx (x := 3) (M1 := M66) (hh := [(0, 470, 471, 98), (0, 470, 477, 100), (0, 470, 483, 102)]) E (fun u hI _ => ⟨_, Or.inl rfl, c11_publish_x E.2.2.1.1 hI e64⟩) gP_52 hX11_publish ⟨rfl, rfl⟩ ⟨Nat.le_of_ble_eq_true rfl, Nat.le_of_ble_eq_true rfl⟩ ⟨Nat.le_of_ble_eq_true rfl, Nat.le_of_ble_eq_true rfl⟩ rfl rfl rfl (Nat.le_of_ble_eq_true rfl) dL_act_212 htb [⟨0, 470, 471, 98⟩, ⟨0, 470, 477, 100⟩] ⟨0, 470, 483, 102⟩ [] rfl (fun z hz => by rcases List.mem_cons.mp hz with rfl | hz; exact ⟨by decide, _, lP_1, E.2.1.2.2.2.2.1.2.1⟩; cases List.mem_singleton.mp hz; exact ⟨by decide, _, lP_2, E.2.1.2.2.2.2.1.2.2⟩) rfl (by decide) lP_3 E.2.1.2.2.1.2.2.2.2.2.1 (fun q9 => ?_)
                                refine rv_astore (q := 485) (lv' := [_, _, _, _, _, _, _, _]) E.x dL_act_483 (Nat.le_of_ble_eq_true rfl) rfl rfl rfl ?_
                                refine rv_sipush (q := 488) E.x dL_act_485 rv_ksm1263 rfl ?_
                                exact lk_iret E rfl ⟨Nat.le_of_ble_eq_true rfl, Nat.le_of_ble_eq_true rfl⟩ dL_act_488
                          · refine rv_iload_n (q := 219) E.x dL_act_218 rfl rfl ?_
                            refine rv_bipush (q := 221) E.x dL_act_219 rv_kb13 rfl ?_
                            refine rv_icmp_ne (q := 224) (tgt := 233) E.x dL_act_221 (by decide) rfl ?_ ?_
                            · refine rv_aload_n (q := 225) E.x dL_act_224 rfl rfl ?_
                              refine rv_iload_n (q := 226) E.x dL_act_225 rfl rfl ?_
                              refine rv_iload_n (q := 227) E.x dL_act_226 rfl rfl ?_
                              refine lk_x3r (fun r68 M71 e67 => ?_) (fun w69 M72 e70 => ?_)
                              · refine lk_ci (q := 230) (v := r68) (M1 := M71) E (fun u hI _ => c11_takeFixes E.2.2.1.1 hI e67) gP_55 hX11_takeFixes ⟨rfl, rfl⟩ ⟨Nat.le_of_ble_eq_true rfl, Nat.le_of_ble_eq_true rfl⟩ ⟨Nat.le_of_ble_eq_true rfl, Nat.le_of_ble_eq_true rfl⟩ rfl rfl rfl (Nat.le_of_ble_eq_true rfl) dL_act_227 rfl ?_
                                refine rv_goto (q := 470) E.x dL_act_230 (by decide) ?_
                                exact lk_iret E rfl ⟨Nat.le_of_ble_eq_true rfl, Nat.le_of_ble_eq_true rfl⟩ dL_act_470
                              · refine lk_hhr ?_ ?_ ?_
                                · intro hx; subst hx
                                  refine lk_cx (x := 1) (M1 := M72) (hh := [(0, 470, 471, 98), (0, 470, 477, 100), (0, 470, 483, 102)]) E (fun u hI _ => ⟨_, Or.inl rfl, c11_takeFixes_x E.2.2.1.1 hI e70⟩) gP_55 hX11_takeFixes ⟨rfl, rfl⟩ ⟨Nat.le_of_ble_eq_true rfl, Nat.le_of_ble_eq_true rfl⟩ ⟨Nat.le_of_ble_eq_true rfl, Nat.le_of_ble_eq_true rfl⟩ rfl rfl rfl (Nat.le_of_ble_eq_true rfl) dL_act_227 htb [] ⟨0, 470, 471, 98⟩ [⟨0, 470, 477, 100⟩, ⟨0, 470, 483, 102⟩] rfl (fun z hz => nomatch hz) rfl (by decide) lP_1 E.2.1.2.2.1.2.2.2.1 (fun q9 => ?_)
                                  refine rv_astore (q := 473) (lv' := [_, _, _, _, _, _, _, _]) E.x dL_act_471 (Nat.le_of_ble_eq_true rfl) rfl rfl rfl ?_
                                  refine rv_sipush (q := 476) E.x dL_act_473 rv_ksm1261 rfl ?_
                                  exact lk_iret E rfl ⟨Nat.le_of_ble_eq_true rfl, Nat.le_of_ble_eq_true rfl⟩ dL_act_476
                                · intro hx; subst hx
                                  refine lk_cx (x := 2) (M1 := M72) (hh := [(0, 470, 471, 98), (0, 470, 477, 100), (0, 470, 483, 102)]) E (fun u hI _ => ⟨_, Or.inl rfl, c11_takeFixes_x E.2.2.1.1 hI e70⟩) gP_55 hX11_takeFixes ⟨rfl, rfl⟩ ⟨Nat.le_of_ble_eq_true rfl, Nat.le_of_ble_eq_true rfl⟩ ⟨Nat.le_of_ble_eq_true rfl, Nat.le_of_ble_eq_true rfl⟩ rfl rfl rfl (Nat.le_of_ble_eq_true rfl) dL_act_227 htb [⟨0, 470, 471, 98⟩] ⟨0, 470, 477, 100⟩ [⟨0, 470, 483, 102⟩] rfl (fun z hz => by cases List.mem_singleton.mp hz; exact ⟨by decide, _, lP_1, E.2.1.2.2.2.2.1.1⟩) rfl (by decide) lP_2 E.2.1.2.2.1.2.2.2.2.1 (fun q9 => ?_)
                                  refine rv_astore (q := 479) (lv' := [_, _, _, _, _, _, _, _]) E.x dL_act_477 (Nat.le_of_ble_eq_true rfl) rfl rfl rfl ?_
                                  refine rv_sipush (q := 482) E.x dL_act_479 rv_ksm1262 rfl ?_
                                  exact lk_iret E rfl ⟨Nat.le_of_ble_eq_true rfl, Nat.le_of_ble_eq_true rfl⟩ dL_act_482
                                · intro hx; subst hx
                                  refine lk_cx (x := 3) (M1 := M72) (hh := [(0, 470, 471, 98), (0, 470, 477, 100), (0, 470, 483, 102)]) E (fun u hI _ => ⟨_, Or.inl rfl, c11_takeFixes_x E.2.2.1.1 hI e70⟩) gP_55 hX11_takeFixes ⟨rfl, rfl⟩ ⟨Nat.le_of_ble_eq_true rfl, Nat.le_of_ble_eq_true rfl⟩ ⟨Nat.le_of_ble_eq_true rfl, Nat.le_of_ble_eq_true rfl⟩ rfl rfl rfl (Nat.le_of_ble_eq_true rfl) dL_act_227 htb [⟨0, 470, 471, 98⟩, ⟨0, 470, 477, 100⟩] ⟨0, 470, 483, 102⟩ [] rfl (fun z hz => by rcases List.mem_cons.mp hz with rfl | hz; exact ⟨by decide, _, lP_1, E.2.1.2.2.2.2.1.2.1⟩; cases List.mem_singleton.mp hz; exact ⟨by decide, _, lP_2, E.2.1.2.2.2.2.1.2.2⟩) rfl (by decide) lP_3 E.2.1.2.2.1.2.2.2.2.2.1 (fun q9 => ?_)
                                  refine rv_astore (q := 485) (lv' := [_, _, _, _, _, _, _, _]) E.x dL_act_483 (Nat.le_of_ble_eq_true rfl) rfl rfl rfl ?_
                                  refine rv_sipush (q := 488) E.x dL_act_485 rv_ksm1263 rfl ?_
                                  exact lk_iret E rfl ⟨Nat.le_of_ble_eq_true rfl, Nat.le_of_ble_eq_true rfl⟩ dL_act_488
                            · refine rv_iload_n (q := 234) E.x dL_act_233 rfl rfl ?_
                              refine rv_bipush (q := 236) E.x dL_act_234 rv_kb14 rfl ?_
                              refine rv_icmp_ne (q := 239) (tgt := 261) E.x dL_act_236 (by decide) rfl ?_ ?_
                              · refine rv_aload_n (q := 240) E.x dL_act_239 rfl rfl ?_
                                refine rv_iload_n (q := 241) E.x dL_act_240 rfl rfl ?_
                                refine rv_iload_n (q := 242) E.x dL_act_241 rfl rfl ?_
                                refine rv_iload (q := 244) E.x dL_act_242 rfl rfl ?_
                                refine rv_iload (q := 246) E.x dL_act_244 rfl rfl ?_
                                refine rv_iconst (q := 247) E.x dL_act_246 rv_ki1 rfl ?_
                                refine rv_icmp_ne (q := 250) (tgt := 254) E.x dL_act_247 (by decide) rfl ?_ ?_
                                · refine rv_iconst (q := 251) E.x dL_act_250 rv_ki1 rfl ?_
                                  refine rv_goto (q := 255) E.x dL_act_251 (by decide) ?_
                                  refine rv_wk [false, false, false, false, false, false, false, false] ?_
                                  exact bp_act_255 E htb A gh M a3 a4 a5 true
                                · refine rv_iconst (q := 255) E.x dL_act_254 rv_ki0 rfl ?_
                                  refine rv_wk [false, false, false, false, false, false, false, false] ?_
                                  exact bp_act_255 E htb A gh M a3 a4 a5 false
                              · refine rv_iload_n (q := 262) E.x dL_act_261 rfl rfl ?_
                                refine rv_bipush (q := 264) E.x dL_act_262 rv_kb15 rfl ?_
                                refine rv_icmp_ne (q := 267) (tgt := 282) E.x dL_act_264 (by decide) rfl ?_ ?_
                                · refine rv_aload_n (q := 268) E.x dL_act_267 rfl rfl ?_
                                  refine rv_iload_n (q := 269) E.x dL_act_268 rfl rfl ?_
                                  refine rv_iload_n (q := 270) E.x dL_act_269 rfl rfl ?_
                                  refine rv_iload (q := 272) E.x dL_act_270 rfl rfl ?_
                                  refine rv_iload (q := 274) E.x dL_act_272 rfl rfl ?_
                                  refine rv_iload (q := 276) E.x dL_act_274 rfl rfl ?_
                                  refine lk_x3r (fun r74 M77 e73 => ?_) (fun w75 M78 e76 => ?_)
                                  · refine lk_ci (q := 279) (v := r74) (M1 := M77) E (fun u hI _ => c11_vote E.2.2.1.1 hI e73) gP_62 hX11_vote ⟨rfl, rfl⟩ ⟨Nat.le_of_ble_eq_true rfl, Nat.le_of_ble_eq_true rfl⟩ ⟨Nat.le_of_ble_eq_true rfl, Nat.le_of_ble_eq_true rfl⟩ rfl rfl rfl (Nat.le_of_ble_eq_true rfl) dL_act_276 rfl ?_
                                    refine rv_goto (q := 470) E.x dL_act_279 (by decide) ?_
                                    exact lk_iret E rfl ⟨Nat.le_of_ble_eq_true rfl, Nat.le_of_ble_eq_true rfl⟩ dL_act_470
                                  · refine lk_hhr ?_ ?_ ?_
                                    · intro hx; subst hx
                                      refine lk_cx (x := 1) (M1 := M78) (hh := [(0, 470, 471, 98), (0, 470, 477, 100), (0, 470, 483, 102)]) E (fun u hI _ => ⟨_, Or.inl rfl, c11_vote_x E.2.2.1.1 hI e76⟩) gP_62 hX11_vote ⟨rfl, rfl⟩ ⟨Nat.le_of_ble_eq_true rfl, Nat.le_of_ble_eq_true rfl⟩ ⟨Nat.le_of_ble_eq_true rfl, Nat.le_of_ble_eq_true rfl⟩ rfl rfl rfl (Nat.le_of_ble_eq_true rfl) dL_act_276 htb [] ⟨0, 470, 471, 98⟩ [⟨0, 470, 477, 100⟩, ⟨0, 470, 483, 102⟩] rfl (fun z hz => nomatch hz) rfl (by decide) lP_1 E.2.1.2.2.1.2.2.2.1 (fun q9 => ?_)
                                      refine rv_astore (q := 473) (lv' := [_, _, _, _, _, _, _, _]) E.x dL_act_471 (Nat.le_of_ble_eq_true rfl) rfl rfl rfl ?_
                                      refine rv_sipush (q := 476) E.x dL_act_473 rv_ksm1261 rfl ?_
                                      exact lk_iret E rfl ⟨Nat.le_of_ble_eq_true rfl, Nat.le_of_ble_eq_true rfl⟩ dL_act_476
                                    · intro hx; subst hx
                                      refine lk_cx (x := 2) (M1 := M78) (hh := [(0, 470, 471, 98), (0, 470, 477, 100), (0, 470, 483, 102)]) E (fun u hI _ => ⟨_, Or.inl rfl, c11_vote_x E.2.2.1.1 hI e76⟩) gP_62 hX11_vote ⟨rfl, rfl⟩ ⟨Nat.le_of_ble_eq_true rfl, Nat.le_of_ble_eq_true rfl⟩ ⟨Nat.le_of_ble_eq_true rfl, Nat.le_of_ble_eq_true rfl⟩ rfl rfl rfl (Nat.le_of_ble_eq_true rfl) dL_act_276 htb [⟨0, 470, 471, 98⟩] ⟨0, 470, 477, 100⟩ [⟨0, 470, 483, 102⟩] rfl (fun z hz => by cases List.mem_singleton.mp hz; exact ⟨by decide, _, lP_1, E.2.1.2.2.2.2.1.1⟩) rfl (by decide) lP_2 E.2.1.2.2.1.2.2.2.2.1 (fun q9 => ?_)
                                      refine rv_astore (q := 479) (lv' := [_, _, _, _, _, _, _, _]) E.x dL_act_477 (Nat.le_of_ble_eq_true rfl) rfl rfl rfl ?_
                                      refine rv_sipush (q := 482) E.x dL_act_479 rv_ksm1262 rfl ?_
                                      exact lk_iret E rfl ⟨Nat.le_of_ble_eq_true rfl, Nat.le_of_ble_eq_true rfl⟩ dL_act_482
                                    · intro hx; subst hx
                                      refine lk_cx (x := 3) (M1 := M78) (hh := [(0, 470, 471, 98), (0, 470, 477, 100), (0, 470, 483, 102)]) E (fun u hI _ => ⟨_, Or.inl rfl, c11_vote_x E.2.2.1.1 hI e76⟩) gP_62 hX11_vote ⟨rfl, rfl⟩ ⟨Nat.le_of_ble_eq_true rfl, Nat.le_of_ble_eq_true rfl⟩ ⟨Nat.le_of_ble_eq_true rfl, Nat.le_of_ble_eq_true rfl⟩ rfl rfl rfl (Nat.le_of_ble_eq_true rfl) dL_act_276 htb [⟨0, 470, 471, 98⟩, ⟨0, 470, 477, 100⟩] ⟨0, 470, 483, 102⟩ [] rfl (fun z hz => by rcases List.mem_cons.mp hz with rfl | hz; exact ⟨by decide, _, lP_1, E.2.1.2.2.2.2.1.2.1⟩; cases List.mem_singleton.mp hz; exact ⟨by decide, _, lP_2, E.2.1.2.2.2.2.1.2.2⟩) rfl (by decide) lP_3 E.2.1.2.2.1.2.2.2.2.2.1 (fun q9 => ?_)
                                      refine rv_astore (q := 485) (lv' := [_, _, _, _, _, _, _, _]) E.x dL_act_483 (Nat.le_of_ble_eq_true rfl) rfl rfl rfl ?_
                                      refine rv_sipush (q := 488) E.x dL_act_485 rv_ksm1263 rfl ?_
                                      exact lk_iret E rfl ⟨Nat.le_of_ble_eq_true rfl, Nat.le_of_ble_eq_true rfl⟩ dL_act_488
                                · refine rv_iload_n (q := 283) E.x dL_act_282 rfl rfl ?_
                                  refine rv_bipush (q := 285) E.x dL_act_283 rv_kb16 rfl ?_
                                  refine rv_icmp_ne (q := 288) (tgt := 299) E.x dL_act_285 (by decide) rfl ?_ ?_
                                  · refine rv_aload_n (q := 289) E.x dL_act_288 rfl rfl ?_
                                    refine rv_iload_n (q := 290) E.x dL_act_289 rfl rfl ?_
                                    refine rv_iload_n (q := 291) E.x dL_act_290 rfl rfl ?_
                                    refine rv_iload (q := 293) E.x dL_act_291 rfl rfl ?_
                                    refine lk_x3r (fun r80 M83 e79 => ?_) (fun w81 M84 e82 => ?_)
                                    · refine lk_ci (q := 296) (v := r80) (M1 := M83) E (fun u hI _ => c11_setCopied E.2.2.1.1 hI e79) gP_66 hX11_setCopied ⟨rfl, rfl⟩ ⟨Nat.le_of_ble_eq_true rfl, Nat.le_of_ble_eq_true rfl⟩ ⟨Nat.le_of_ble_eq_true rfl, Nat.le_of_ble_eq_true rfl⟩ rfl rfl rfl (Nat.le_of_ble_eq_true rfl) dL_act_293 rfl ?_
                                      refine rv_goto (q := 470) E.x dL_act_296 (by decide) ?_
                                      exact lk_iret E rfl ⟨Nat.le_of_ble_eq_true rfl, Nat.le_of_ble_eq_true rfl⟩ dL_act_470
                                    · refine lk_hhr ?_ ?_ ?_
                                      · intro hx; subst hx
                                        refine lk_cx (x := 1) (M1 := M84) (hh := [(0, 470, 471, 98), (0, 470, 477, 100), (0, 470, 483, 102)]) E (fun u hI _ => ⟨_, Or.inl rfl, c11_setCopied_x E.2.2.1.1 hI e82⟩) gP_66 hX11_setCopied ⟨rfl, rfl⟩ ⟨Nat.le_of_ble_eq_true rfl, Nat.le_of_ble_eq_true rfl⟩ ⟨Nat.le_of_ble_eq_true rfl, Nat.le_of_ble_eq_true rfl⟩ rfl rfl rfl (Nat.le_of_ble_eq_true rfl) dL_act_293 htb [] ⟨0, 470, 471, 98⟩ [⟨0, 470, 477, 100⟩, ⟨0, 470, 483, 102⟩] rfl (fun z hz => nomatch hz) rfl (by decide) lP_1 E.2.1.2.2.1.2.2.2.1 (fun q9 => ?_)
                                        refine rv_astore (q := 473) (lv' := [_, _, _, _, _, _, _, _]) E.x dL_act_471 (Nat.le_of_ble_eq_true rfl) rfl rfl rfl ?_
                                        refine rv_sipush (q := 476) E.x dL_act_473 rv_ksm1261 rfl ?_
                                        exact lk_iret E rfl ⟨Nat.le_of_ble_eq_true rfl, Nat.le_of_ble_eq_true rfl⟩ dL_act_476
                                      · intro hx; subst hx
                                        refine lk_cx (x := 2) (M1 := M84) (hh := [(0, 470, 471, 98), (0, 470, 477, 100), (0, 470, 483, 102)]) E (fun u hI _ => ⟨_, Or.inl rfl, c11_setCopied_x E.2.2.1.1 hI e82⟩) gP_66 hX11_setCopied ⟨rfl, rfl⟩ ⟨Nat.le_of_ble_eq_true rfl, Nat.le_of_ble_eq_true rfl⟩ ⟨Nat.le_of_ble_eq_true rfl, Nat.le_of_ble_eq_true rfl⟩ rfl rfl rfl (Nat.le_of_ble_eq_true rfl) dL_act_293 htb [⟨0, 470, 471, 98⟩] ⟨0, 470, 477, 100⟩ [⟨0, 470, 483, 102⟩] rfl (fun z hz => by cases List.mem_singleton.mp hz; exact ⟨by decide, _, lP_1, E.2.1.2.2.2.2.1.1⟩) rfl (by decide) lP_2 E.2.1.2.2.1.2.2.2.2.1 (fun q9 => ?_)
                                        refine rv_astore (q := 479) (lv' := [_, _, _, _, _, _, _, _]) E.x dL_act_477 (Nat.le_of_ble_eq_true rfl) rfl rfl rfl ?_
                                        refine rv_sipush (q := 482) E.x dL_act_479 rv_ksm1262 rfl ?_
                                        exact lk_iret E rfl ⟨Nat.le_of_ble_eq_true rfl, Nat.le_of_ble_eq_true rfl⟩ dL_act_482
                                      · intro hx; subst hx
                                        refine lk_cx (x := 3) (M1 := M84) (hh := [(0, 470, 471, 98), (0, 470, 477, 100), (0, 470, 483, 102)]) E (fun u hI _ => ⟨_, Or.inl rfl, c11_setCopied_x E.2.2.1.1 hI e82⟩) gP_66 hX11_setCopied ⟨rfl, rfl⟩ ⟨Nat.le_of_ble_eq_true rfl, Nat.le_of_ble_eq_true rfl⟩ ⟨Nat.le_of_ble_eq_true rfl, Nat.le_of_ble_eq_true rfl⟩ rfl rfl rfl (Nat.le_of_ble_eq_true rfl) dL_act_293 htb [⟨0, 470, 471, 98⟩, ⟨0, 470, 477, 100⟩] ⟨0, 470, 483, 102⟩ [] rfl (fun z hz => by rcases List.mem_cons.mp hz with rfl | hz; exact ⟨by decide, _, lP_1, E.2.1.2.2.2.2.1.2.1⟩; cases List.mem_singleton.mp hz; exact ⟨by decide, _, lP_2, E.2.1.2.2.2.2.1.2.2⟩) rfl (by decide) lP_3 E.2.1.2.2.1.2.2.2.2.2.1 (fun q9 => ?_)
                                        refine rv_astore (q := 485) (lv' := [_, _, _, _, _, _, _, _]) E.x dL_act_483 (Nat.le_of_ble_eq_true rfl) rfl rfl rfl ?_
                                        refine rv_sipush (q := 488) E.x dL_act_485 rv_ksm1263 rfl ?_
                                        exact lk_iret E rfl ⟨Nat.le_of_ble_eq_true rfl, Nat.le_of_ble_eq_true rfl⟩ dL_act_488
                                  · refine rv_iload_n (q := 300) E.x dL_act_299 rfl rfl ?_
                                    refine rv_bipush (q := 302) E.x dL_act_300 rv_kb17 rfl ?_
                                    refine rv_icmp_ne (q := 305) (tgt := 316) E.x dL_act_302 (by decide) rfl ?_ ?_
                                    · refine rv_aload_n (q := 306) E.x dL_act_305 rfl rfl ?_
                                      refine rv_iload_n (q := 307) E.x dL_act_306 rfl rfl ?_
                                      refine rv_iload_n (q := 308) E.x dL_act_307 rfl rfl ?_
                                      refine rv_iload (q := 310) E.x dL_act_308 rfl rfl ?_
                                      refine lk_x3r (fun r86 M89 e85 => ?_) (fun w87 M90 e88 => ?_)
                                      · refine lk_ci (q := 313) (v := r86) (M1 := M89) E (fun u hI _ => c11_addRule E.2.2.1.1 hI e85) gP_69 hX11_addRule ⟨rfl, rfl⟩ ⟨Nat.le_of_ble_eq_true rfl, Nat.le_of_ble_eq_true rfl⟩ ⟨Nat.le_of_ble_eq_true rfl, Nat.le_of_ble_eq_true rfl⟩ rfl rfl rfl (Nat.le_of_ble_eq_true rfl) dL_act_310 rfl ?_
                                        refine rv_goto (q := 470) E.x dL_act_313 (by decide) ?_
                                        exact lk_iret E rfl ⟨Nat.le_of_ble_eq_true rfl, Nat.le_of_ble_eq_true rfl⟩ dL_act_470
                                      · refine lk_hhr ?_ ?_ ?_
                                        · intro hx; subst hx
                                          refine lk_cx (x := 1) (M1 := M90) (hh := [(0, 470, 471, 98), (0, 470, 477, 100), (0, 470, 483, 102)]) E (fun u hI _ => ⟨_, Or.inl rfl, c11_addRule_x E.2.2.1.1 hI e88⟩) gP_69 hX11_addRule ⟨rfl, rfl⟩ ⟨Nat.le_of_ble_eq_true rfl, Nat.le_of_ble_eq_true rfl⟩ ⟨Nat.le_of_ble_eq_true rfl, Nat.le_of_ble_eq_true rfl⟩ rfl rfl rfl (Nat.le_of_ble_eq_true rfl) dL_act_310 htb [] ⟨0, 470, 471, 98⟩ [⟨0, 470, 477, 100⟩, ⟨0, 470, 483, 102⟩] rfl (fun z hz => nomatch hz) rfl (by decide) lP_1 E.2.1.2.2.1.2.2.2.1 (fun q9 => ?_)
                                          refine rv_astore (q := 473) (lv' := [_, _, _, _, _, _, _, _]) E.x dL_act_471 (Nat.le_of_ble_eq_true rfl) rfl rfl rfl ?_
                                          refine rv_sipush (q := 476) E.x dL_act_473 rv_ksm1261 rfl ?_
                                          exact lk_iret E rfl ⟨Nat.le_of_ble_eq_true rfl, Nat.le_of_ble_eq_true rfl⟩ dL_act_476
                                        · intro hx; subst hx
                                          refine lk_cx (x := 2) (M1 := M90) (hh := [(0, 470, 471, 98), (0, 470, 477, 100), (0, 470, 483, 102)]) E (fun u hI _ => ⟨_, Or.inl rfl, c11_addRule_x E.2.2.1.1 hI e88⟩) gP_69 hX11_addRule ⟨rfl, rfl⟩ ⟨Nat.le_of_ble_eq_true rfl, Nat.le_of_ble_eq_true rfl⟩ ⟨Nat.le_of_ble_eq_true rfl, Nat.le_of_ble_eq_true rfl⟩ rfl rfl rfl (Nat.le_of_ble_eq_true rfl) dL_act_310 htb [⟨0, 470, 471, 98⟩] ⟨0, 470, 477, 100⟩ [⟨0, 470, 483, 102⟩] rfl (fun z hz => by cases List.mem_singleton.mp hz; exact ⟨by decide, _, lP_1, E.2.1.2.2.2.2.1.1⟩) rfl (by decide) lP_2 E.2.1.2.2.1.2.2.2.2.1 (fun q9 => ?_)
                                          refine rv_astore (q := 479) (lv' := [_, _, _, _, _, _, _, _]) E.x dL_act_477 (Nat.le_of_ble_eq_true rfl) rfl rfl rfl ?_
                                          refine rv_sipush (q := 482) E.x dL_act_479 rv_ksm1262 rfl ?_
                                          exact lk_iret E rfl ⟨Nat.le_of_ble_eq_true rfl, Nat.le_of_ble_eq_true rfl⟩ dL_act_482
                                        · intro hx; subst hx
                                          refine lk_cx (x := 3) (M1 := M90) (hh := [(0, 470, 471, 98), (0, 470, 477, 100), (0, 470, 483, 102)]) E (fun u hI _ => ⟨_, Or.inl rfl, c11_addRule_x E.2.2.1.1 hI e88⟩) gP_69 hX11_addRule ⟨rfl, rfl⟩ ⟨Nat.le_of_ble_eq_true rfl, Nat.le_of_ble_eq_true rfl⟩ ⟨Nat.le_of_ble_eq_true rfl, Nat.le_of_ble_eq_true rfl⟩ rfl rfl rfl (Nat.le_of_ble_eq_true rfl) dL_act_310 htb [⟨0, 470, 471, 98⟩, ⟨0, 470, 477, 100⟩] ⟨0, 470, 483, 102⟩ [] rfl (fun z hz => by rcases List.mem_cons.mp hz with rfl | hz; exact ⟨by decide, _, lP_1, E.2.1.2.2.2.2.1.2.1⟩; cases List.mem_singleton.mp hz; exact ⟨by decide, _, lP_2, E.2.1.2.2.2.2.1.2.2⟩) rfl (by decide) lP_3 E.2.1.2.2.1.2.2.2.2.2.1 (fun q9 => ?_)
                                          refine rv_astore (q := 485) (lv' := [_, _, _, _, _, _, _, _]) E.x dL_act_483 (Nat.le_of_ble_eq_true rfl) rfl rfl rfl ?_
                                          refine rv_sipush (q := 488) E.x dL_act_485 rv_ksm1263 rfl ?_
                                          exact lk_iret E rfl ⟨Nat.le_of_ble_eq_true rfl, Nat.le_of_ble_eq_true rfl⟩ dL_act_488
                                    · refine rv_iload_n (q := 317) E.x dL_act_316 rfl rfl ?_
                                      refine rv_bipush (q := 319) E.x dL_act_317 rv_kb18 rfl ?_
                                      refine rv_icmp_ne (q := 322) (tgt := 330) E.x dL_act_319 (by decide) rfl ?_ ?_
                                      · refine rv_aload_n (q := 323) E.x dL_act_322 rfl rfl ?_
                                        refine rv_iload_n (q := 324) E.x dL_act_323 rfl rfl ?_
                                        refine lk_x3r (fun r92 M95 e91 => ?_) (fun w93 M96 e94 => ?_)
                                        · refine lk_ci (q := 327) (v := r92) (M1 := M95) E (fun u hI _ => c11_dropRule E.2.2.1.1 hI e91) gP_72 hX11_dropRule ⟨rfl, rfl⟩ ⟨Nat.le_of_ble_eq_true rfl, Nat.le_of_ble_eq_true rfl⟩ ⟨Nat.le_of_ble_eq_true rfl, Nat.le_of_ble_eq_true rfl⟩ rfl rfl rfl (Nat.le_of_ble_eq_true rfl) dL_act_324 rfl ?_
                                          refine rv_goto (q := 470) E.x dL_act_327 (by decide) ?_
                                          exact lk_iret E rfl ⟨Nat.le_of_ble_eq_true rfl, Nat.le_of_ble_eq_true rfl⟩ dL_act_470
                                        · refine lk_hhr ?_ ?_ ?_
                                          · intro hx; subst hx
                                            refine lk_cx (x := 1) (M1 := M96) (hh := [(0, 470, 471, 98), (0, 470, 477, 100), (0, 470, 483, 102)]) E (fun u hI _ => ⟨_, Or.inl rfl, c11_dropRule_x E.2.2.1.1 hI e94⟩) gP_72 hX11_dropRule ⟨rfl, rfl⟩ ⟨Nat.le_of_ble_eq_true rfl, Nat.le_of_ble_eq_true rfl⟩ ⟨Nat.le_of_ble_eq_true rfl, Nat.le_of_ble_eq_true rfl⟩ rfl rfl rfl (Nat.le_of_ble_eq_true rfl) dL_act_324 htb [] ⟨0, 470, 471, 98⟩ [⟨0, 470, 477, 100⟩, ⟨0, 470, 483, 102⟩] rfl (fun z hz => nomatch hz) rfl (by decide) lP_1 E.2.1.2.2.1.2.2.2.1 (fun q9 => ?_)
                                            refine rv_astore (q := 473) (lv' := [_, _, _, _, _, _, _, _]) E.x dL_act_471 (Nat.le_of_ble_eq_true rfl) rfl rfl rfl ?_
                                            refine rv_sipush (q := 476) E.x dL_act_473 rv_ksm1261 rfl ?_
                                            exact lk_iret E rfl ⟨Nat.le_of_ble_eq_true rfl, Nat.le_of_ble_eq_true rfl⟩ dL_act_476
                                          · intro hx; subst hx
                                            refine lk_cx (x := 2) (M1 := M96) (hh := [(0, 470, 471, 98), (0, 470, 477, 100), (0, 470, 483, 102)]) E (fun u hI _ => ⟨_, Or.inl rfl, c11_dropRule_x E.2.2.1.1 hI e94⟩) gP_72 hX11_dropRule ⟨rfl, rfl⟩ ⟨Nat.le_of_ble_eq_true rfl, Nat.le_of_ble_eq_true rfl⟩ ⟨Nat.le_of_ble_eq_true rfl, Nat.le_of_ble_eq_true rfl⟩ rfl rfl rfl (Nat.le_of_ble_eq_true rfl) dL_act_324 htb [⟨0, 470, 471, 98⟩] ⟨0, 470, 477, 100⟩ [⟨0, 470, 483, 102⟩] rfl (fun z hz => by cases List.mem_singleton.mp hz; exact ⟨by decide, _, lP_1, E.2.1.2.2.2.2.1.1⟩) rfl (by decide) lP_2 E.2.1.2.2.1.2.2.2.2.1 (fun q9 => ?_)
                                            refine rv_astore (q := 479) (lv' := [_, _, _, _, _, _, _, _]) E.x dL_act_477 (Nat.le_of_ble_eq_true rfl) rfl rfl rfl ?_
                                            refine rv_sipush (q := 482) E.x dL_act_479 rv_ksm1262 rfl ?_
                                            exact lk_iret E rfl ⟨Nat.le_of_ble_eq_true rfl, Nat.le_of_ble_eq_true rfl⟩ dL_act_482
                                          · intro hx; subst hx
                                            refine lk_cx (x := 3) (M1 := M96) (hh := [(0, 470, 471, 98), (0, 470, 477, 100), (0, 470, 483, 102)]) E (fun u hI _ => ⟨_, Or.inl rfl, c11_dropRule_x E.2.2.1.1 hI e94⟩) gP_72 hX11_dropRule ⟨rfl, rfl⟩ ⟨Nat.le_of_ble_eq_true rfl, Nat.le_of_ble_eq_true rfl⟩ ⟨Nat.le_of_ble_eq_true rfl, Nat.le_of_ble_eq_true rfl⟩ rfl rfl rfl (Nat.le_of_ble_eq_true rfl) dL_act_324 htb [⟨0, 470, 471, 98⟩, ⟨0, 470, 477, 100⟩] ⟨0, 470, 483, 102⟩ [] rfl (fun z hz => by rcases List.mem_cons.mp hz with rfl | hz; exact ⟨by decide, _, lP_1, E.2.1.2.2.2.2.1.2.1⟩; cases List.mem_singleton.mp hz; exact ⟨by decide, _, lP_2, E.2.1.2.2.2.2.1.2.2⟩) rfl (by decide) lP_3 E.2.1.2.2.1.2.2.2.2.2.1 (fun q9 => ?_)
                                            refine rv_astore (q := 485) (lv' := [_, _, _, _, _, _, _, _]) E.x dL_act_483 (Nat.le_of_ble_eq_true rfl) rfl rfl rfl ?_
                                            refine rv_sipush (q := 488) E.x dL_act_485 rv_ksm1263 rfl ?_
                                            exact lk_iret E rfl ⟨Nat.le_of_ble_eq_true rfl, Nat.le_of_ble_eq_true rfl⟩ dL_act_488
                                      · refine rv_iload_n (q := 331) E.x dL_act_330 rfl rfl ?_
                                        refine rv_bipush (q := 333) E.x dL_act_331 rv_kb19 rfl ?_
                                        refine rv_icmp_ne (q := 336) (tgt := 345) E.x dL_act_333 (by decide) rfl ?_ ?_
                                        · refine rv_aload_n (q := 337) E.x dL_act_336 rfl rfl ?_
                                          refine rv_iload_n (q := 338) E.x dL_act_337 rfl rfl ?_
                                          refine rv_iload_n (q := 339) E.x dL_act_338 rfl rfl ?_
                                          refine lk_x3r (fun r98 M101 e97 => ?_) (fun w99 M102 e100 => ?_)
                                          · refine lk_ci (q := 342) (v := r98) (M1 := M101) E (fun u hI _ => c11_setWay E.2.2.1.1 hI e97) gP_75 hX11_setWay ⟨rfl, rfl⟩ ⟨Nat.le_of_ble_eq_true rfl, Nat.le_of_ble_eq_true rfl⟩ ⟨Nat.le_of_ble_eq_true rfl, Nat.le_of_ble_eq_true rfl⟩ rfl rfl rfl (Nat.le_of_ble_eq_true rfl) dL_act_339 rfl ?_
                                            refine rv_goto (q := 470) E.x dL_act_342 (by decide) ?_
                                            exact lk_iret E rfl ⟨Nat.le_of_ble_eq_true rfl, Nat.le_of_ble_eq_true rfl⟩ dL_act_470
                                          · refine lk_hhr ?_ ?_ ?_
                                            · intro hx; subst hx
                                              refine lk_cx (x := 1) (M1 := M102) (hh := [(0, 470, 471, 98), (0, 470, 477, 100), (0, 470, 483, 102)]) E (fun u hI _ => ⟨_, Or.inl rfl, c11_setWay_x E.2.2.1.1 hI e100⟩) gP_75 hX11_setWay ⟨rfl, rfl⟩ ⟨Nat.le_of_ble_eq_true rfl, Nat.le_of_ble_eq_true rfl⟩ ⟨Nat.le_of_ble_eq_true rfl, Nat.le_of_ble_eq_true rfl⟩ rfl rfl rfl (Nat.le_of_ble_eq_true rfl) dL_act_339 htb [] ⟨0, 470, 471, 98⟩ [⟨0, 470, 477, 100⟩, ⟨0, 470, 483, 102⟩] rfl (fun z hz => nomatch hz) rfl (by decide) lP_1 E.2.1.2.2.1.2.2.2.1 (fun q9 => ?_)
                                              refine rv_astore (q := 473) (lv' := [_, _, _, _, _, _, _, _]) E.x dL_act_471 (Nat.le_of_ble_eq_true rfl) rfl rfl rfl ?_
                                              refine rv_sipush (q := 476) E.x dL_act_473 rv_ksm1261 rfl ?_
                                              exact lk_iret E rfl ⟨Nat.le_of_ble_eq_true rfl, Nat.le_of_ble_eq_true rfl⟩ dL_act_476
                                            · intro hx; subst hx
                                              refine lk_cx (x := 2) (M1 := M102) (hh := [(0, 470, 471, 98), (0, 470, 477, 100), (0, 470, 483, 102)]) E (fun u hI _ => ⟨_, Or.inl rfl, c11_setWay_x E.2.2.1.1 hI e100⟩) gP_75 hX11_setWay ⟨rfl, rfl⟩ ⟨Nat.le_of_ble_eq_true rfl, Nat.le_of_ble_eq_true rfl⟩ ⟨Nat.le_of_ble_eq_true rfl, Nat.le_of_ble_eq_true rfl⟩ rfl rfl rfl (Nat.le_of_ble_eq_true rfl) dL_act_339 htb [⟨0, 470, 471, 98⟩] ⟨0, 470, 477, 100⟩ [⟨0, 470, 483, 102⟩] rfl (fun z hz => by cases List.mem_singleton.mp hz; exact ⟨by decide, _, lP_1, E.2.1.2.2.2.2.1.1⟩) rfl (by decide) lP_2 E.2.1.2.2.1.2.2.2.2.1 (fun q9 => ?_)
                                              refine rv_astore (q := 479) (lv' := [_, _, _, _, _, _, _, _]) E.x dL_act_477 (Nat.le_of_ble_eq_true rfl) rfl rfl rfl ?_
                                              refine rv_sipush (q := 482) E.x dL_act_479 rv_ksm1262 rfl ?_
                                              exact lk_iret E rfl ⟨Nat.le_of_ble_eq_true rfl, Nat.le_of_ble_eq_true rfl⟩ dL_act_482
                                            · intro hx; subst hx
                                              refine lk_cx (x := 3) (M1 := M102) (hh := [(0, 470, 471, 98), (0, 470, 477, 100), (0, 470, 483, 102)]) E (fun u hI _ => ⟨_, Or.inl rfl, c11_setWay_x E.2.2.1.1 hI e100⟩) gP_75 hX11_setWay ⟨rfl, rfl⟩ ⟨Nat.le_of_ble_eq_true rfl, Nat.le_of_ble_eq_true rfl⟩ ⟨Nat.le_of_ble_eq_true rfl, Nat.le_of_ble_eq_true rfl⟩ rfl rfl rfl (Nat.le_of_ble_eq_true rfl) dL_act_339 htb [⟨0, 470, 471, 98⟩, ⟨0, 470, 477, 100⟩] ⟨0, 470, 483, 102⟩ [] rfl (fun z hz => by rcases List.mem_cons.mp hz with rfl | hz; exact ⟨by decide, _, lP_1, E.2.1.2.2.2.2.1.2.1⟩; cases List.mem_singleton.mp hz; exact ⟨by decide, _, lP_2, E.2.1.2.2.2.2.1.2.2⟩) rfl (by decide) lP_3 E.2.1.2.2.1.2.2.2.2.2.1 (fun q9 => ?_)
                                              refine rv_astore (q := 485) (lv' := [_, _, _, _, _, _, _, _]) E.x dL_act_483 (Nat.le_of_ble_eq_true rfl) rfl rfl rfl ?_
                                              refine rv_sipush (q := 488) E.x dL_act_485 rv_ksm1263 rfl ?_
                                              exact lk_iret E rfl ⟨Nat.le_of_ble_eq_true rfl, Nat.le_of_ble_eq_true rfl⟩ dL_act_488
                                        · refine rv_iload_n (q := 346) E.x dL_act_345 rfl rfl ?_
                                          refine rv_bipush (q := 348) E.x dL_act_346 rv_kb20 rfl ?_
                                          refine rv_icmp_ne (q := 351) (tgt := 360) E.x dL_act_348 (by decide) rfl ?_ ?_
                                          · refine rv_aload_n (q := 352) E.x dL_act_351 rfl rfl ?_
                                            refine rv_iload_n (q := 353) E.x dL_act_352 rfl rfl ?_
                                            refine rv_iload_n (q := 354) E.x dL_act_353 rfl rfl ?_
                                            refine lk_x3r (fun r104 M107 e103 => ?_) (fun w105 M108 e106 => ?_)
                                            · refine lk_ci (q := 357) (v := r104) (M1 := M107) E (fun u hI _ => c11_land E.2.2.1.1 hI e103) gP_78 hX11_land ⟨rfl, rfl⟩ ⟨Nat.le_of_ble_eq_true rfl, Nat.le_of_ble_eq_true rfl⟩ ⟨Nat.le_of_ble_eq_true rfl, Nat.le_of_ble_eq_true rfl⟩ rfl rfl rfl (Nat.le_of_ble_eq_true rfl) dL_act_354 rfl ?_
                                              refine rv_goto (q := 470) E.x dL_act_357 (by decide) ?_
                                              exact lk_iret E rfl ⟨Nat.le_of_ble_eq_true rfl, Nat.le_of_ble_eq_true rfl⟩ dL_act_470
                                            · refine lk_hhr ?_ ?_ ?_
                                              · intro hx; subst hx
                                                refine lk_cx (x := 1) (M1 := M108) (hh := [(0, 470, 471, 98), (0, 470, 477, 100), (0, 470, 483, 102)]) E (fun u hI _ => ⟨_, Or.inl rfl, c11_land_x E.2.2.1.1 hI e106⟩) gP_78 hX11_land ⟨rfl, rfl⟩ ⟨Nat.le_of_ble_eq_true rfl, Nat.le_of_ble_eq_true rfl⟩ ⟨Nat.le_of_ble_eq_true rfl, Nat.le_of_ble_eq_true rfl⟩ rfl rfl rfl (Nat.le_of_ble_eq_true rfl) dL_act_354 htb [] ⟨0, 470, 471, 98⟩ [⟨0, 470, 477, 100⟩, ⟨0, 470, 483, 102⟩] rfl (fun z hz => nomatch hz) rfl (by decide) lP_1 E.2.1.2.2.1.2.2.2.1 (fun q9 => ?_)
                                                refine rv_astore (q := 473) (lv' := [_, _, _, _, _, _, _, _]) E.x dL_act_471 (Nat.le_of_ble_eq_true rfl) rfl rfl rfl ?_
                                                refine rv_sipush (q := 476) E.x dL_act_473 rv_ksm1261 rfl ?_
                                                exact lk_iret E rfl ⟨Nat.le_of_ble_eq_true rfl, Nat.le_of_ble_eq_true rfl⟩ dL_act_476
                                              · intro hx; subst hx
                                                refine lk_cx (x := 2) (M1 := M108) (hh := [(0, 470, 471, 98), (0, 470, 477, 100), (0, 470, 483, 102)]) E (fun u hI _ => ⟨_, Or.inl rfl, c11_land_x E.2.2.1.1 hI e106⟩) gP_78 hX11_land ⟨rfl, rfl⟩ ⟨Nat.le_of_ble_eq_true rfl, Nat.le_of_ble_eq_true rfl⟩ ⟨Nat.le_of_ble_eq_true rfl, Nat.le_of_ble_eq_true rfl⟩ rfl rfl rfl (Nat.le_of_ble_eq_true rfl) dL_act_354 htb [⟨0, 470, 471, 98⟩] ⟨0, 470, 477, 100⟩ [⟨0, 470, 483, 102⟩] rfl (fun z hz => by cases List.mem_singleton.mp hz; exact ⟨by decide, _, lP_1, E.2.1.2.2.2.2.1.1⟩) rfl (by decide) lP_2 E.2.1.2.2.1.2.2.2.2.1 (fun q9 => ?_)
                                                refine rv_astore (q := 479) (lv' := [_, _, _, _, _, _, _, _]) E.x dL_act_477 (Nat.le_of_ble_eq_true rfl) rfl rfl rfl ?_
                                                refine rv_sipush (q := 482) E.x dL_act_479 rv_ksm1262 rfl ?_
                                                exact lk_iret E rfl ⟨Nat.le_of_ble_eq_true rfl, Nat.le_of_ble_eq_true rfl⟩ dL_act_482
                                              · intro hx; subst hx
                                                refine lk_cx (x := 3) (M1 := M108) (hh := [(0, 470, 471, 98), (0, 470, 477, 100), (0, 470, 483, 102)]) E (fun u hI _ => ⟨_, Or.inl rfl, c11_land_x E.2.2.1.1 hI e106⟩) gP_78 hX11_land ⟨rfl, rfl⟩ ⟨Nat.le_of_ble_eq_true rfl, Nat.le_of_ble_eq_true rfl⟩ ⟨Nat.le_of_ble_eq_true rfl, Nat.le_of_ble_eq_true rfl⟩ rfl rfl rfl (Nat.le_of_ble_eq_true rfl) dL_act_354 htb [⟨0, 470, 471, 98⟩, ⟨0, 470, 477, 100⟩] ⟨0, 470, 483, 102⟩ [] rfl (fun z hz => by rcases List.mem_cons.mp hz with rfl | hz; exact ⟨by decide, _, lP_1, E.2.1.2.2.2.2.1.2.1⟩; cases List.mem_singleton.mp hz; exact ⟨by decide, _, lP_2, E.2.1.2.2.2.2.1.2.2⟩) rfl (by decide) lP_3 E.2.1.2.2.1.2.2.2.2.2.1 (fun q9 => ?_)
                                                refine rv_astore (q := 485) (lv' := [_, _, _, _, _, _, _, _]) E.x dL_act_483 (Nat.le_of_ble_eq_true rfl) rfl rfl rfl ?_
                                                refine rv_sipush (q := 488) E.x dL_act_485 rv_ksm1263 rfl ?_
                                                exact lk_iret E rfl ⟨Nat.le_of_ble_eq_true rfl, Nat.le_of_ble_eq_true rfl⟩ dL_act_488
                                          · refine rv_iload_n (q := 361) E.x dL_act_360 rfl rfl ?_
                                            refine rv_bipush (q := 363) E.x dL_act_361 rv_kb21 rfl ?_
                                            refine rv_icmp_ne (q := 366) (tgt := 383) E.x dL_act_363 (by decide) rfl ?_ ?_
                                            · refine rv_aload_n (q := 367) E.x dL_act_366 rfl rfl ?_
                                              refine rv_iload_n (q := 368) E.x dL_act_367 rfl rfl ?_
                                              refine rv_iload_n (q := 369) E.x dL_act_368 rfl rfl ?_
                                              refine lk_x3r (fun r110 M113 e109 => ?_) (fun w111 M114 e112 => ?_)
                                              · refine lk_ci (q := 372) (v := (rv_i r110)) (M1 := M113) E (fun u hI _ => c11_addReviewer E.2.2.1.1 hI e109) gP_81 hX11_addReviewer ⟨rfl, rfl⟩ ⟨Nat.le_of_ble_eq_true rfl, Nat.le_of_ble_eq_true rfl⟩ ⟨Nat.le_of_ble_eq_true rfl, Nat.le_of_ble_eq_true rfl⟩ rfl rfl rfl (Nat.le_of_ble_eq_true rfl) dL_act_369 rfl ?_
                                                refine rv_ifz_eq (q := 375) (tgt := 379) E.x dL_act_372 (by decide) rfl ?_ ?_
                                                · refine rv_iconst (q := 376) E.x dL_act_375 rv_ki1 rfl ?_
                                                  refine rv_goto (q := 470) E.x dL_act_376 (by decide) ?_
                                                  exact lk_iret E rfl ⟨Nat.le_of_ble_eq_true rfl, Nat.le_of_ble_eq_true rfl⟩ dL_act_470
                                                · refine rv_iconst (q := 380) E.x dL_act_379 rv_ki0 rfl ?_
                                                  refine rv_goto (q := 470) E.x dL_act_380 (by decide) ?_
                                                  exact lk_iret E rfl ⟨Nat.le_of_ble_eq_true rfl, Nat.le_of_ble_eq_true rfl⟩ dL_act_470
                                              · refine lk_hhr ?_ ?_ ?_
                                                · intro hx; subst hx
                                                  refine lk_cx (x := 1) (M1 := M114) (hh := [(0, 470, 471, 98), (0, 470, 477, 100), (0, 470, 483, 102)]) E (fun u hI _ => ⟨_, Or.inl rfl, c11_addReviewer_x E.2.2.1.1 hI e112⟩) gP_81 hX11_addReviewer ⟨rfl, rfl⟩ ⟨Nat.le_of_ble_eq_true rfl, Nat.le_of_ble_eq_true rfl⟩ ⟨Nat.le_of_ble_eq_true rfl, Nat.le_of_ble_eq_true rfl⟩ rfl rfl rfl (Nat.le_of_ble_eq_true rfl) dL_act_369 htb [] ⟨0, 470, 471, 98⟩ [⟨0, 470, 477, 100⟩, ⟨0, 470, 483, 102⟩] rfl (fun z hz => nomatch hz) rfl (by decide) lP_1 E.2.1.2.2.1.2.2.2.1 (fun q9 => ?_)
                                                  refine rv_astore (q := 473) (lv' := [_, _, _, _, _, _, _, _]) E.x dL_act_471 (Nat.le_of_ble_eq_true rfl) rfl rfl rfl ?_
                                                  refine rv_sipush (q := 476) E.x dL_act_473 rv_ksm1261 rfl ?_
                                                  exact lk_iret E rfl ⟨Nat.le_of_ble_eq_true rfl, Nat.le_of_ble_eq_true rfl⟩ dL_act_476
                                                · intro hx; subst hx
                                                  refine lk_cx (x := 2) (M1 := M114) (hh := [(0, 470, 471, 98), (0, 470, 477, 100), (0, 470, 483, 102)]) E (fun u hI _ => ⟨_, Or.inl rfl, c11_addReviewer_x E.2.2.1.1 hI e112⟩) gP_81 hX11_addReviewer ⟨rfl, rfl⟩ ⟨Nat.le_of_ble_eq_true rfl, Nat.le_of_ble_eq_true rfl⟩ ⟨Nat.le_of_ble_eq_true rfl, Nat.le_of_ble_eq_true rfl⟩ rfl rfl rfl (Nat.le_of_ble_eq_true rfl) dL_act_369 htb [⟨0, 470, 471, 98⟩] ⟨0, 470, 477, 100⟩ [⟨0, 470, 483, 102⟩] rfl (fun z hz => by cases List.mem_singleton.mp hz; exact ⟨by decide, _, lP_1, E.2.1.2.2.2.2.1.1⟩) rfl (by decide) lP_2 E.2.1.2.2.1.2.2.2.2.1 (fun q9 => ?_)
                                                  refine rv_astore (q := 479) (lv' := [_, _, _, _, _, _, _, _]) E.x dL_act_477 (Nat.le_of_ble_eq_true rfl) rfl rfl rfl ?_
                                                  refine rv_sipush (q := 482) E.x dL_act_479 rv_ksm1262 rfl ?_
                                                  exact lk_iret E rfl ⟨Nat.le_of_ble_eq_true rfl, Nat.le_of_ble_eq_true rfl⟩ dL_act_482
                                                · intro hx; subst hx
                                                  refine lk_cx (x := 3) (M1 := M114) (hh := [(0, 470, 471, 98), (0, 470, 477, 100), (0, 470, 483, 102)]) E (fun u hI _ => ⟨_, Or.inl rfl, c11_addReviewer_x E.2.2.1.1 hI e112⟩) gP_81 hX11_addReviewer ⟨rfl, rfl⟩ ⟨Nat.le_of_ble_eq_true rfl, Nat.le_of_ble_eq_true rfl⟩ ⟨Nat.le_of_ble_eq_true rfl, Nat.le_of_ble_eq_true rfl⟩ rfl rfl rfl (Nat.le_of_ble_eq_true rfl) dL_act_369 htb [⟨0, 470, 471, 98⟩, ⟨0, 470, 477, 100⟩] ⟨0, 470, 483, 102⟩ [] rfl (fun z hz => by rcases List.mem_cons.mp hz with rfl | hz; exact ⟨by decide, _, lP_1, E.2.1.2.2.2.2.1.2.1⟩; cases List.mem_singleton.mp hz; exact ⟨by decide, _, lP_2, E.2.1.2.2.2.2.1.2.2⟩) rfl (by decide) lP_3 E.2.1.2.2.1.2.2.2.2.2.1 (fun q9 => ?_)
                                                  refine rv_astore (q := 485) (lv' := [_, _, _, _, _, _, _, _]) E.x dL_act_483 (Nat.le_of_ble_eq_true rfl) rfl rfl rfl ?_
                                                  refine rv_sipush (q := 488) E.x dL_act_485 rv_ksm1263 rfl ?_
                                                  exact lk_iret E rfl ⟨Nat.le_of_ble_eq_true rfl, Nat.le_of_ble_eq_true rfl⟩ dL_act_488
                                            · refine rv_iload_n (q := 384) E.x dL_act_383 rfl rfl ?_
                                              refine rv_bipush (q := 386) E.x dL_act_384 rv_kb22 rfl ?_
                                              refine rv_icmp_ne (q := 389) (tgt := 397) E.x dL_act_386 (by decide) rfl ?_ ?_
                                              · refine rv_aload_n (q := 390) E.x dL_act_389 rfl rfl ?_
                                                refine rv_iload_n (q := 391) E.x dL_act_390 rfl rfl ?_
                                                refine lk_x3r (fun r116 M119 e115 => ?_) (fun w117 M120 e118 => ?_)
                                                · refine lk_ci (q := 394) (v := r116) (M1 := M119) E (fun u hI _ => c11_advance E.2.2.1.1 hI e115) gP_85 hX11_advance ⟨rfl, rfl⟩ ⟨Nat.le_of_ble_eq_true rfl, Nat.le_of_ble_eq_true rfl⟩ ⟨Nat.le_of_ble_eq_true rfl, Nat.le_of_ble_eq_true rfl⟩ rfl rfl rfl (Nat.le_of_ble_eq_true rfl) dL_act_391 rfl ?_
                                                  refine rv_goto (q := 470) E.x dL_act_394 (by decide) ?_
                                                  exact lk_iret E rfl ⟨Nat.le_of_ble_eq_true rfl, Nat.le_of_ble_eq_true rfl⟩ dL_act_470
                                                · refine lk_hhr ?_ ?_ ?_
                                                  · intro hx; subst hx
                                                    refine lk_cx (x := 1) (M1 := M120) (hh := [(0, 470, 471, 98), (0, 470, 477, 100), (0, 470, 483, 102)]) E (fun u hI _ => ⟨_, Or.inl rfl, c11_advance_x E.2.2.1.1 hI e118⟩) gP_85 hX11_advance ⟨rfl, rfl⟩ ⟨Nat.le_of_ble_eq_true rfl, Nat.le_of_ble_eq_true rfl⟩ ⟨Nat.le_of_ble_eq_true rfl, Nat.le_of_ble_eq_true rfl⟩ rfl rfl rfl (Nat.le_of_ble_eq_true rfl) dL_act_391 htb [] ⟨0, 470, 471, 98⟩ [⟨0, 470, 477, 100⟩, ⟨0, 470, 483, 102⟩] rfl (fun z hz => nomatch hz) rfl (by decide) lP_1 E.2.1.2.2.1.2.2.2.1 (fun q9 => ?_)
                                                    refine rv_astore (q := 473) (lv' := [_, _, _, _, _, _, _, _]) E.x dL_act_471 (Nat.le_of_ble_eq_true rfl) rfl rfl rfl ?_
                                                    refine rv_sipush (q := 476) E.x dL_act_473 rv_ksm1261 rfl ?_
                                                    exact lk_iret E rfl ⟨Nat.le_of_ble_eq_true rfl, Nat.le_of_ble_eq_true rfl⟩ dL_act_476
                                                  · intro hx; subst hx
                                                    refine lk_cx (x := 2) (M1 := M120) (hh := [(0, 470, 471, 98), (0, 470, 477, 100), (0, 470, 483, 102)]) E (fun u hI _ => ⟨_, Or.inl rfl, c11_advance_x E.2.2.1.1 hI e118⟩) gP_85 hX11_advance ⟨rfl, rfl⟩ ⟨Nat.le_of_ble_eq_true rfl, Nat.le_of_ble_eq_true rfl⟩ ⟨Nat.le_of_ble_eq_true rfl, Nat.le_of_ble_eq_true rfl⟩ rfl rfl rfl (Nat.le_of_ble_eq_true rfl) dL_act_391 htb [⟨0, 470, 471, 98⟩] ⟨0, 470, 477, 100⟩ [⟨0, 470, 483, 102⟩] rfl (fun z hz => by cases List.mem_singleton.mp hz; exact ⟨by decide, _, lP_1, E.2.1.2.2.2.2.1.1⟩) rfl (by decide) lP_2 E.2.1.2.2.1.2.2.2.2.1 (fun q9 => ?_)
                                                    refine rv_astore (q := 479) (lv' := [_, _, _, _, _, _, _, _]) E.x dL_act_477 (Nat.le_of_ble_eq_true rfl) rfl rfl rfl ?_
                                                    refine rv_sipush (q := 482) E.x dL_act_479 rv_ksm1262 rfl ?_
                                                    exact lk_iret E rfl ⟨Nat.le_of_ble_eq_true rfl, Nat.le_of_ble_eq_true rfl⟩ dL_act_482
                                                  · intro hx; subst hx
                                                    refine lk_cx (x := 3) (M1 := M120) (hh := [(0, 470, 471, 98), (0, 470, 477, 100), (0, 470, 483, 102)]) E (fun u hI _ => ⟨_, Or.inl rfl, c11_advance_x E.2.2.1.1 hI e118⟩) gP_85 hX11_advance ⟨rfl, rfl⟩ ⟨Nat.le_of_ble_eq_true rfl, Nat.le_of_ble_eq_true rfl⟩ ⟨Nat.le_of_ble_eq_true rfl, Nat.le_of_ble_eq_true rfl⟩ rfl rfl rfl (Nat.le_of_ble_eq_true rfl) dL_act_391 htb [⟨0, 470, 471, 98⟩, ⟨0, 470, 477, 100⟩] ⟨0, 470, 483, 102⟩ [] rfl (fun z hz => by rcases List.mem_cons.mp hz with rfl | hz; exact ⟨by decide, _, lP_1, E.2.1.2.2.2.2.1.2.1⟩; cases List.mem_singleton.mp hz; exact ⟨by decide, _, lP_2, E.2.1.2.2.2.2.1.2.2⟩) rfl (by decide) lP_3 E.2.1.2.2.1.2.2.2.2.2.1 (fun q9 => ?_)
                                                    refine rv_astore (q := 485) (lv' := [_, _, _, _, _, _, _, _]) E.x dL_act_483 (Nat.le_of_ble_eq_true rfl) rfl rfl rfl ?_
                                                    refine rv_sipush (q := 488) E.x dL_act_485 rv_ksm1263 rfl ?_
                                                    exact lk_iret E rfl ⟨Nat.le_of_ble_eq_true rfl, Nat.le_of_ble_eq_true rfl⟩ dL_act_488
                                              · refine rv_iload_n (q := 398) E.x dL_act_397 rfl rfl ?_
                                                refine rv_bipush (q := 400) E.x dL_act_398 rv_kb23 rfl ?_
                                                refine rv_icmp_ne (q := 403) (tgt := 411) E.x dL_act_400 (by decide) rfl ?_ ?_
                                                · refine rv_aload_n (q := 404) E.x dL_act_403 rfl rfl ?_
                                                  refine rv_iload_n (q := 405) E.x dL_act_404 rfl rfl ?_
                                                  refine lk_x3r (fun r122 M125 e121 => ?_) (fun w123 M126 e124 => ?_)
                                                  · refine lk_ci (q := 408) (v := r122) (M1 := M125) E (fun u hI _ => c11_setLastResort E.2.2.1.1 hI e121) gP_88 hX11_setLastResort ⟨rfl, rfl⟩ ⟨Nat.le_of_ble_eq_true rfl, Nat.le_of_ble_eq_true rfl⟩ ⟨Nat.le_of_ble_eq_true rfl, Nat.le_of_ble_eq_true rfl⟩ rfl rfl rfl (Nat.le_of_ble_eq_true rfl) dL_act_405 rfl ?_
                                                    refine rv_goto (q := 470) E.x dL_act_408 (by decide) ?_
                                                    exact lk_iret E rfl ⟨Nat.le_of_ble_eq_true rfl, Nat.le_of_ble_eq_true rfl⟩ dL_act_470
                                                  · refine lk_hhr ?_ ?_ ?_
                                                    · intro hx; subst hx
                                                      refine lk_cx (x := 1) (M1 := M126) (hh := [(0, 470, 471, 98), (0, 470, 477, 100), (0, 470, 483, 102)]) E (fun u hI _ => ⟨_, Or.inl rfl, c11_setLastResort_x E.2.2.1.1 hI e124⟩) gP_88 hX11_setLastResort ⟨rfl, rfl⟩ ⟨Nat.le_of_ble_eq_true rfl, Nat.le_of_ble_eq_true rfl⟩ ⟨Nat.le_of_ble_eq_true rfl, Nat.le_of_ble_eq_true rfl⟩ rfl rfl rfl (Nat.le_of_ble_eq_true rfl) dL_act_405 htb [] ⟨0, 470, 471, 98⟩ [⟨0, 470, 477, 100⟩, ⟨0, 470, 483, 102⟩] rfl (fun z hz => nomatch hz) rfl (by decide) lP_1 E.2.1.2.2.1.2.2.2.1 (fun q9 => ?_)
                                                      refine rv_astore (q := 473) (lv' := [_, _, _, _, _, _, _, _]) E.x dL_act_471 (Nat.le_of_ble_eq_true rfl) rfl rfl rfl ?_
                                                      refine rv_sipush (q := 476) E.x dL_act_473 rv_ksm1261 rfl ?_
                                                      exact lk_iret E rfl ⟨Nat.le_of_ble_eq_true rfl, Nat.le_of_ble_eq_true rfl⟩ dL_act_476
                                                    · intro hx; subst hx
                                                      refine lk_cx (x := 2) (M1 := M126) (hh := [(0, 470, 471, 98), (0, 470, 477, 100), (0, 470, 483, 102)]) E (fun u hI _ => ⟨_, Or.inl rfl, c11_setLastResort_x E.2.2.1.1 hI e124⟩) gP_88 hX11_setLastResort ⟨rfl, rfl⟩ ⟨Nat.le_of_ble_eq_true rfl, Nat.le_of_ble_eq_true rfl⟩ ⟨Nat.le_of_ble_eq_true rfl, Nat.le_of_ble_eq_true rfl⟩ rfl rfl rfl (Nat.le_of_ble_eq_true rfl) dL_act_405 htb [⟨0, 470, 471, 98⟩] ⟨0, 470, 477, 100⟩ [⟨0, 470, 483, 102⟩] rfl (fun z hz => by cases List.mem_singleton.mp hz; exact ⟨by decide, _, lP_1, E.2.1.2.2.2.2.1.1⟩) rfl (by decide) lP_2 E.2.1.2.2.1.2.2.2.2.1 (fun q9 => ?_)
                                                      refine rv_astore (q := 479) (lv' := [_, _, _, _, _, _, _, _]) E.x dL_act_477 (Nat.le_of_ble_eq_true rfl) rfl rfl rfl ?_
                                                      refine rv_sipush (q := 482) E.x dL_act_479 rv_ksm1262 rfl ?_
                                                      exact lk_iret E rfl ⟨Nat.le_of_ble_eq_true rfl, Nat.le_of_ble_eq_true rfl⟩ dL_act_482
                                                    · intro hx; subst hx
                                                      refine lk_cx (x := 3) (M1 := M126) (hh := [(0, 470, 471, 98), (0, 470, 477, 100), (0, 470, 483, 102)]) E (fun u hI _ => ⟨_, Or.inl rfl, c11_setLastResort_x E.2.2.1.1 hI e124⟩) gP_88 hX11_setLastResort ⟨rfl, rfl⟩ ⟨Nat.le_of_ble_eq_true rfl, Nat.le_of_ble_eq_true rfl⟩ ⟨Nat.le_of_ble_eq_true rfl, Nat.le_of_ble_eq_true rfl⟩ rfl rfl rfl (Nat.le_of_ble_eq_true rfl) dL_act_405 htb [⟨0, 470, 471, 98⟩, ⟨0, 470, 477, 100⟩] ⟨0, 470, 483, 102⟩ [] rfl (fun z hz => by rcases List.mem_cons.mp hz with rfl | hz; exact ⟨by decide, _, lP_1, E.2.1.2.2.2.2.1.2.1⟩; cases List.mem_singleton.mp hz; exact ⟨by decide, _, lP_2, E.2.1.2.2.2.2.1.2.2⟩) rfl (by decide) lP_3 E.2.1.2.2.1.2.2.2.2.2.1 (fun q9 => ?_)
                                                      refine rv_astore (q := 485) (lv' := [_, _, _, _, _, _, _, _]) E.x dL_act_483 (Nat.le_of_ble_eq_true rfl) rfl rfl rfl ?_
                                                      refine rv_sipush (q := 488) E.x dL_act_485 rv_ksm1263 rfl ?_
                                                      exact lk_iret E rfl ⟨Nat.le_of_ble_eq_true rfl, Nat.le_of_ble_eq_true rfl⟩ dL_act_488
                                                · refine rv_iload_n (q := 412) E.x dL_act_411 rfl rfl ?_
                                                  refine rv_bipush (q := 414) E.x dL_act_412 rv_kb24 rfl ?_
                                                  refine rv_icmp_ne (q := 417) (tgt := 445) E.x dL_act_414 (by decide) rfl ?_ ?_
                                                  · refine rv_aload_n (q := 418) E.x dL_act_417 rfl rfl ?_
                                                    refine rv_iload_n (q := 419) E.x dL_act_418 rfl rfl ?_
                                                    refine rv_iload_n (q := 420) E.x dL_act_419 rfl rfl ?_
                                                    refine rv_iload (q := 422) E.x dL_act_420 rfl rfl ?_
                                                    refine rv_iconst (q := 423) E.x dL_act_422 rv_ki1 rfl ?_
                                                    refine rv_icmp_ne (q := 426) (tgt := 430) E.x dL_act_423 (by decide) rfl ?_ ?_
                                                    · refine rv_iconst (q := 427) E.x dL_act_426 rv_ki1 rfl ?_
                                                      refine rv_goto (q := 431) E.x dL_act_427 (by decide) ?_
                                                      refine rv_wk [false, false, false, false, false, false, false, false] ?_
                                                      exact bp_act_431 E htb A gh M a3 a4 true
                                                    · refine rv_iconst (q := 431) E.x dL_act_430 rv_ki0 rfl ?_
                                                      refine rv_wk [false, false, false, false, false, false, false, false] ?_
                                                      exact bp_act_431 E htb A gh M a3 a4 false
                                                  · refine rv_aload_n (q := 446) E.x dL_act_445 rfl rfl ?_
                                                    refine rv_iload_n (q := 447) E.x dL_act_446 rfl rfl ?_
                                                    refine rv_iload_n (q := 448) E.x dL_act_447 rfl rfl ?_
                                                    refine rv_iload (q := 450) E.x dL_act_448 rfl rfl ?_
                                                    refine rv_iconst (q := 451) E.x dL_act_450 rv_ki1 rfl ?_
                                                    refine rv_icmp_ne (q := 454) (tgt := 458) E.x dL_act_451 (by decide) rfl ?_ ?_
                                                    · refine rv_iconst (q := 455) E.x dL_act_454 rv_ki1 rfl ?_
                                                      refine rv_goto (q := 459) E.x dL_act_455 (by decide) ?_
                                                      refine rv_wk [false, false, false, false, false, false, false, false] ?_
                                                      exact bp_act_459 E htb A gh M a3 a4 true
                                                    · refine rv_iconst (q := 459) E.x dL_act_458 rv_ki0 rfl ?_
                                                      refine rv_wk [false, false, false, false, false, false, false, false] ?_
                                                      exact bp_act_459 E htb A gh M a3 a4 false
theorem wP_act {l : Launch} {D : va_G} {cI cZ cO : ClassId} {mi de z0 o b L : Nat} {k : Nat → Nat} {xs : Nat → Int32} (S : lk_S l de z0 b k) {gh : rC_gh} {M A : rv_Mem} {a2 : Int32} {a3 : Int32} {a4 : Int32} {a5 : Int32} {a6 : Int32} {a7 : Int32} {r : Int32} {gh1 : rC_gh} {M1 : rv_Mem} (h : gp_act gh M A a2 a3 a4 a5 a6 a7 = some (r, gh1, M1)) : Met l yL_act (Cond.codeWith yL_act cL_act 8 (some .int) [(0, 470, 471, 98), (0, 470, 477, 100), (0, 470, 483, 102)] :: rv_AL) rmp_act (va_Pc [.ref o, .int a2, .int a3, .int a4, .int a5, .int a6, .int a7] (lk_P D cI cZ cO mi de z0 o b L k xs (gh, M, A))) (lk_qi D cI cZ cO de z0 o k r (gh1, M1, A)) 3 193 (fun q => z0 ≤ q) := lk_metW S rfl (Nat.le_of_ble_eq_true rfl) (fun p e s m args below meth c E htb => ⟨(lk_qWI D cI cZ cO de z0 o k A below args s 3 193), rfl, bp_act E htb gh M A a2 a3 a4 a5 a6 a7⟩) h
abbrev rmp_commented : Room := { frames := 10, cells := 3, slots := 110, locals := 250 }
set_option maxRecDepth 100000 in
theorem bp_commented_22 {p : Program} {l : Launch} {e : Env} {s : State} {m : MethodId} {args : Array Value} {below : List Frame} {meth : Method} {c : Code} {D : va_G} {cI cZ cO : ClassId} {mi de z0 o b L : Nat} {k : Nat → Nat} {xs : Nat → Int32} (E : lk_E D cI cZ cO mi de z0 b L k xs cL_commented 8 (some .int) p l s m args meth c) (htb : c.exceptionTable.toList = tableOf [(0, 25, 26, 98), (0, 25, 32, 100), (0, 25, 38, 102)]) (A : rv_Mem)   : ∀ (gh : rC_gh) (M : rv_Mem) (s1 : Int32) (s2 : Int32) (s3 : Int32) (s4 : Int32) (s5 : Int32) (s6 : Int32) (s7 : Bool), rv_M (lk_G D cI cZ cO de z0 o k) (fun q => z0 ≤ q) p l e rmp_commented s m args below meth c 0 0 (lk_qWI D cI cZ cO de z0 o k A below args s 3 110) (gp_commented_22 A gh M s1 s2 s3 s4 s5 s6 s7) 22 [none, none, none, none, none, none, none, none] [.int (rv_i s7), .int s6, .int s5, .int s4, .int s3, .int s2, .int s1, .ref o] (gh, M, A) := by
  intro gh M s1 s2 s3 s4 s5 s6 s7
  unfold gp_commented_22
  refine lk_xmr (fun r2 g5 M6 e1 => ?_) (fun w3 e4 => ?_)
  · refine lk_cm (q := 25) (v := r2) E (fun u hI _ => c11_comment E.2.2.1.1 hI e1) gP_104 hX11_comment ⟨rfl, rfl⟩ ⟨Nat.le_of_ble_eq_true rfl, Nat.le_of_ble_eq_true rfl⟩ ⟨Nat.le_of_ble_eq_true rfl, Nat.le_of_ble_eq_true rfl⟩ rfl rfl rfl (Nat.le_of_ble_eq_true rfl) dL_commented_22 rfl ?_
    exact lk_iret E rfl ⟨Nat.le_of_ble_eq_true rfl, Nat.le_of_ble_eq_true rfl⟩ dL_commented_25
  · refine lk_hhr ?_ ?_ ?_
    · intro hx; subst hx
      refine lk_cx (x := 1) (M1 := M) (hh := [(0, 25, 26, 98), (0, 25, 32, 100), (0, 25, 38, 102)]) E (fun u hI _ => ⟨_, Or.inr rfl, c11_comment_x E.2.2.1.1 hI e4⟩) gP_104 hX11_comment ⟨rfl, rfl⟩ ⟨Nat.le_of_ble_eq_true rfl, Nat.le_of_ble_eq_true rfl⟩ ⟨Nat.le_of_ble_eq_true rfl, Nat.le_of_ble_eq_true rfl⟩ rfl rfl rfl (Nat.le_of_ble_eq_true rfl) dL_commented_22 htb [] ⟨0, 25, 26, 98⟩ [⟨0, 25, 32, 100⟩, ⟨0, 25, 38, 102⟩] rfl (fun z hz => nomatch hz) rfl (by decide) lP_1 E.2.1.2.2.1.2.2.2.1 (fun q9 => ?_)
      refine rv_astore (q := 28) (lv' := [_, _, _, _, _, _, _, _]) E.x dL_commented_26 (Nat.le_of_ble_eq_true rfl) rfl rfl rfl ?_
      refine rv_sipush (q := 31) E.x dL_commented_28 rv_ksm1261 rfl ?_
      exact lk_iret E rfl ⟨Nat.le_of_ble_eq_true rfl, Nat.le_of_ble_eq_true rfl⟩ dL_commented_31
    · intro hx; subst hx
      refine lk_cx (x := 2) (M1 := M) (hh := [(0, 25, 26, 98), (0, 25, 32, 100), (0, 25, 38, 102)]) E (fun u hI _ => ⟨_, Or.inr rfl, c11_comment_x E.2.2.1.1 hI e4⟩) gP_104 hX11_comment ⟨rfl, rfl⟩ ⟨Nat.le_of_ble_eq_true rfl, Nat.le_of_ble_eq_true rfl⟩ ⟨Nat.le_of_ble_eq_true rfl, Nat.le_of_ble_eq_true rfl⟩ rfl rfl rfl (Nat.le_of_ble_eq_true rfl) dL_commented_22 htb [⟨0, 25, 26, 98⟩] ⟨0, 25, 32, 100⟩ [⟨0, 25, 38, 102⟩] rfl (fun z hz => by cases List.mem_singleton.mp hz; exact ⟨by decide, _, lP_1, E.2.1.2.2.2.2.1.1⟩) rfl (by decide) lP_2 E.2.1.2.2.1.2.2.2.2.1 (fun q9 => ?_)
      refine rv_astore (q := 34) (lv' := [_, _, _, _, _, _, _, _]) E.x dL_commented_32 (Nat.le_of_ble_eq_true rfl) rfl rfl rfl ?_
      refine rv_sipush (q := 37) E.x dL_commented_34 rv_ksm1262 rfl ?_
      exact lk_iret E rfl ⟨Nat.le_of_ble_eq_true rfl, Nat.le_of_ble_eq_true rfl⟩ dL_commented_37
    · intro hx; subst hx
      refine lk_cx (x := 3) (M1 := M) (hh := [(0, 25, 26, 98), (0, 25, 32, 100), (0, 25, 38, 102)]) E (fun u hI _ => ⟨_, Or.inr rfl, c11_comment_x E.2.2.1.1 hI e4⟩) gP_104 hX11_comment ⟨rfl, rfl⟩ ⟨Nat.le_of_ble_eq_true rfl, Nat.le_of_ble_eq_true rfl⟩ ⟨Nat.le_of_ble_eq_true rfl, Nat.le_of_ble_eq_true rfl⟩ rfl rfl rfl (Nat.le_of_ble_eq_true rfl) dL_commented_22 htb [⟨0, 25, 26, 98⟩, ⟨0, 25, 32, 100⟩] ⟨0, 25, 38, 102⟩ [] rfl (fun z hz => by rcases List.mem_cons.mp hz with rfl | hz; exact ⟨by decide, _, lP_1, E.2.1.2.2.2.2.1.2.1⟩; cases List.mem_singleton.mp hz; exact ⟨by decide, _, lP_2, E.2.1.2.2.2.2.1.2.2⟩) rfl (by decide) lP_3 E.2.1.2.2.1.2.2.2.2.2.1 (fun q9 => ?_)
      refine rv_astore (q := 40) (lv' := [_, _, _, _, _, _, _, _]) E.x dL_commented_38 (Nat.le_of_ble_eq_true rfl) rfl rfl rfl ?_
      refine rv_sipush (q := 43) E.x dL_commented_40 rv_ksm1263 rfl ?_
      exact lk_iret E rfl ⟨Nat.le_of_ble_eq_true rfl, Nat.le_of_ble_eq_true rfl⟩ dL_commented_43
set_option maxRecDepth 100000 in
theorem bp_commented {p : Program} {l : Launch} {e : Env} {s : State} {m : MethodId} {args : Array Value} {below : List Frame} {meth : Method} {c : Code} {D : va_G} {cI cZ cO : ClassId} {mi de z0 o b L : Nat} {k : Nat → Nat} {xs : Nat → Int32} (E : lk_E D cI cZ cO mi de z0 b L k xs cL_commented 8 (some .int) p l s m args meth c) (htb : c.exceptionTable.toList = tableOf [(0, 25, 26, 98), (0, 25, 32, 100), (0, 25, 38, 102)]) (gh : rC_gh) (M A : rv_Mem) (a2 : Int32) (a3 : Int32) (a4 : Int32) (a5 : Int32) (a6 : Int32) (a7 : Int32) : rv_M (lk_G D cI cZ cO de z0 o k) (fun q => z0 ≤ q) p l e rmp_commented s m args below meth c 0 0 (lk_qWI D cI cZ cO de z0 o k A below args s 3 110) (gp_commented gh M A a2 a3 a4 a5 a6 a7) 0 [some (.ref o), some (.int a2), some (.int a3), some (.int a4), some (.int a5), some (.int a6), some (.int a7), none] [] (gh, M, A) := by
  unfold gp_commented
  refine rv_aload_n (q := 1) E.x dL_commented_0 rfl rfl ?_
  refine rv_iload_n (q := 2) E.x dL_commented_1 rfl rfl ?_
  refine rv_iload_n (q := 3) E.x dL_commented_2 rfl rfl ?_
  refine rv_iload_n (q := 4) E.x dL_commented_3 rfl rfl ?_
  refine rv_iload (q := 6) E.x dL_commented_4 rfl rfl ?_
  refine rv_iload (q := 8) E.x dL_commented_6 rfl rfl ?_
  refine rv_iload (q := 10) E.x dL_commented_8 rfl rfl ?_
  refine rv_iload (q := 12) E.x dL_commented_10 rfl rfl ?_
  refine rv_iconst (q := 13) E.x dL_commented_12 rv_ki2 rfl ?_
  refine rv_irem (q := 14) E.x dL_commented_13 (by decide) rfl ?_
  refine rv_if_ne (q := 17) (tgt := 21) E.x dL_commented_14 (by decide) rfl ?_ ?_
  · refine rv_iconst (q := 18) E.x dL_commented_17 rv_ki1 rfl ?_
    refine rv_goto (q := 22) E.x dL_commented_18 (by decide) ?_
    refine rv_wk [false, false, false, false, false, false, false, false] ?_
    exact bp_commented_22 E htb A gh M a2 a3 a4 a5 a6 a7 true
  · refine rv_iconst (q := 22) E.x dL_commented_21 rv_ki0 rfl ?_
    refine rv_wk [false, false, false, false, false, false, false, false] ?_
    exact bp_commented_22 E htb A gh M a2 a3 a4 a5 a6 a7 false
theorem wP_commented {l : Launch} {D : va_G} {cI cZ cO : ClassId} {mi de z0 o b L : Nat} {k : Nat → Nat} {xs : Nat → Int32} (S : lk_S l de z0 b k) {gh : rC_gh} {M A : rv_Mem} {a2 : Int32} {a3 : Int32} {a4 : Int32} {a5 : Int32} {a6 : Int32} {a7 : Int32} {r : Int32} {gh1 : rC_gh} {M1 : rv_Mem} (h : gp_commented gh M A a2 a3 a4 a5 a6 a7 = some (r, gh1, M1)) : Met l yL_commented (Cond.codeWith yL_commented cL_commented 8 (some .int) [(0, 25, 26, 98), (0, 25, 32, 100), (0, 25, 38, 102)] :: rv_AL) rmp_commented (va_Pc [.ref o, .int a2, .int a3, .int a4, .int a5, .int a6, .int a7] (lk_P D cI cZ cO mi de z0 o b L k xs (gh, M, A))) (lk_qi D cI cZ cO de z0 o k r (gh1, M1, A)) 3 110 (fun q => z0 ≤ q) := lk_metW S rfl (Nat.le_of_ble_eq_true rfl) (fun p e s m args below meth c E htb => ⟨(lk_qWI D cI cZ cO de z0 o k A below args s 3 110), rfl, bp_commented E htb gh M A a2 a3 a4 a5 a6 a7⟩) h
abbrev rmp_found : Room := { frames := 10, cells := 3, slots := 108, locals := 247 }
set_option maxRecDepth 100000 in
theorem bp_found {p : Program} {l : Launch} {e : Env} {s : State} {m : MethodId} {args : Array Value} {below : List Frame} {meth : Method} {c : Code} {D : va_G} {cI cZ cO : ClassId} {mi de z0 o b L : Nat} {k : Nat → Nat} {xs : Nat → Int32} (E : lk_E D cI cZ cO mi de z0 b L k xs cL_found 8 (some .int) p l s m args meth c) (htb : c.exceptionTable.toList = tableOf [(0, 13, 14, 98), (0, 13, 20, 100)]) (gh : rC_gh) (M A : rv_Mem) (a2 : Int32) (a3 : Int32) (a4 : Int32) (a5 : Int32) (a6 : Int32) (a7 : Int32) : rv_M (lk_G D cI cZ cO de z0 o k) (fun q => z0 ≤ q) p l e rmp_found s m args below meth c 0 0 (lk_qWI D cI cZ cO de z0 o k A below args s 3 108) (gp_found gh M A a2 a3 a4 a5 a6 a7) 0 [some (.ref o), some (.int a2), some (.int a3), some (.int a4), some (.int a5), some (.int a6), some (.int a7), none] [] (gh, M, A) := by
  unfold gp_found
  refine rv_aload_n (q := 1) E.x dL_found_0 rfl rfl ?_
  refine rv_iload_n (q := 2) E.x dL_found_1 rfl rfl ?_
  refine rv_iload_n (q := 3) E.x dL_found_2 rfl rfl ?_
  refine rv_iload_n (q := 4) E.x dL_found_3 rfl rfl ?_
  refine rv_iload (q := 6) E.x dL_found_4 rfl rfl ?_
  refine rv_iload (q := 8) E.x dL_found_6 rfl rfl ?_
  refine rv_iload (q := 10) E.x dL_found_8 rfl rfl ?_
  refine lk_xmr (fun r2 g5 M6 e1 => ?_) (fun w3 e4 => ?_)
  · refine lk_cm (q := 13) (v := r2) E (fun u hI _ => c11_find E.2.2.1.1 hI e1) gP_108 hX11_find ⟨rfl, rfl⟩ ⟨Nat.le_of_ble_eq_true rfl, Nat.le_of_ble_eq_true rfl⟩ ⟨Nat.le_of_ble_eq_true rfl, Nat.le_of_ble_eq_true rfl⟩ rfl rfl rfl (Nat.le_of_ble_eq_true rfl) dL_found_10 rfl ?_
    exact lk_iret E rfl ⟨Nat.le_of_ble_eq_true rfl, Nat.le_of_ble_eq_true rfl⟩ dL_found_13
  · refine lk_hhr ?_ ?_ ?_
    · intro hx; subst hx
      refine lk_cx (x := 1) (M1 := M) (hh := [(0, 13, 14, 98), (0, 13, 20, 100)]) E (fun u hI _ => ⟨_, Or.inr rfl, c11_find_x E.2.2.1.1 hI e4⟩) gP_108 hX11_find ⟨rfl, rfl⟩ ⟨Nat.le_of_ble_eq_true rfl, Nat.le_of_ble_eq_true rfl⟩ ⟨Nat.le_of_ble_eq_true rfl, Nat.le_of_ble_eq_true rfl⟩ rfl rfl rfl (Nat.le_of_ble_eq_true rfl) dL_found_10 htb [] ⟨0, 13, 14, 98⟩ [⟨0, 13, 20, 100⟩] rfl (fun z hz => nomatch hz) rfl (by decide) lP_1 E.2.1.2.2.1.2.2.2.1 (fun q9 => ?_)
      refine rv_astore (q := 16) (lv' := [_, _, _, _, _, _, _, _]) E.x dL_found_14 (Nat.le_of_ble_eq_true rfl) rfl rfl rfl ?_
      refine rv_sipush (q := 19) E.x dL_found_16 rv_ksm1261 rfl ?_
      exact lk_iret E rfl ⟨Nat.le_of_ble_eq_true rfl, Nat.le_of_ble_eq_true rfl⟩ dL_found_19
    · intro hx; subst hx
      refine lk_cx (x := 2) (M1 := M) (hh := [(0, 13, 14, 98), (0, 13, 20, 100)]) E (fun u hI _ => ⟨_, Or.inr rfl, c11_find_x E.2.2.1.1 hI e4⟩) gP_108 hX11_find ⟨rfl, rfl⟩ ⟨Nat.le_of_ble_eq_true rfl, Nat.le_of_ble_eq_true rfl⟩ ⟨Nat.le_of_ble_eq_true rfl, Nat.le_of_ble_eq_true rfl⟩ rfl rfl rfl (Nat.le_of_ble_eq_true rfl) dL_found_10 htb [⟨0, 13, 14, 98⟩] ⟨0, 13, 20, 100⟩ [] rfl (fun z hz => by cases List.mem_singleton.mp hz; exact ⟨by decide, _, lP_1, E.2.1.2.2.2.2.1.1⟩) rfl (by decide) lP_2 E.2.1.2.2.1.2.2.2.2.1 (fun q9 => ?_)
      refine rv_astore (q := 22) (lv' := [_, _, _, _, _, _, _, _]) E.x dL_found_20 (Nat.le_of_ble_eq_true rfl) rfl rfl rfl ?_
      refine rv_sipush (q := 25) E.x dL_found_22 rv_ksm1262 rfl ?_
      exact lk_iret E rfl ⟨Nat.le_of_ble_eq_true rfl, Nat.le_of_ble_eq_true rfl⟩ dL_found_25
    · exact fun _ => rv_stuck
theorem wP_found {l : Launch} {D : va_G} {cI cZ cO : ClassId} {mi de z0 o b L : Nat} {k : Nat → Nat} {xs : Nat → Int32} (S : lk_S l de z0 b k) {gh : rC_gh} {M A : rv_Mem} {a2 : Int32} {a3 : Int32} {a4 : Int32} {a5 : Int32} {a6 : Int32} {a7 : Int32} {r : Int32} {gh1 : rC_gh} {M1 : rv_Mem} (h : gp_found gh M A a2 a3 a4 a5 a6 a7 = some (r, gh1, M1)) : Met l yL_found (Cond.codeWith yL_found cL_found 8 (some .int) [(0, 13, 14, 98), (0, 13, 20, 100)] :: rv_AL) rmp_found (va_Pc [.ref o, .int a2, .int a3, .int a4, .int a5, .int a6, .int a7] (lk_P D cI cZ cO mi de z0 o b L k xs (gh, M, A))) (lk_qi D cI cZ cO de z0 o k r (gh1, M1, A)) 3 108 (fun q => z0 ≤ q) := lk_metW S rfl (Nat.le_of_ble_eq_true rfl) (fun p e s m args below meth c E htb => ⟨(lk_qWI D cI cZ cO de z0 o k A below args s 3 108), rfl, bp_found E htb gh M A a2 a3 a4 a5 a6 a7⟩) h
abbrev rmp_of : Room := { frames := 9, cells := 1, slots := 6, locals := 194 }
set_option maxRecDepth 100000 in
theorem bp_of {p : Program} {l : Launch} {e : Env} {s : State} {m : MethodId} {args : Array Value} {below : List Frame} {meth : Method} {c : Code} {D : va_G} {cI cZ cO : ClassId} {mi de z0 o b L : Nat} {k : Nat → Nat} {xs : Nat → Int32} (E : lk_E D cI cZ cO mi de z0 b L k xs cL_of 7 (some .int) p l s m args meth c) (htb : c.exceptionTable.toList = tableOf [(0, 317, 318, 98), (0, 317, 324, 100), (0, 317, 330, 102)]) (gh : rC_gh) (M A : rv_Mem) (a2 : Int32) (a3 : Int32) (a4 : Int32) (a5 : Int32) (a6 : Int32) : rv_M (lk_G D cI cZ cO de z0 o k) (fun q => z0 ≤ q) p l e rmp_of s m args below meth c 0 0 (lk_qRI D cI cZ cO de z0 o k gh A below args s 1 6) (gp_of gh M A a2 a3 a4 a5 a6) 0 [some (.ref o), some (.int a2), some (.int a3), some (.int a4), some (.int a5), some (.int a6), none] [] (gh, M, A) := by
  unfold gp_of
  refine rv_iload_n (q := 1) E.x dL_of_0 rfl rfl ?_
  refine rv_if_ne (q := 4) (tgt := 15) E.x dL_of_1 (by decide) rfl ?_ ?_
  · refine rv_aload_n (q := 5) E.x dL_of_4 rfl rfl ?_
    refine rv_iload_n (q := 6) E.x dL_of_5 rfl rfl ?_
    refine rv_iload_n (q := 7) E.x dL_of_6 rfl rfl ?_
    refine rv_iload (q := 9) E.x dL_of_7 rfl rfl ?_
    refine lk_x1r (fun r2 e1 => ?_) (fun w3 e4 => ?_)
    · refine lk_ci (q := 12) (v := r2) (M1 := M) E (fun u hI _ => c11_line E.2.2.1.1 hI e1) gP_112 hX11_line ⟨rfl, rfl⟩ ⟨Nat.le_of_ble_eq_true rfl, Nat.le_of_ble_eq_true rfl⟩ ⟨Nat.le_of_ble_eq_true rfl, Nat.le_of_ble_eq_true rfl⟩ rfl rfl rfl (Nat.le_of_ble_eq_true rfl) dL_of_9 rfl ?_
      refine rv_goto (q := 317) E.x dL_of_12 (by decide) ?_
      exact lk_iret E rfl ⟨Nat.le_of_ble_eq_true rfl, Nat.le_of_ble_eq_true rfl⟩ dL_of_317
    · refine lk_hhr ?_ ?_ ?_
      · intro hx; subst hx
        refine lk_cx (x := 1) (M1 := M) (hh := [(0, 317, 318, 98), (0, 317, 324, 100), (0, 317, 330, 102)]) E (fun u hI _ => ⟨_, Or.inl rfl, c11_line_x E.2.2.1.1 hI e4⟩) gP_112 hX11_line ⟨rfl, rfl⟩ ⟨Nat.le_of_ble_eq_true rfl, Nat.le_of_ble_eq_true rfl⟩ ⟨Nat.le_of_ble_eq_true rfl, Nat.le_of_ble_eq_true rfl⟩ rfl rfl rfl (Nat.le_of_ble_eq_true rfl) dL_of_9 htb [] ⟨0, 317, 318, 98⟩ [⟨0, 317, 324, 100⟩, ⟨0, 317, 330, 102⟩] rfl (fun z hz => nomatch hz) rfl (by decide) lP_1 E.2.1.2.2.1.2.2.2.1 (fun q9 => ?_)
        refine rv_astore (q := 320) (lv' := [_, _, _, _, _, _, _]) E.x dL_of_318 (Nat.le_of_ble_eq_true rfl) rfl rfl rfl ?_
        refine rv_sipush (q := 323) E.x dL_of_320 rv_ksm1261 rfl ?_
        exact lk_iret E rfl ⟨Nat.le_of_ble_eq_true rfl, Nat.le_of_ble_eq_true rfl⟩ dL_of_323
      · intro hx; subst hx
        refine lk_cx (x := 2) (M1 := M) (hh := [(0, 317, 318, 98), (0, 317, 324, 100), (0, 317, 330, 102)]) E (fun u hI _ => ⟨_, Or.inl rfl, c11_line_x E.2.2.1.1 hI e4⟩) gP_112 hX11_line ⟨rfl, rfl⟩ ⟨Nat.le_of_ble_eq_true rfl, Nat.le_of_ble_eq_true rfl⟩ ⟨Nat.le_of_ble_eq_true rfl, Nat.le_of_ble_eq_true rfl⟩ rfl rfl rfl (Nat.le_of_ble_eq_true rfl) dL_of_9 htb [⟨0, 317, 318, 98⟩] ⟨0, 317, 324, 100⟩ [⟨0, 317, 330, 102⟩] rfl (fun z hz => by cases List.mem_singleton.mp hz; exact ⟨by decide, _, lP_1, E.2.1.2.2.2.2.1.1⟩) rfl (by decide) lP_2 E.2.1.2.2.1.2.2.2.2.1 (fun q9 => ?_)
        refine rv_astore (q := 326) (lv' := [_, _, _, _, _, _, _]) E.x dL_of_324 (Nat.le_of_ble_eq_true rfl) rfl rfl rfl ?_
        refine rv_sipush (q := 329) E.x dL_of_326 rv_ksm1262 rfl ?_
        exact lk_iret E rfl ⟨Nat.le_of_ble_eq_true rfl, Nat.le_of_ble_eq_true rfl⟩ dL_of_329
      · intro hx; subst hx
        refine lk_cx (x := 3) (M1 := M) (hh := [(0, 317, 318, 98), (0, 317, 324, 100), (0, 317, 330, 102)]) E (fun u hI _ => ⟨_, Or.inl rfl, c11_line_x E.2.2.1.1 hI e4⟩) gP_112 hX11_line ⟨rfl, rfl⟩ ⟨Nat.le_of_ble_eq_true rfl, Nat.le_of_ble_eq_true rfl⟩ ⟨Nat.le_of_ble_eq_true rfl, Nat.le_of_ble_eq_true rfl⟩ rfl rfl rfl (Nat.le_of_ble_eq_true rfl) dL_of_9 htb [⟨0, 317, 318, 98⟩, ⟨0, 317, 324, 100⟩] ⟨0, 317, 330, 102⟩ [] rfl (fun z hz => by rcases List.mem_cons.mp hz with rfl | hz; exact ⟨by decide, _, lP_1, E.2.1.2.2.2.2.1.2.1⟩; cases List.mem_singleton.mp hz; exact ⟨by decide, _, lP_2, E.2.1.2.2.2.2.1.2.2⟩) rfl (by decide) lP_3 E.2.1.2.2.1.2.2.2.2.2.1 (fun q9 => ?_)
        refine rv_astore (q := 332) (lv' := [_, _, _, _, _, _, _]) E.x dL_of_330 (Nat.le_of_ble_eq_true rfl) rfl rfl rfl ?_
        refine rv_sipush (q := 335) E.x dL_of_332 rv_ksm1263 rfl ?_
        exact lk_iret E rfl ⟨Nat.le_of_ble_eq_true rfl, Nat.le_of_ble_eq_true rfl⟩ dL_of_335
  · refine rv_iload_n (q := 16) E.x dL_of_15 rfl rfl ?_
    refine rv_iconst (q := 17) E.x dL_of_16 rv_ki1 rfl ?_
    refine rv_icmp_ne (q := 20) (tgt := 28) E.x dL_of_17 (by decide) rfl ?_ ?_
    · refine rv_aload_n (q := 21) E.x dL_of_20 rfl rfl ?_
      refine rv_iload_n (q := 22) E.x dL_of_21 rfl rfl ?_
      refine lk_x1r (fun r6 e5 => ?_) (fun w7 e8 => ?_)
      · refine lk_ci (q := 25) (v := r6) (M1 := M) E (fun u hI _ => c11_before E.2.2.1.1 hI e5) gP_115 hX11_before ⟨rfl, rfl⟩ ⟨Nat.le_of_ble_eq_true rfl, Nat.le_of_ble_eq_true rfl⟩ ⟨Nat.le_of_ble_eq_true rfl, Nat.le_of_ble_eq_true rfl⟩ rfl rfl rfl (Nat.le_of_ble_eq_true rfl) dL_of_22 rfl ?_
        refine rv_goto (q := 317) E.x dL_of_25 (by decide) ?_
        exact lk_iret E rfl ⟨Nat.le_of_ble_eq_true rfl, Nat.le_of_ble_eq_true rfl⟩ dL_of_317
      · refine lk_hhr ?_ ?_ ?_
        · intro hx; subst hx
          refine lk_cx (x := 1) (M1 := M) (hh := [(0, 317, 318, 98), (0, 317, 324, 100), (0, 317, 330, 102)]) E (fun u hI _ => ⟨_, Or.inl rfl, c11_before_x E.2.2.1.1 hI e8⟩) gP_115 hX11_before ⟨rfl, rfl⟩ ⟨Nat.le_of_ble_eq_true rfl, Nat.le_of_ble_eq_true rfl⟩ ⟨Nat.le_of_ble_eq_true rfl, Nat.le_of_ble_eq_true rfl⟩ rfl rfl rfl (Nat.le_of_ble_eq_true rfl) dL_of_22 htb [] ⟨0, 317, 318, 98⟩ [⟨0, 317, 324, 100⟩, ⟨0, 317, 330, 102⟩] rfl (fun z hz => nomatch hz) rfl (by decide) lP_1 E.2.1.2.2.1.2.2.2.1 (fun q9 => ?_)
          refine rv_astore (q := 320) (lv' := [_, _, _, _, _, _, _]) E.x dL_of_318 (Nat.le_of_ble_eq_true rfl) rfl rfl rfl ?_
          refine rv_sipush (q := 323) E.x dL_of_320 rv_ksm1261 rfl ?_
          exact lk_iret E rfl ⟨Nat.le_of_ble_eq_true rfl, Nat.le_of_ble_eq_true rfl⟩ dL_of_323
        · intro hx; subst hx
          refine lk_cx (x := 2) (M1 := M) (hh := [(0, 317, 318, 98), (0, 317, 324, 100), (0, 317, 330, 102)]) E (fun u hI _ => ⟨_, Or.inl rfl, c11_before_x E.2.2.1.1 hI e8⟩) gP_115 hX11_before ⟨rfl, rfl⟩ ⟨Nat.le_of_ble_eq_true rfl, Nat.le_of_ble_eq_true rfl⟩ ⟨Nat.le_of_ble_eq_true rfl, Nat.le_of_ble_eq_true rfl⟩ rfl rfl rfl (Nat.le_of_ble_eq_true rfl) dL_of_22 htb [⟨0, 317, 318, 98⟩] ⟨0, 317, 324, 100⟩ [⟨0, 317, 330, 102⟩] rfl (fun z hz => by cases List.mem_singleton.mp hz; exact ⟨by decide, _, lP_1, E.2.1.2.2.2.2.1.1⟩) rfl (by decide) lP_2 E.2.1.2.2.1.2.2.2.2.1 (fun q9 => ?_)
          refine rv_astore (q := 326) (lv' := [_, _, _, _, _, _, _]) E.x dL_of_324 (Nat.le_of_ble_eq_true rfl) rfl rfl rfl ?_
          refine rv_sipush (q := 329) E.x dL_of_326 rv_ksm1262 rfl ?_
          exact lk_iret E rfl ⟨Nat.le_of_ble_eq_true rfl, Nat.le_of_ble_eq_true rfl⟩ dL_of_329
        · intro hx; subst hx
          refine lk_cx (x := 3) (M1 := M) (hh := [(0, 317, 318, 98), (0, 317, 324, 100), (0, 317, 330, 102)]) E (fun u hI _ => ⟨_, Or.inl rfl, c11_before_x E.2.2.1.1 hI e8⟩) gP_115 hX11_before ⟨rfl, rfl⟩ ⟨Nat.le_of_ble_eq_true rfl, Nat.le_of_ble_eq_true rfl⟩ ⟨Nat.le_of_ble_eq_true rfl, Nat.le_of_ble_eq_true rfl⟩ rfl rfl rfl (Nat.le_of_ble_eq_true rfl) dL_of_22 htb [⟨0, 317, 318, 98⟩, ⟨0, 317, 324, 100⟩] ⟨0, 317, 330, 102⟩ [] rfl (fun z hz => by rcases List.mem_cons.mp hz with rfl | hz; exact ⟨by decide, _, lP_1, E.2.1.2.2.2.2.1.2.1⟩; cases List.mem_singleton.mp hz; exact ⟨by decide, _, lP_2, E.2.1.2.2.2.2.1.2.2⟩) rfl (by decide) lP_3 E.2.1.2.2.1.2.2.2.2.2.1 (fun q9 => ?_)
          refine rv_astore (q := 332) (lv' := [_, _, _, _, _, _, _]) E.x dL_of_330 (Nat.le_of_ble_eq_true rfl) rfl rfl rfl ?_
          refine rv_sipush (q := 335) E.x dL_of_332 rv_ksm1263 rfl ?_
          exact lk_iret E rfl ⟨Nat.le_of_ble_eq_true rfl, Nat.le_of_ble_eq_true rfl⟩ dL_of_335
    · refine rv_iload_n (q := 29) E.x dL_of_28 rfl rfl ?_
      refine rv_iconst (q := 30) E.x dL_of_29 rv_ki2 rfl ?_
      refine rv_icmp_ne (q := 33) (tgt := 41) E.x dL_of_30 (by decide) rfl ?_ ?_
      · refine rv_aload_n (q := 34) E.x dL_of_33 rfl rfl ?_
        refine rv_iload_n (q := 35) E.x dL_of_34 rfl rfl ?_
        refine lk_x1r (fun r10 e9 => ?_) (fun w11 e12 => ?_)
        · refine lk_ci (q := 38) (v := r10) (M1 := M) E (fun u hI _ => c11_tip E.2.2.1.1 hI e9) gP_118 hX11_tip ⟨rfl, rfl⟩ ⟨Nat.le_of_ble_eq_true rfl, Nat.le_of_ble_eq_true rfl⟩ ⟨Nat.le_of_ble_eq_true rfl, Nat.le_of_ble_eq_true rfl⟩ rfl rfl rfl (Nat.le_of_ble_eq_true rfl) dL_of_35 rfl ?_
          refine rv_goto (q := 317) E.x dL_of_38 (by decide) ?_
          exact lk_iret E rfl ⟨Nat.le_of_ble_eq_true rfl, Nat.le_of_ble_eq_true rfl⟩ dL_of_317
        · refine lk_hhr ?_ ?_ ?_
          · intro hx; subst hx
            refine lk_cx (x := 1) (M1 := M) (hh := [(0, 317, 318, 98), (0, 317, 324, 100), (0, 317, 330, 102)]) E (fun u hI _ => ⟨_, Or.inl rfl, c11_tip_x E.2.2.1.1 hI e12⟩) gP_118 hX11_tip ⟨rfl, rfl⟩ ⟨Nat.le_of_ble_eq_true rfl, Nat.le_of_ble_eq_true rfl⟩ ⟨Nat.le_of_ble_eq_true rfl, Nat.le_of_ble_eq_true rfl⟩ rfl rfl rfl (Nat.le_of_ble_eq_true rfl) dL_of_35 htb [] ⟨0, 317, 318, 98⟩ [⟨0, 317, 324, 100⟩, ⟨0, 317, 330, 102⟩] rfl (fun z hz => nomatch hz) rfl (by decide) lP_1 E.2.1.2.2.1.2.2.2.1 (fun q9 => ?_)
            refine rv_astore (q := 320) (lv' := [_, _, _, _, _, _, _]) E.x dL_of_318 (Nat.le_of_ble_eq_true rfl) rfl rfl rfl ?_
            refine rv_sipush (q := 323) E.x dL_of_320 rv_ksm1261 rfl ?_
            exact lk_iret E rfl ⟨Nat.le_of_ble_eq_true rfl, Nat.le_of_ble_eq_true rfl⟩ dL_of_323
          · intro hx; subst hx
            refine lk_cx (x := 2) (M1 := M) (hh := [(0, 317, 318, 98), (0, 317, 324, 100), (0, 317, 330, 102)]) E (fun u hI _ => ⟨_, Or.inl rfl, c11_tip_x E.2.2.1.1 hI e12⟩) gP_118 hX11_tip ⟨rfl, rfl⟩ ⟨Nat.le_of_ble_eq_true rfl, Nat.le_of_ble_eq_true rfl⟩ ⟨Nat.le_of_ble_eq_true rfl, Nat.le_of_ble_eq_true rfl⟩ rfl rfl rfl (Nat.le_of_ble_eq_true rfl) dL_of_35 htb [⟨0, 317, 318, 98⟩] ⟨0, 317, 324, 100⟩ [⟨0, 317, 330, 102⟩] rfl (fun z hz => by cases List.mem_singleton.mp hz; exact ⟨by decide, _, lP_1, E.2.1.2.2.2.2.1.1⟩) rfl (by decide) lP_2 E.2.1.2.2.1.2.2.2.2.1 (fun q9 => ?_)
            refine rv_astore (q := 326) (lv' := [_, _, _, _, _, _, _]) E.x dL_of_324 (Nat.le_of_ble_eq_true rfl) rfl rfl rfl ?_
            refine rv_sipush (q := 329) E.x dL_of_326 rv_ksm1262 rfl ?_
            exact lk_iret E rfl ⟨Nat.le_of_ble_eq_true rfl, Nat.le_of_ble_eq_true rfl⟩ dL_of_329
          · intro hx; subst hx
            refine lk_cx (x := 3) (M1 := M) (hh := [(0, 317, 318, 98), (0, 317, 324, 100), (0, 317, 330, 102)]) E (fun u hI _ => ⟨_, Or.inl rfl, c11_tip_x E.2.2.1.1 hI e12⟩) gP_118 hX11_tip ⟨rfl, rfl⟩ ⟨Nat.le_of_ble_eq_true rfl, Nat.le_of_ble_eq_true rfl⟩ ⟨Nat.le_of_ble_eq_true rfl, Nat.le_of_ble_eq_true rfl⟩ rfl rfl rfl (Nat.le_of_ble_eq_true rfl) dL_of_35 htb [⟨0, 317, 318, 98⟩, ⟨0, 317, 324, 100⟩] ⟨0, 317, 330, 102⟩ [] rfl (fun z hz => by rcases List.mem_cons.mp hz with rfl | hz; exact ⟨by decide, _, lP_1, E.2.1.2.2.2.2.1.2.1⟩; cases List.mem_singleton.mp hz; exact ⟨by decide, _, lP_2, E.2.1.2.2.2.2.1.2.2⟩) rfl (by decide) lP_3 E.2.1.2.2.1.2.2.2.2.2.1 (fun q9 => ?_)
            refine rv_astore (q := 332) (lv' := [_, _, _, _, _, _, _]) E.x dL_of_330 (Nat.le_of_ble_eq_true rfl) rfl rfl rfl ?_
            refine rv_sipush (q := 335) E.x dL_of_332 rv_ksm1263 rfl ?_
            exact lk_iret E rfl ⟨Nat.le_of_ble_eq_true rfl, Nat.le_of_ble_eq_true rfl⟩ dL_of_335
      · refine rv_iload_n (q := 42) E.x dL_of_41 rfl rfl ?_
        refine rv_iconst (q := 43) E.x dL_of_42 rv_ki3 rfl ?_
        refine rv_icmp_ne (q := 46) (tgt := 54) E.x dL_of_43 (by decide) rfl ?_ ?_
        · refine rv_aload_n (q := 47) E.x dL_of_46 rfl rfl ?_
          refine rv_iload_n (q := 48) E.x dL_of_47 rfl rfl ?_
          refine lk_x1r (fun r14 e13 => ?_) (fun w15 e16 => ?_)
          · refine lk_ci (q := 51) (v := r14) (M1 := M) E (fun u hI _ => c11_namedAfter E.2.2.1.1 hI e13) gP_121 hX11_namedAfter ⟨rfl, rfl⟩ ⟨Nat.le_of_ble_eq_true rfl, Nat.le_of_ble_eq_true rfl⟩ ⟨Nat.le_of_ble_eq_true rfl, Nat.le_of_ble_eq_true rfl⟩ rfl rfl rfl (Nat.le_of_ble_eq_true rfl) dL_of_48 rfl ?_
            refine rv_goto (q := 317) E.x dL_of_51 (by decide) ?_
            exact lk_iret E rfl ⟨Nat.le_of_ble_eq_true rfl, Nat.le_of_ble_eq_true rfl⟩ dL_of_317
          · refine lk_hhr ?_ ?_ ?_
            · intro hx; subst hx
              refine lk_cx (x := 1) (M1 := M) (hh := [(0, 317, 318, 98), (0, 317, 324, 100), (0, 317, 330, 102)]) E (fun u hI _ => ⟨_, Or.inl rfl, c11_namedAfter_x E.2.2.1.1 hI e16⟩) gP_121 hX11_namedAfter ⟨rfl, rfl⟩ ⟨Nat.le_of_ble_eq_true rfl, Nat.le_of_ble_eq_true rfl⟩ ⟨Nat.le_of_ble_eq_true rfl, Nat.le_of_ble_eq_true rfl⟩ rfl rfl rfl (Nat.le_of_ble_eq_true rfl) dL_of_48 htb [] ⟨0, 317, 318, 98⟩ [⟨0, 317, 324, 100⟩, ⟨0, 317, 330, 102⟩] rfl (fun z hz => nomatch hz) rfl (by decide) lP_1 E.2.1.2.2.1.2.2.2.1 (fun q9 => ?_)
              refine rv_astore (q := 320) (lv' := [_, _, _, _, _, _, _]) E.x dL_of_318 (Nat.le_of_ble_eq_true rfl) rfl rfl rfl ?_
              refine rv_sipush (q := 323) E.x dL_of_320 rv_ksm1261 rfl ?_
              exact lk_iret E rfl ⟨Nat.le_of_ble_eq_true rfl, Nat.le_of_ble_eq_true rfl⟩ dL_of_323
            · intro hx; subst hx
              refine lk_cx (x := 2) (M1 := M) (hh := [(0, 317, 318, 98), (0, 317, 324, 100), (0, 317, 330, 102)]) E (fun u hI _ => ⟨_, Or.inl rfl, c11_namedAfter_x E.2.2.1.1 hI e16⟩) gP_121 hX11_namedAfter ⟨rfl, rfl⟩ ⟨Nat.le_of_ble_eq_true rfl, Nat.le_of_ble_eq_true rfl⟩ ⟨Nat.le_of_ble_eq_true rfl, Nat.le_of_ble_eq_true rfl⟩ rfl rfl rfl (Nat.le_of_ble_eq_true rfl) dL_of_48 htb [⟨0, 317, 318, 98⟩] ⟨0, 317, 324, 100⟩ [⟨0, 317, 330, 102⟩] rfl (fun z hz => by cases List.mem_singleton.mp hz; exact ⟨by decide, _, lP_1, E.2.1.2.2.2.2.1.1⟩) rfl (by decide) lP_2 E.2.1.2.2.1.2.2.2.2.1 (fun q9 => ?_)
              refine rv_astore (q := 326) (lv' := [_, _, _, _, _, _, _]) E.x dL_of_324 (Nat.le_of_ble_eq_true rfl) rfl rfl rfl ?_
              refine rv_sipush (q := 329) E.x dL_of_326 rv_ksm1262 rfl ?_
              exact lk_iret E rfl ⟨Nat.le_of_ble_eq_true rfl, Nat.le_of_ble_eq_true rfl⟩ dL_of_329
            · intro hx; subst hx
              refine lk_cx (x := 3) (M1 := M) (hh := [(0, 317, 318, 98), (0, 317, 324, 100), (0, 317, 330, 102)]) E (fun u hI _ => ⟨_, Or.inl rfl, c11_namedAfter_x E.2.2.1.1 hI e16⟩) gP_121 hX11_namedAfter ⟨rfl, rfl⟩ ⟨Nat.le_of_ble_eq_true rfl, Nat.le_of_ble_eq_true rfl⟩ ⟨Nat.le_of_ble_eq_true rfl, Nat.le_of_ble_eq_true rfl⟩ rfl rfl rfl (Nat.le_of_ble_eq_true rfl) dL_of_48 htb [⟨0, 317, 318, 98⟩, ⟨0, 317, 324, 100⟩] ⟨0, 317, 330, 102⟩ [] rfl (fun z hz => by rcases List.mem_cons.mp hz with rfl | hz; exact ⟨by decide, _, lP_1, E.2.1.2.2.2.2.1.2.1⟩; cases List.mem_singleton.mp hz; exact ⟨by decide, _, lP_2, E.2.1.2.2.2.2.1.2.2⟩) rfl (by decide) lP_3 E.2.1.2.2.1.2.2.2.2.2.1 (fun q9 => ?_)
              refine rv_astore (q := 332) (lv' := [_, _, _, _, _, _, _]) E.x dL_of_330 (Nat.le_of_ble_eq_true rfl) rfl rfl rfl ?_
              refine rv_sipush (q := 335) E.x dL_of_332 rv_ksm1263 rfl ?_
              exact lk_iret E rfl ⟨Nat.le_of_ble_eq_true rfl, Nat.le_of_ble_eq_true rfl⟩ dL_of_335
        · refine rv_iload_n (q := 55) E.x dL_of_54 rfl rfl ?_
          refine rv_iconst (q := 56) E.x dL_of_55 rv_ki4 rfl ?_
          refine rv_icmp_ne (q := 59) (tgt := 67) E.x dL_of_56 (by decide) rfl ?_ ?_
          · refine rv_aload_n (q := 60) E.x dL_of_59 rfl rfl ?_
            refine rv_iload_n (q := 61) E.x dL_of_60 rfl rfl ?_
            refine lk_x1r (fun r18 e17 => ?_) (fun w19 e20 => ?_)
            · refine lk_ci (q := 64) (v := r18) (M1 := M) E (fun u hI _ => c11_stateOf E.2.2.1.1 hI e17) gP_124 hX11_stateOf ⟨rfl, rfl⟩ ⟨Nat.le_of_ble_eq_true rfl, Nat.le_of_ble_eq_true rfl⟩ ⟨Nat.le_of_ble_eq_true rfl, Nat.le_of_ble_eq_true rfl⟩ rfl rfl rfl (Nat.le_of_ble_eq_true rfl) dL_of_61 rfl ?_
              refine rv_goto (q := 317) E.x dL_of_64 (by decide) ?_
              exact lk_iret E rfl ⟨Nat.le_of_ble_eq_true rfl, Nat.le_of_ble_eq_true rfl⟩ dL_of_317
            · refine lk_hhr ?_ ?_ ?_
              · intro hx; subst hx
                refine lk_cx (x := 1) (M1 := M) (hh := [(0, 317, 318, 98), (0, 317, 324, 100), (0, 317, 330, 102)]) E (fun u hI _ => ⟨_, Or.inl rfl, c11_stateOf_x E.2.2.1.1 hI e20⟩) gP_124 hX11_stateOf ⟨rfl, rfl⟩ ⟨Nat.le_of_ble_eq_true rfl, Nat.le_of_ble_eq_true rfl⟩ ⟨Nat.le_of_ble_eq_true rfl, Nat.le_of_ble_eq_true rfl⟩ rfl rfl rfl (Nat.le_of_ble_eq_true rfl) dL_of_61 htb [] ⟨0, 317, 318, 98⟩ [⟨0, 317, 324, 100⟩, ⟨0, 317, 330, 102⟩] rfl (fun z hz => nomatch hz) rfl (by decide) lP_1 E.2.1.2.2.1.2.2.2.1 (fun q9 => ?_)
                refine rv_astore (q := 320) (lv' := [_, _, _, _, _, _, _]) E.x dL_of_318 (Nat.le_of_ble_eq_true rfl) rfl rfl rfl ?_
                refine rv_sipush (q := 323) E.x dL_of_320 rv_ksm1261 rfl ?_
                exact lk_iret E rfl ⟨Nat.le_of_ble_eq_true rfl, Nat.le_of_ble_eq_true rfl⟩ dL_of_323
              · intro hx; subst hx
                refine lk_cx (x := 2) (M1 := M) (hh := [(0, 317, 318, 98), (0, 317, 324, 100), (0, 317, 330, 102)]) E (fun u hI _ => ⟨_, Or.inl rfl, c11_stateOf_x E.2.2.1.1 hI e20⟩) gP_124 hX11_stateOf ⟨rfl, rfl⟩ ⟨Nat.le_of_ble_eq_true rfl, Nat.le_of_ble_eq_true rfl⟩ ⟨Nat.le_of_ble_eq_true rfl, Nat.le_of_ble_eq_true rfl⟩ rfl rfl rfl (Nat.le_of_ble_eq_true rfl) dL_of_61 htb [⟨0, 317, 318, 98⟩] ⟨0, 317, 324, 100⟩ [⟨0, 317, 330, 102⟩] rfl (fun z hz => by cases List.mem_singleton.mp hz; exact ⟨by decide, _, lP_1, E.2.1.2.2.2.2.1.1⟩) rfl (by decide) lP_2 E.2.1.2.2.1.2.2.2.2.1 (fun q9 => ?_)
                refine rv_astore (q := 326) (lv' := [_, _, _, _, _, _, _]) E.x dL_of_324 (Nat.le_of_ble_eq_true rfl) rfl rfl rfl ?_
                refine rv_sipush (q := 329) E.x dL_of_326 rv_ksm1262 rfl ?_
                exact lk_iret E rfl ⟨Nat.le_of_ble_eq_true rfl, Nat.le_of_ble_eq_true rfl⟩ dL_of_329
              · intro hx; subst hx
                refine lk_cx (x := 3) (M1 := M) (hh := [(0, 317, 318, 98), (0, 317, 324, 100), (0, 317, 330, 102)]) E (fun u hI _ => ⟨_, Or.inl rfl, c11_stateOf_x E.2.2.1.1 hI e20⟩) gP_124 hX11_stateOf ⟨rfl, rfl⟩ ⟨Nat.le_of_ble_eq_true rfl, Nat.le_of_ble_eq_true rfl⟩ ⟨Nat.le_of_ble_eq_true rfl, Nat.le_of_ble_eq_true rfl⟩ rfl rfl rfl (Nat.le_of_ble_eq_true rfl) dL_of_61 htb [⟨0, 317, 318, 98⟩, ⟨0, 317, 324, 100⟩] ⟨0, 317, 330, 102⟩ [] rfl (fun z hz => by rcases List.mem_cons.mp hz with rfl | hz; exact ⟨by decide, _, lP_1, E.2.1.2.2.2.2.1.2.1⟩; cases List.mem_singleton.mp hz; exact ⟨by decide, _, lP_2, E.2.1.2.2.2.2.1.2.2⟩) rfl (by decide) lP_3 E.2.1.2.2.1.2.2.2.2.2.1 (fun q9 => ?_)
                refine rv_astore (q := 332) (lv' := [_, _, _, _, _, _, _]) E.x dL_of_330 (Nat.le_of_ble_eq_true rfl) rfl rfl rfl ?_
                refine rv_sipush (q := 335) E.x dL_of_332 rv_ksm1263 rfl ?_
                exact lk_iret E rfl ⟨Nat.le_of_ble_eq_true rfl, Nat.le_of_ble_eq_true rfl⟩ dL_of_335
          · refine rv_iload_n (q := 68) E.x dL_of_67 rfl rfl ?_
            refine rv_iconst (q := 69) E.x dL_of_68 rv_ki5 rfl ?_
            refine rv_icmp_ne (q := 72) (tgt := 80) E.x dL_of_69 (by decide) rfl ?_ ?_
            · refine rv_aload_n (q := 73) E.x dL_of_72 rfl rfl ?_
              refine rv_iload_n (q := 74) E.x dL_of_73 rfl rfl ?_
              refine lk_x1r (fun r22 e21 => ?_) (fun w23 e24 => ?_)
              · refine lk_ci (q := 77) (v := r22) (M1 := M) E (fun u hI _ => c11_sets E.2.2.1.1 hI e21) gP_127 hX11_sets ⟨rfl, rfl⟩ ⟨Nat.le_of_ble_eq_true rfl, Nat.le_of_ble_eq_true rfl⟩ ⟨Nat.le_of_ble_eq_true rfl, Nat.le_of_ble_eq_true rfl⟩ rfl rfl rfl (Nat.le_of_ble_eq_true rfl) dL_of_74 rfl ?_
                refine rv_goto (q := 317) E.x dL_of_77 (by decide) ?_
                exact lk_iret E rfl ⟨Nat.le_of_ble_eq_true rfl, Nat.le_of_ble_eq_true rfl⟩ dL_of_317
              · refine lk_hhr ?_ ?_ ?_
                · intro hx; subst hx
                  refine lk_cx (x := 1) (M1 := M) (hh := [(0, 317, 318, 98), (0, 317, 324, 100), (0, 317, 330, 102)]) E (fun u hI _ => ⟨_, Or.inl rfl, c11_sets_x E.2.2.1.1 hI e24⟩) gP_127 hX11_sets ⟨rfl, rfl⟩ ⟨Nat.le_of_ble_eq_true rfl, Nat.le_of_ble_eq_true rfl⟩ ⟨Nat.le_of_ble_eq_true rfl, Nat.le_of_ble_eq_true rfl⟩ rfl rfl rfl (Nat.le_of_ble_eq_true rfl) dL_of_74 htb [] ⟨0, 317, 318, 98⟩ [⟨0, 317, 324, 100⟩, ⟨0, 317, 330, 102⟩] rfl (fun z hz => nomatch hz) rfl (by decide) lP_1 E.2.1.2.2.1.2.2.2.1 (fun q9 => ?_)
                  refine rv_astore (q := 320) (lv' := [_, _, _, _, _, _, _]) E.x dL_of_318 (Nat.le_of_ble_eq_true rfl) rfl rfl rfl ?_
                  refine rv_sipush (q := 323) E.x dL_of_320 rv_ksm1261 rfl ?_
                  exact lk_iret E rfl ⟨Nat.le_of_ble_eq_true rfl, Nat.le_of_ble_eq_true rfl⟩ dL_of_323
                · intro hx; subst hx
                  refine lk_cx (x := 2) (M1 := M) (hh := [(0, 317, 318, 98), (0, 317, 324, 100), (0, 317, 330, 102)]) E (fun u hI _ => ⟨_, Or.inl rfl, c11_sets_x E.2.2.1.1 hI e24⟩) gP_127 hX11_sets ⟨rfl, rfl⟩ ⟨Nat.le_of_ble_eq_true rfl, Nat.le_of_ble_eq_true rfl⟩ ⟨Nat.le_of_ble_eq_true rfl, Nat.le_of_ble_eq_true rfl⟩ rfl rfl rfl (Nat.le_of_ble_eq_true rfl) dL_of_74 htb [⟨0, 317, 318, 98⟩] ⟨0, 317, 324, 100⟩ [⟨0, 317, 330, 102⟩] rfl (fun z hz => by cases List.mem_singleton.mp hz; exact ⟨by decide, _, lP_1, E.2.1.2.2.2.2.1.1⟩) rfl (by decide) lP_2 E.2.1.2.2.1.2.2.2.2.1 (fun q9 => ?_)
                  refine rv_astore (q := 326) (lv' := [_, _, _, _, _, _, _]) E.x dL_of_324 (Nat.le_of_ble_eq_true rfl) rfl rfl rfl ?_
                  refine rv_sipush (q := 329) E.x dL_of_326 rv_ksm1262 rfl ?_
                  exact lk_iret E rfl ⟨Nat.le_of_ble_eq_true rfl, Nat.le_of_ble_eq_true rfl⟩ dL_of_329
                · intro hx; subst hx
                  refine lk_cx (x := 3) (M1 := M) (hh := [(0, 317, 318, 98), (0, 317, 324, 100), (0, 317, 330, 102)]) E (fun u hI _ => ⟨_, Or.inl rfl, c11_sets_x E.2.2.1.1 hI e24⟩) gP_127 hX11_sets ⟨rfl, rfl⟩ ⟨Nat.le_of_ble_eq_true rfl, Nat.le_of_ble_eq_true rfl⟩ ⟨Nat.le_of_ble_eq_true rfl, Nat.le_of_ble_eq_true rfl⟩ rfl rfl rfl (Nat.le_of_ble_eq_true rfl) dL_of_74 htb [⟨0, 317, 318, 98⟩, ⟨0, 317, 324, 100⟩] ⟨0, 317, 330, 102⟩ [] rfl (fun z hz => by rcases List.mem_cons.mp hz with rfl | hz; exact ⟨by decide, _, lP_1, E.2.1.2.2.2.2.1.2.1⟩; cases List.mem_singleton.mp hz; exact ⟨by decide, _, lP_2, E.2.1.2.2.2.2.1.2.2⟩) rfl (by decide) lP_3 E.2.1.2.2.1.2.2.2.2.2.1 (fun q9 => ?_)
                  refine rv_astore (q := 332) (lv' := [_, _, _, _, _, _, _]) E.x dL_of_330 (Nat.le_of_ble_eq_true rfl) rfl rfl rfl ?_
                  refine rv_sipush (q := 335) E.x dL_of_332 rv_ksm1263 rfl ?_
                  exact lk_iret E rfl ⟨Nat.le_of_ble_eq_true rfl, Nat.le_of_ble_eq_true rfl⟩ dL_of_335
            · refine rv_iload_n (q := 81) E.x dL_of_80 rfl rfl ?_
              refine rv_bipush (q := 83) E.x dL_of_81 rv_kb6 rfl ?_
              refine rv_icmp_ne (q := 86) (tgt := 95) E.x dL_of_83 (by decide) rfl ?_ ?_
              · refine rv_aload_n (q := 87) E.x dL_of_86 rfl rfl ?_
                refine rv_iload_n (q := 88) E.x dL_of_87 rfl rfl ?_
                refine rv_iload_n (q := 89) E.x dL_of_88 rfl rfl ?_
                refine lk_x1r (fun r26 e25 => ?_) (fun w27 e28 => ?_)
                · refine lk_ci (q := 92) (v := r26) (M1 := M) E (fun u hI _ => c11_commitOf E.2.2.1.1 hI e25) gP_130 hX11_commitOf ⟨rfl, rfl⟩ ⟨Nat.le_of_ble_eq_true rfl, Nat.le_of_ble_eq_true rfl⟩ ⟨Nat.le_of_ble_eq_true rfl, Nat.le_of_ble_eq_true rfl⟩ rfl rfl rfl (Nat.le_of_ble_eq_true rfl) dL_of_89 rfl ?_
                  refine rv_goto (q := 317) E.x dL_of_92 (by decide) ?_
                  exact lk_iret E rfl ⟨Nat.le_of_ble_eq_true rfl, Nat.le_of_ble_eq_true rfl⟩ dL_of_317
                · refine lk_hhr ?_ ?_ ?_
                  · intro hx; subst hx
                    refine lk_cx (x := 1) (M1 := M) (hh := [(0, 317, 318, 98), (0, 317, 324, 100), (0, 317, 330, 102)]) E (fun u hI _ => ⟨_, Or.inl rfl, c11_commitOf_x E.2.2.1.1 hI e28⟩) gP_130 hX11_commitOf ⟨rfl, rfl⟩ ⟨Nat.le_of_ble_eq_true rfl, Nat.le_of_ble_eq_true rfl⟩ ⟨Nat.le_of_ble_eq_true rfl, Nat.le_of_ble_eq_true rfl⟩ rfl rfl rfl (Nat.le_of_ble_eq_true rfl) dL_of_89 htb [] ⟨0, 317, 318, 98⟩ [⟨0, 317, 324, 100⟩, ⟨0, 317, 330, 102⟩] rfl (fun z hz => nomatch hz) rfl (by decide) lP_1 E.2.1.2.2.1.2.2.2.1 (fun q9 => ?_)
                    refine rv_astore (q := 320) (lv' := [_, _, _, _, _, _, _]) E.x dL_of_318 (Nat.le_of_ble_eq_true rfl) rfl rfl rfl ?_
                    refine rv_sipush (q := 323) E.x dL_of_320 rv_ksm1261 rfl ?_
                    exact lk_iret E rfl ⟨Nat.le_of_ble_eq_true rfl, Nat.le_of_ble_eq_true rfl⟩ dL_of_323
                  · intro hx; subst hx
                    refine lk_cx (x := 2) (M1 := M) (hh := [(0, 317, 318, 98), (0, 317, 324, 100), (0, 317, 330, 102)]) E (fun u hI _ => ⟨_, Or.inl rfl, c11_commitOf_x E.2.2.1.1 hI e28⟩) gP_130 hX11_commitOf ⟨rfl, rfl⟩ ⟨Nat.le_of_ble_eq_true rfl, Nat.le_of_ble_eq_true rfl⟩ ⟨Nat.le_of_ble_eq_true rfl, Nat.le_of_ble_eq_true rfl⟩ rfl rfl rfl (Nat.le_of_ble_eq_true rfl) dL_of_89 htb [⟨0, 317, 318, 98⟩] ⟨0, 317, 324, 100⟩ [⟨0, 317, 330, 102⟩] rfl (fun z hz => by cases List.mem_singleton.mp hz; exact ⟨by decide, _, lP_1, E.2.1.2.2.2.2.1.1⟩) rfl (by decide) lP_2 E.2.1.2.2.1.2.2.2.2.1 (fun q9 => ?_)
                    refine rv_astore (q := 326) (lv' := [_, _, _, _, _, _, _]) E.x dL_of_324 (Nat.le_of_ble_eq_true rfl) rfl rfl rfl ?_
                    refine rv_sipush (q := 329) E.x dL_of_326 rv_ksm1262 rfl ?_
                    exact lk_iret E rfl ⟨Nat.le_of_ble_eq_true rfl, Nat.le_of_ble_eq_true rfl⟩ dL_of_329
                  · intro hx; subst hx
                    refine lk_cx (x := 3) (M1 := M) (hh := [(0, 317, 318, 98), (0, 317, 324, 100), (0, 317, 330, 102)]) E (fun u hI _ => ⟨_, Or.inl rfl, c11_commitOf_x E.2.2.1.1 hI e28⟩) gP_130 hX11_commitOf ⟨rfl, rfl⟩ ⟨Nat.le_of_ble_eq_true rfl, Nat.le_of_ble_eq_true rfl⟩ ⟨Nat.le_of_ble_eq_true rfl, Nat.le_of_ble_eq_true rfl⟩ rfl rfl rfl (Nat.le_of_ble_eq_true rfl) dL_of_89 htb [⟨0, 317, 318, 98⟩, ⟨0, 317, 324, 100⟩] ⟨0, 317, 330, 102⟩ [] rfl (fun z hz => by rcases List.mem_cons.mp hz with rfl | hz; exact ⟨by decide, _, lP_1, E.2.1.2.2.2.2.1.2.1⟩; cases List.mem_singleton.mp hz; exact ⟨by decide, _, lP_2, E.2.1.2.2.2.2.1.2.2⟩) rfl (by decide) lP_3 E.2.1.2.2.1.2.2.2.2.2.1 (fun q9 => ?_)
                    refine rv_astore (q := 332) (lv' := [_, _, _, _, _, _, _]) E.x dL_of_330 (Nat.le_of_ble_eq_true rfl) rfl rfl rfl ?_
                    refine rv_sipush (q := 335) E.x dL_of_332 rv_ksm1263 rfl ?_
                    exact lk_iret E rfl ⟨Nat.le_of_ble_eq_true rfl, Nat.le_of_ble_eq_true rfl⟩ dL_of_335
              · refine rv_iload_n (q := 96) E.x dL_of_95 rfl rfl ?_
                refine rv_bipush (q := 98) E.x dL_of_96 rv_kb7 rfl ?_
                refine rv_icmp_ne (q := 101) (tgt := 110) E.x dL_of_98 (by decide) rfl ?_ ?_
                · refine rv_aload_n (q := 102) E.x dL_of_101 rfl rfl ?_
                  refine rv_iload_n (q := 103) E.x dL_of_102 rfl rfl ?_
                  refine rv_iload_n (q := 104) E.x dL_of_103 rfl rfl ?_
                  refine lk_x1r (fun r30 e29 => ?_) (fun w31 e32 => ?_)
                  · refine lk_ci (q := 107) (v := r30) (M1 := M) E (fun u hI _ => c11_kindOf E.2.2.1.1 hI e29) gP_133 hX11_kindOf ⟨rfl, rfl⟩ ⟨Nat.le_of_ble_eq_true rfl, Nat.le_of_ble_eq_true rfl⟩ ⟨Nat.le_of_ble_eq_true rfl, Nat.le_of_ble_eq_true rfl⟩ rfl rfl rfl (Nat.le_of_ble_eq_true rfl) dL_of_104 rfl ?_
                    refine rv_goto (q := 317) E.x dL_of_107 (by decide) ?_
                    exact lk_iret E rfl ⟨Nat.le_of_ble_eq_true rfl, Nat.le_of_ble_eq_true rfl⟩ dL_of_317
                  · refine lk_hhr ?_ ?_ ?_
                    · intro hx; subst hx
                      refine lk_cx (x := 1) (M1 := M) (hh := [(0, 317, 318, 98), (0, 317, 324, 100), (0, 317, 330, 102)]) E (fun u hI _ => ⟨_, Or.inl rfl, c11_kindOf_x E.2.2.1.1 hI e32⟩) gP_133 hX11_kindOf ⟨rfl, rfl⟩ ⟨Nat.le_of_ble_eq_true rfl, Nat.le_of_ble_eq_true rfl⟩ ⟨Nat.le_of_ble_eq_true rfl, Nat.le_of_ble_eq_true rfl⟩ rfl rfl rfl (Nat.le_of_ble_eq_true rfl) dL_of_104 htb [] ⟨0, 317, 318, 98⟩ [⟨0, 317, 324, 100⟩, ⟨0, 317, 330, 102⟩] rfl (fun z hz => nomatch hz) rfl (by decide) lP_1 E.2.1.2.2.1.2.2.2.1 (fun q9 => ?_)
                      refine rv_astore (q := 320) (lv' := [_, _, _, _, _, _, _]) E.x dL_of_318 (Nat.le_of_ble_eq_true rfl) rfl rfl rfl ?_
                      refine rv_sipush (q := 323) E.x dL_of_320 rv_ksm1261 rfl ?_
                      exact lk_iret E rfl ⟨Nat.le_of_ble_eq_true rfl, Nat.le_of_ble_eq_true rfl⟩ dL_of_323
                    · intro hx; subst hx
                      refine lk_cx (x := 2) (M1 := M) (hh := [(0, 317, 318, 98), (0, 317, 324, 100), (0, 317, 330, 102)]) E (fun u hI _ => ⟨_, Or.inl rfl, c11_kindOf_x E.2.2.1.1 hI e32⟩) gP_133 hX11_kindOf ⟨rfl, rfl⟩ ⟨Nat.le_of_ble_eq_true rfl, Nat.le_of_ble_eq_true rfl⟩ ⟨Nat.le_of_ble_eq_true rfl, Nat.le_of_ble_eq_true rfl⟩ rfl rfl rfl (Nat.le_of_ble_eq_true rfl) dL_of_104 htb [⟨0, 317, 318, 98⟩] ⟨0, 317, 324, 100⟩ [⟨0, 317, 330, 102⟩] rfl (fun z hz => by cases List.mem_singleton.mp hz; exact ⟨by decide, _, lP_1, E.2.1.2.2.2.2.1.1⟩) rfl (by decide) lP_2 E.2.1.2.2.1.2.2.2.2.1 (fun q9 => ?_)
                      refine rv_astore (q := 326) (lv' := [_, _, _, _, _, _, _]) E.x dL_of_324 (Nat.le_of_ble_eq_true rfl) rfl rfl rfl ?_
                      refine rv_sipush (q := 329) E.x dL_of_326 rv_ksm1262 rfl ?_
                      exact lk_iret E rfl ⟨Nat.le_of_ble_eq_true rfl, Nat.le_of_ble_eq_true rfl⟩ dL_of_329
                    · intro hx; subst hx
                      refine lk_cx (x := 3) (M1 := M) (hh := [(0, 317, 318, 98), (0, 317, 324, 100), (0, 317, 330, 102)]) E (fun u hI _ => ⟨_, Or.inl rfl, c11_kindOf_x E.2.2.1.1 hI e32⟩) gP_133 hX11_kindOf ⟨rfl, rfl⟩ ⟨Nat.le_of_ble_eq_true rfl, Nat.le_of_ble_eq_true rfl⟩ ⟨Nat.le_of_ble_eq_true rfl, Nat.le_of_ble_eq_true rfl⟩ rfl rfl rfl (Nat.le_of_ble_eq_true rfl) dL_of_104 htb [⟨0, 317, 318, 98⟩, ⟨0, 317, 324, 100⟩] ⟨0, 317, 330, 102⟩ [] rfl (fun z hz => by rcases List.mem_cons.mp hz with rfl | hz; exact ⟨by decide, _, lP_1, E.2.1.2.2.2.2.1.2.1⟩; cases List.mem_singleton.mp hz; exact ⟨by decide, _, lP_2, E.2.1.2.2.2.2.1.2.2⟩) rfl (by decide) lP_3 E.2.1.2.2.1.2.2.2.2.2.1 (fun q9 => ?_)
                      refine rv_astore (q := 332) (lv' := [_, _, _, _, _, _, _]) E.x dL_of_330 (Nat.le_of_ble_eq_true rfl) rfl rfl rfl ?_
                      refine rv_sipush (q := 335) E.x dL_of_332 rv_ksm1263 rfl ?_
                      exact lk_iret E rfl ⟨Nat.le_of_ble_eq_true rfl, Nat.le_of_ble_eq_true rfl⟩ dL_of_335
                · refine rv_iload_n (q := 111) E.x dL_of_110 rfl rfl ?_
                  refine rv_bipush (q := 113) E.x dL_of_111 rv_kb8 rfl ?_
                  refine rv_icmp_ne (q := 116) (tgt := 124) E.x dL_of_113 (by decide) rfl ?_ ?_
                  · refine rv_aload_n (q := 117) E.x dL_of_116 rfl rfl ?_
                    refine rv_iload_n (q := 118) E.x dL_of_117 rfl rfl ?_
                    refine lk_x1r (fun r34 e33 => ?_) (fun w35 e36 => ?_)
                    · refine lk_ci (q := 121) (v := r34) (M1 := M) E (fun u hI _ => c11_parentOf E.2.2.1.1 hI e33) gP_136 hX11_parentOf ⟨rfl, rfl⟩ ⟨Nat.le_of_ble_eq_true rfl, Nat.le_of_ble_eq_true rfl⟩ ⟨Nat.le_of_ble_eq_true rfl, Nat.le_of_ble_eq_true rfl⟩ rfl rfl rfl (Nat.le_of_ble_eq_true rfl) dL_of_118 rfl ?_
                      refine rv_goto (q := 317) E.x dL_of_121 (by decide) ?_
                      exact lk_iret E rfl ⟨Nat.le_of_ble_eq_true rfl, Nat.le_of_ble_eq_true rfl⟩ dL_of_317
                    · refine lk_hhr ?_ ?_ ?_
                      · intro hx; subst hx
                        refine lk_cx (x := 1) (M1 := M) (hh := [(0, 317, 318, 98), (0, 317, 324, 100), (0, 317, 330, 102)]) E (fun u hI _ => ⟨_, Or.inl rfl, c11_parentOf_x E.2.2.1.1 hI e36⟩) gP_136 hX11_parentOf ⟨rfl, rfl⟩ ⟨Nat.le_of_ble_eq_true rfl, Nat.le_of_ble_eq_true rfl⟩ ⟨Nat.le_of_ble_eq_true rfl, Nat.le_of_ble_eq_true rfl⟩ rfl rfl rfl (Nat.le_of_ble_eq_true rfl) dL_of_118 htb [] ⟨0, 317, 318, 98⟩ [⟨0, 317, 324, 100⟩, ⟨0, 317, 330, 102⟩] rfl (fun z hz => nomatch hz) rfl (by decide) lP_1 E.2.1.2.2.1.2.2.2.1 (fun q9 => ?_)
                        refine rv_astore (q := 320) (lv' := [_, _, _, _, _, _, _]) E.x dL_of_318 (Nat.le_of_ble_eq_true rfl) rfl rfl rfl ?_
                        refine rv_sipush (q := 323) E.x dL_of_320 rv_ksm1261 rfl ?_
                        exact lk_iret E rfl ⟨Nat.le_of_ble_eq_true rfl, Nat.le_of_ble_eq_true rfl⟩ dL_of_323
                      · intro hx; subst hx
                        refine lk_cx (x := 2) (M1 := M) (hh := [(0, 317, 318, 98), (0, 317, 324, 100), (0, 317, 330, 102)]) E (fun u hI _ => ⟨_, Or.inl rfl, c11_parentOf_x E.2.2.1.1 hI e36⟩) gP_136 hX11_parentOf ⟨rfl, rfl⟩ ⟨Nat.le_of_ble_eq_true rfl, Nat.le_of_ble_eq_true rfl⟩ ⟨Nat.le_of_ble_eq_true rfl, Nat.le_of_ble_eq_true rfl⟩ rfl rfl rfl (Nat.le_of_ble_eq_true rfl) dL_of_118 htb [⟨0, 317, 318, 98⟩] ⟨0, 317, 324, 100⟩ [⟨0, 317, 330, 102⟩] rfl (fun z hz => by cases List.mem_singleton.mp hz; exact ⟨by decide, _, lP_1, E.2.1.2.2.2.2.1.1⟩) rfl (by decide) lP_2 E.2.1.2.2.1.2.2.2.2.1 (fun q9 => ?_)
                        refine rv_astore (q := 326) (lv' := [_, _, _, _, _, _, _]) E.x dL_of_324 (Nat.le_of_ble_eq_true rfl) rfl rfl rfl ?_
                        refine rv_sipush (q := 329) E.x dL_of_326 rv_ksm1262 rfl ?_
                        exact lk_iret E rfl ⟨Nat.le_of_ble_eq_true rfl, Nat.le_of_ble_eq_true rfl⟩ dL_of_329
                      · intro hx; subst hx
                        refine lk_cx (x := 3) (M1 := M) (hh := [(0, 317, 318, 98), (0, 317, 324, 100), (0, 317, 330, 102)]) E (fun u hI _ => ⟨_, Or.inl rfl, c11_parentOf_x E.2.2.1.1 hI e36⟩) gP_136 hX11_parentOf ⟨rfl, rfl⟩ ⟨Nat.le_of_ble_eq_true rfl, Nat.le_of_ble_eq_true rfl⟩ ⟨Nat.le_of_ble_eq_true rfl, Nat.le_of_ble_eq_true rfl⟩ rfl rfl rfl (Nat.le_of_ble_eq_true rfl) dL_of_118 htb [⟨0, 317, 318, 98⟩, ⟨0, 317, 324, 100⟩] ⟨0, 317, 330, 102⟩ [] rfl (fun z hz => by rcases List.mem_cons.mp hz with rfl | hz; exact ⟨by decide, _, lP_1, E.2.1.2.2.2.2.1.2.1⟩; cases List.mem_singleton.mp hz; exact ⟨by decide, _, lP_2, E.2.1.2.2.2.2.1.2.2⟩) rfl (by decide) lP_3 E.2.1.2.2.1.2.2.2.2.2.1 (fun q9 => ?_)
                        refine rv_astore (q := 332) (lv' := [_, _, _, _, _, _, _]) E.x dL_of_330 (Nat.le_of_ble_eq_true rfl) rfl rfl rfl ?_
                        refine rv_sipush (q := 335) E.x dL_of_332 rv_ksm1263 rfl ?_
                        exact lk_iret E rfl ⟨Nat.le_of_ble_eq_true rfl, Nat.le_of_ble_eq_true rfl⟩ dL_of_335
                  · refine rv_iload_n (q := 125) E.x dL_of_124 rfl rfl ?_
                    refine rv_bipush (q := 127) E.x dL_of_125 rv_kb9 rfl ?_
                    refine rv_icmp_ne (q := 130) (tgt := 139) E.x dL_of_127 (by decide) rfl ?_ ?_
                    · refine rv_aload_n (q := 131) E.x dL_of_130 rfl rfl ?_
                      refine rv_iload_n (q := 132) E.x dL_of_131 rfl rfl ?_
                      refine rv_iload_n (q := 133) E.x dL_of_132 rfl rfl ?_
                      refine lk_x1r (fun r38 e37 => ?_) (fun w39 e40 => ?_)
                      · refine lk_ci (q := 136) (v := r38) (M1 := M) E (fun u hI _ => c11_owners E.2.2.1.1 hI e37) gP_139 hX11_owners ⟨rfl, rfl⟩ ⟨Nat.le_of_ble_eq_true rfl, Nat.le_of_ble_eq_true rfl⟩ ⟨Nat.le_of_ble_eq_true rfl, Nat.le_of_ble_eq_true rfl⟩ rfl rfl rfl (Nat.le_of_ble_eq_true rfl) dL_of_133 rfl ?_
                        refine rv_goto (q := 317) E.x dL_of_136 (by decide) ?_
                        exact lk_iret E rfl ⟨Nat.le_of_ble_eq_true rfl, Nat.le_of_ble_eq_true rfl⟩ dL_of_317
                      · refine lk_hhr ?_ ?_ ?_
                        · intro hx; subst hx
                          refine lk_cx (x := 1) (M1 := M) (hh := [(0, 317, 318, 98), (0, 317, 324, 100), (0, 317, 330, 102)]) E (fun u hI _ => ⟨_, Or.inl rfl, c11_owners_x E.2.2.1.1 hI e40⟩) gP_139 hX11_owners ⟨rfl, rfl⟩ ⟨Nat.le_of_ble_eq_true rfl, Nat.le_of_ble_eq_true rfl⟩ ⟨Nat.le_of_ble_eq_true rfl, Nat.le_of_ble_eq_true rfl⟩ rfl rfl rfl (Nat.le_of_ble_eq_true rfl) dL_of_133 htb [] ⟨0, 317, 318, 98⟩ [⟨0, 317, 324, 100⟩, ⟨0, 317, 330, 102⟩] rfl (fun z hz => nomatch hz) rfl (by decide) lP_1 E.2.1.2.2.1.2.2.2.1 (fun q9 => ?_)
                          refine rv_astore (q := 320) (lv' := [_, _, _, _, _, _, _]) E.x dL_of_318 (Nat.le_of_ble_eq_true rfl) rfl rfl rfl ?_
                          refine rv_sipush (q := 323) E.x dL_of_320 rv_ksm1261 rfl ?_
                          exact lk_iret E rfl ⟨Nat.le_of_ble_eq_true rfl, Nat.le_of_ble_eq_true rfl⟩ dL_of_323
                        · intro hx; subst hx
                          refine lk_cx (x := 2) (M1 := M) (hh := [(0, 317, 318, 98), (0, 317, 324, 100), (0, 317, 330, 102)]) E (fun u hI _ => ⟨_, Or.inl rfl, c11_owners_x E.2.2.1.1 hI e40⟩) gP_139 hX11_owners ⟨rfl, rfl⟩ ⟨Nat.le_of_ble_eq_true rfl, Nat.le_of_ble_eq_true rfl⟩ ⟨Nat.le_of_ble_eq_true rfl, Nat.le_of_ble_eq_true rfl⟩ rfl rfl rfl (Nat.le_of_ble_eq_true rfl) dL_of_133 htb [⟨0, 317, 318, 98⟩] ⟨0, 317, 324, 100⟩ [⟨0, 317, 330, 102⟩] rfl (fun z hz => by cases List.mem_singleton.mp hz; exact ⟨by decide, _, lP_1, E.2.1.2.2.2.2.1.1⟩) rfl (by decide) lP_2 E.2.1.2.2.1.2.2.2.2.1 (fun q9 => ?_)
                          refine rv_astore (q := 326) (lv' := [_, _, _, _, _, _, _]) E.x dL_of_324 (Nat.le_of_ble_eq_true rfl) rfl rfl rfl ?_
                          refine rv_sipush (q := 329) E.x dL_of_326 rv_ksm1262 rfl ?_
                          exact lk_iret E rfl ⟨Nat.le_of_ble_eq_true rfl, Nat.le_of_ble_eq_true rfl⟩ dL_of_329
                        · intro hx; subst hx
                          refine lk_cx (x := 3) (M1 := M) (hh := [(0, 317, 318, 98), (0, 317, 324, 100), (0, 317, 330, 102)]) E (fun u hI _ => ⟨_, Or.inl rfl, c11_owners_x E.2.2.1.1 hI e40⟩) gP_139 hX11_owners ⟨rfl, rfl⟩ ⟨Nat.le_of_ble_eq_true rfl, Nat.le_of_ble_eq_true rfl⟩ ⟨Nat.le_of_ble_eq_true rfl, Nat.le_of_ble_eq_true rfl⟩ rfl rfl rfl (Nat.le_of_ble_eq_true rfl) dL_of_133 htb [⟨0, 317, 318, 98⟩, ⟨0, 317, 324, 100⟩] ⟨0, 317, 330, 102⟩ [] rfl (fun z hz => by rcases List.mem_cons.mp hz with rfl | hz; exact ⟨by decide, _, lP_1, E.2.1.2.2.2.2.1.2.1⟩; cases List.mem_singleton.mp hz; exact ⟨by decide, _, lP_2, E.2.1.2.2.2.2.1.2.2⟩) rfl (by decide) lP_3 E.2.1.2.2.1.2.2.2.2.2.1 (fun q9 => ?_)
                          refine rv_astore (q := 332) (lv' := [_, _, _, _, _, _, _]) E.x dL_of_330 (Nat.le_of_ble_eq_true rfl) rfl rfl rfl ?_
                          refine rv_sipush (q := 335) E.x dL_of_332 rv_ksm1263 rfl ?_
                          exact lk_iret E rfl ⟨Nat.le_of_ble_eq_true rfl, Nat.le_of_ble_eq_true rfl⟩ dL_of_335
                    · refine rv_iload_n (q := 140) E.x dL_of_139 rfl rfl ?_
                      refine rv_bipush (q := 142) E.x dL_of_140 rv_kb10 rfl ?_
                      refine rv_icmp_ne (q := 145) (tgt := 158) E.x dL_of_142 (by decide) rfl ?_ ?_
                      · refine rv_aload_n (q := 146) E.x dL_of_145 rfl rfl ?_
                        refine rv_iload_n (q := 147) E.x dL_of_146 rfl rfl ?_
                        refine rv_iload_n (q := 148) E.x dL_of_147 rfl rfl ?_
                        refine rv_iload (q := 150) E.x dL_of_148 rfl rfl ?_
                        refine rv_iload (q := 152) E.x dL_of_150 rfl rfl ?_
                        refine lk_x1r (fun r42 e41 => ?_) (fun w43 e44 => ?_)
                        · refine lk_ci (q := 155) (v := r42) (M1 := M) E (fun u hI _ => c11_worth E.2.2.1.1 hI e41) gP_142 hX11_worth ⟨rfl, rfl⟩ ⟨Nat.le_of_ble_eq_true rfl, Nat.le_of_ble_eq_true rfl⟩ ⟨Nat.le_of_ble_eq_true rfl, Nat.le_of_ble_eq_true rfl⟩ rfl rfl rfl (Nat.le_of_ble_eq_true rfl) dL_of_152 rfl ?_
                          refine rv_goto (q := 317) E.x dL_of_155 (by decide) ?_
                          exact lk_iret E rfl ⟨Nat.le_of_ble_eq_true rfl, Nat.le_of_ble_eq_true rfl⟩ dL_of_317
                        · refine lk_hhr ?_ ?_ ?_
                          · intro hx; subst hx
                            refine lk_cx (x := 1) (M1 := M) (hh := [(0, 317, 318, 98), (0, 317, 324, 100), (0, 317, 330, 102)]) E (fun u hI _ => ⟨_, Or.inl rfl, c11_worth_x E.2.2.1.1 hI e44⟩) gP_142 hX11_worth ⟨rfl, rfl⟩ ⟨Nat.le_of_ble_eq_true rfl, Nat.le_of_ble_eq_true rfl⟩ ⟨Nat.le_of_ble_eq_true rfl, Nat.le_of_ble_eq_true rfl⟩ rfl rfl rfl (Nat.le_of_ble_eq_true rfl) dL_of_152 htb [] ⟨0, 317, 318, 98⟩ [⟨0, 317, 324, 100⟩, ⟨0, 317, 330, 102⟩] rfl (fun z hz => nomatch hz) rfl (by decide) lP_1 E.2.1.2.2.1.2.2.2.1 (fun q9 => ?_)
                            refine rv_astore (q := 320) (lv' := [_, _, _, _, _, _, _]) E.x dL_of_318 (Nat.le_of_ble_eq_true rfl) rfl rfl rfl ?_
                            refine rv_sipush (q := 323) E.x dL_of_320 rv_ksm1261 rfl ?_
                            exact lk_iret E rfl ⟨Nat.le_of_ble_eq_true rfl, Nat.le_of_ble_eq_true rfl⟩ dL_of_323
                          · intro hx; subst hx
                            refine lk_cx (x := 2) (M1 := M) (hh := [(0, 317, 318, 98), (0, 317, 324, 100), (0, 317, 330, 102)]) E (fun u hI _ => ⟨_, Or.inl rfl, c11_worth_x E.2.2.1.1 hI e44⟩) gP_142 hX11_worth ⟨rfl, rfl⟩ ⟨Nat.le_of_ble_eq_true rfl, Nat.le_of_ble_eq_true rfl⟩ ⟨Nat.le_of_ble_eq_true rfl, Nat.le_of_ble_eq_true rfl⟩ rfl rfl rfl (Nat.le_of_ble_eq_true rfl) dL_of_152 htb [⟨0, 317, 318, 98⟩] ⟨0, 317, 324, 100⟩ [⟨0, 317, 330, 102⟩] rfl (fun z hz => by cases List.mem_singleton.mp hz; exact ⟨by decide, _, lP_1, E.2.1.2.2.2.2.1.1⟩) rfl (by decide) lP_2 E.2.1.2.2.1.2.2.2.2.1 (fun q9 => ?_)
                            refine rv_astore (q := 326) (lv' := [_, _, _, _, _, _, _]) E.x dL_of_324 (Nat.le_of_ble_eq_true rfl) rfl rfl rfl ?_
                            refine rv_sipush (q := 329) E.x dL_of_326 rv_ksm1262 rfl ?_
                            exact lk_iret E rfl ⟨Nat.le_of_ble_eq_true rfl, Nat.le_of_ble_eq_true rfl⟩ dL_of_329
                          · intro hx; subst hx
                            refine lk_cx (x := 3) (M1 := M) (hh := [(0, 317, 318, 98), (0, 317, 324, 100), (0, 317, 330, 102)]) E (fun u hI _ => ⟨_, Or.inl rfl, c11_worth_x E.2.2.1.1 hI e44⟩) gP_142 hX11_worth ⟨rfl, rfl⟩ ⟨Nat.le_of_ble_eq_true rfl, Nat.le_of_ble_eq_true rfl⟩ ⟨Nat.le_of_ble_eq_true rfl, Nat.le_of_ble_eq_true rfl⟩ rfl rfl rfl (Nat.le_of_ble_eq_true rfl) dL_of_152 htb [⟨0, 317, 318, 98⟩, ⟨0, 317, 324, 100⟩] ⟨0, 317, 330, 102⟩ [] rfl (fun z hz => by rcases List.mem_cons.mp hz with rfl | hz; exact ⟨by decide, _, lP_1, E.2.1.2.2.2.2.1.2.1⟩; cases List.mem_singleton.mp hz; exact ⟨by decide, _, lP_2, E.2.1.2.2.2.2.1.2.2⟩) rfl (by decide) lP_3 E.2.1.2.2.1.2.2.2.2.2.1 (fun q9 => ?_)
                            refine rv_astore (q := 332) (lv' := [_, _, _, _, _, _, _]) E.x dL_of_330 (Nat.le_of_ble_eq_true rfl) rfl rfl rfl ?_
                            refine rv_sipush (q := 335) E.x dL_of_332 rv_ksm1263 rfl ?_
                            exact lk_iret E rfl ⟨Nat.le_of_ble_eq_true rfl, Nat.le_of_ble_eq_true rfl⟩ dL_of_335
                      · refine rv_iload_n (q := 159) E.x dL_of_158 rfl rfl ?_
                        refine rv_bipush (q := 161) E.x dL_of_159 rv_kb11 rfl ?_
                        refine rv_icmp_ne (q := 164) (tgt := 172) E.x dL_of_161 (by decide) rfl ?_ ?_
                        · refine rv_aload_n (q := 165) E.x dL_of_164 rfl rfl ?_
                          refine rv_iload_n (q := 166) E.x dL_of_165 rfl rfl ?_
                          refine lk_x1r (fun r46 e45 => ?_) (fun w47 e48 => ?_)
                          · refine lk_ci (q := 169) (v := r46) (M1 := M) E (fun u hI _ => c11_statements E.2.2.1.1 hI e45) gP_146 hX11_statements ⟨rfl, rfl⟩ ⟨Nat.le_of_ble_eq_true rfl, Nat.le_of_ble_eq_true rfl⟩ ⟨Nat.le_of_ble_eq_true rfl, Nat.le_of_ble_eq_true rfl⟩ rfl rfl rfl (Nat.le_of_ble_eq_true rfl) dL_of_166 rfl ?_
                            refine rv_goto (q := 317) E.x dL_of_169 (by decide) ?_
                            exact lk_iret E rfl ⟨Nat.le_of_ble_eq_true rfl, Nat.le_of_ble_eq_true rfl⟩ dL_of_317
                          · refine lk_hhr ?_ ?_ ?_
                            · intro hx; subst hx
                              refine lk_cx (x := 1) (M1 := M) (hh := [(0, 317, 318, 98), (0, 317, 324, 100), (0, 317, 330, 102)]) E (fun u hI _ => ⟨_, Or.inl rfl, c11_statements_x E.2.2.1.1 hI e48⟩) gP_146 hX11_statements ⟨rfl, rfl⟩ ⟨Nat.le_of_ble_eq_true rfl, Nat.le_of_ble_eq_true rfl⟩ ⟨Nat.le_of_ble_eq_true rfl, Nat.le_of_ble_eq_true rfl⟩ rfl rfl rfl (Nat.le_of_ble_eq_true rfl) dL_of_166 htb [] ⟨0, 317, 318, 98⟩ [⟨0, 317, 324, 100⟩, ⟨0, 317, 330, 102⟩] rfl (fun z hz => nomatch hz) rfl (by decide) lP_1 E.2.1.2.2.1.2.2.2.1 (fun q9 => ?_)
                              refine rv_astore (q := 320) (lv' := [_, _, _, _, _, _, _]) E.x dL_of_318 (Nat.le_of_ble_eq_true rfl) rfl rfl rfl ?_
                              refine rv_sipush (q := 323) E.x dL_of_320 rv_ksm1261 rfl ?_
                              exact lk_iret E rfl ⟨Nat.le_of_ble_eq_true rfl, Nat.le_of_ble_eq_true rfl⟩ dL_of_323
                            · intro hx; subst hx
                              refine lk_cx (x := 2) (M1 := M) (hh := [(0, 317, 318, 98), (0, 317, 324, 100), (0, 317, 330, 102)]) E (fun u hI _ => ⟨_, Or.inl rfl, c11_statements_x E.2.2.1.1 hI e48⟩) gP_146 hX11_statements ⟨rfl, rfl⟩ ⟨Nat.le_of_ble_eq_true rfl, Nat.le_of_ble_eq_true rfl⟩ ⟨Nat.le_of_ble_eq_true rfl, Nat.le_of_ble_eq_true rfl⟩ rfl rfl rfl (Nat.le_of_ble_eq_true rfl) dL_of_166 htb [⟨0, 317, 318, 98⟩] ⟨0, 317, 324, 100⟩ [⟨0, 317, 330, 102⟩] rfl (fun z hz => by cases List.mem_singleton.mp hz; exact ⟨by decide, _, lP_1, E.2.1.2.2.2.2.1.1⟩) rfl (by decide) lP_2 E.2.1.2.2.1.2.2.2.2.1 (fun q9 => ?_)
                              refine rv_astore (q := 326) (lv' := [_, _, _, _, _, _, _]) E.x dL_of_324 (Nat.le_of_ble_eq_true rfl) rfl rfl rfl ?_
                              refine rv_sipush (q := 329) E.x dL_of_326 rv_ksm1262 rfl ?_
                              exact lk_iret E rfl ⟨Nat.le_of_ble_eq_true rfl, Nat.le_of_ble_eq_true rfl⟩ dL_of_329
                            · intro hx; subst hx
                              refine lk_cx (x := 3) (M1 := M) (hh := [(0, 317, 318, 98), (0, 317, 324, 100), (0, 317, 330, 102)]) E (fun u hI _ => ⟨_, Or.inl rfl, c11_statements_x E.2.2.1.1 hI e48⟩) gP_146 hX11_statements ⟨rfl, rfl⟩ ⟨Nat.le_of_ble_eq_true rfl, Nat.le_of_ble_eq_true rfl⟩ ⟨Nat.le_of_ble_eq_true rfl, Nat.le_of_ble_eq_true rfl⟩ rfl rfl rfl (Nat.le_of_ble_eq_true rfl) dL_of_166 htb [⟨0, 317, 318, 98⟩, ⟨0, 317, 324, 100⟩] ⟨0, 317, 330, 102⟩ [] rfl (fun z hz => by rcases List.mem_cons.mp hz with rfl | hz; exact ⟨by decide, _, lP_1, E.2.1.2.2.2.2.1.2.1⟩; cases List.mem_singleton.mp hz; exact ⟨by decide, _, lP_2, E.2.1.2.2.2.2.1.2.2⟩) rfl (by decide) lP_3 E.2.1.2.2.1.2.2.2.2.2.1 (fun q9 => ?_)
                              refine rv_astore (q := 332) (lv' := [_, _, _, _, _, _, _]) E.x dL_of_330 (Nat.le_of_ble_eq_true rfl) rfl rfl rfl ?_
                              refine rv_sipush (q := 335) E.x dL_of_332 rv_ksm1263 rfl ?_
                              exact lk_iret E rfl ⟨Nat.le_of_ble_eq_true rfl, Nat.le_of_ble_eq_true rfl⟩ dL_of_335
                        · refine rv_iload_n (q := 173) E.x dL_of_172 rfl rfl ?_
                          refine rv_bipush (q := 175) E.x dL_of_173 rv_kb12 rfl ?_
                          refine rv_icmp_ne (q := 178) (tgt := 186) E.x dL_of_175 (by decide) rfl ?_ ?_
                          · refine rv_aload_n (q := 179) E.x dL_of_178 rfl rfl ?_
                            refine rv_iload_n (q := 180) E.x dL_of_179 rfl rfl ?_
                            refine lk_x1r (fun r50 e49 => ?_) (fun w51 e52 => ?_)
                            · refine lk_ci (q := 183) (v := r50) (M1 := M) E (fun u hI _ => c11_group E.2.2.1.1 hI e49) gP_149 hX11_group ⟨rfl, rfl⟩ ⟨Nat.le_of_ble_eq_true rfl, Nat.le_of_ble_eq_true rfl⟩ ⟨Nat.le_of_ble_eq_true rfl, Nat.le_of_ble_eq_true rfl⟩ rfl rfl rfl (Nat.le_of_ble_eq_true rfl) dL_of_180 rfl ?_
                              refine rv_goto (q := 317) E.x dL_of_183 (by decide) ?_
                              exact lk_iret E rfl ⟨Nat.le_of_ble_eq_true rfl, Nat.le_of_ble_eq_true rfl⟩ dL_of_317
                            · refine lk_hhr ?_ ?_ ?_
                              · intro hx; subst hx
                                refine lk_cx (x := 1) (M1 := M) (hh := [(0, 317, 318, 98), (0, 317, 324, 100), (0, 317, 330, 102)]) E (fun u hI _ => ⟨_, Or.inl rfl, c11_group_x E.2.2.1.1 hI e52⟩) gP_149 hX11_group ⟨rfl, rfl⟩ ⟨Nat.le_of_ble_eq_true rfl, Nat.le_of_ble_eq_true rfl⟩ ⟨Nat.le_of_ble_eq_true rfl, Nat.le_of_ble_eq_true rfl⟩ rfl rfl rfl (Nat.le_of_ble_eq_true rfl) dL_of_180 htb [] ⟨0, 317, 318, 98⟩ [⟨0, 317, 324, 100⟩, ⟨0, 317, 330, 102⟩] rfl (fun z hz => nomatch hz) rfl (by decide) lP_1 E.2.1.2.2.1.2.2.2.1 (fun q9 => ?_)
                                refine rv_astore (q := 320) (lv' := [_, _, _, _, _, _, _]) E.x dL_of_318 (Nat.le_of_ble_eq_true rfl) rfl rfl rfl ?_
                                refine rv_sipush (q := 323) E.x dL_of_320 rv_ksm1261 rfl ?_
                                exact lk_iret E rfl ⟨Nat.le_of_ble_eq_true rfl, Nat.le_of_ble_eq_true rfl⟩ dL_of_323
                              · intro hx; subst hx
                                refine lk_cx (x := 2) (M1 := M) (hh := [(0, 317, 318, 98), (0, 317, 324, 100), (0, 317, 330, 102)]) E (fun u hI _ => ⟨_, Or.inl rfl, c11_group_x E.2.2.1.1 hI e52⟩) gP_149 hX11_group ⟨rfl, rfl⟩ ⟨Nat.le_of_ble_eq_true rfl, Nat.le_of_ble_eq_true rfl⟩ ⟨Nat.le_of_ble_eq_true rfl, Nat.le_of_ble_eq_true rfl⟩ rfl rfl rfl (Nat.le_of_ble_eq_true rfl) dL_of_180 htb [⟨0, 317, 318, 98⟩] ⟨0, 317, 324, 100⟩ [⟨0, 317, 330, 102⟩] rfl (fun z hz => by cases List.mem_singleton.mp hz; exact ⟨by decide, _, lP_1, E.2.1.2.2.2.2.1.1⟩) rfl (by decide) lP_2 E.2.1.2.2.1.2.2.2.2.1 (fun q9 => ?_)
                                refine rv_astore (q := 326) (lv' := [_, _, _, _, _, _, _]) E.x dL_of_324 (Nat.le_of_ble_eq_true rfl) rfl rfl rfl ?_
                                refine rv_sipush (q := 329) E.x dL_of_326 rv_ksm1262 rfl ?_
                                exact lk_iret E rfl ⟨Nat.le_of_ble_eq_true rfl, Nat.le_of_ble_eq_true rfl⟩ dL_of_329
                              · intro hx; subst hx
                                refine lk_cx (x := 3) (M1 := M) (hh := [(0, 317, 318, 98), (0, 317, 324, 100), (0, 317, 330, 102)]) E (fun u hI _ => ⟨_, Or.inl rfl, c11_group_x E.2.2.1.1 hI e52⟩) gP_149 hX11_group ⟨rfl, rfl⟩ ⟨Nat.le_of_ble_eq_true rfl, Nat.le_of_ble_eq_true rfl⟩ ⟨Nat.le_of_ble_eq_true rfl, Nat.le_of_ble_eq_true rfl⟩ rfl rfl rfl (Nat.le_of_ble_eq_true rfl) dL_of_180 htb [⟨0, 317, 318, 98⟩, ⟨0, 317, 324, 100⟩] ⟨0, 317, 330, 102⟩ [] rfl (fun z hz => by rcases List.mem_cons.mp hz with rfl | hz; exact ⟨by decide, _, lP_1, E.2.1.2.2.2.2.1.2.1⟩; cases List.mem_singleton.mp hz; exact ⟨by decide, _, lP_2, E.2.1.2.2.2.2.1.2.2⟩) rfl (by decide) lP_3 E.2.1.2.2.1.2.2.2.2.2.1 (fun q9 => ?_)
                                refine rv_astore (q := 332) (lv' := [_, _, _, _, _, _, _]) E.x dL_of_330 (Nat.le_of_ble_eq_true rfl) rfl rfl rfl ?_
                                refine rv_sipush (q := 335) E.x dL_of_332 rv_ksm1263 rfl ?_
                                exact lk_iret E rfl ⟨Nat.le_of_ble_eq_true rfl, Nat.le_of_ble_eq_true rfl⟩ dL_of_335
                          · refine rv_iload_n (q := 187) E.x dL_of_186 rfl rfl ?_
                            refine rv_bipush (q := 189) E.x dL_of_187 rv_kb13 rfl ?_
                            refine rv_icmp_ne (q := 192) (tgt := 200) E.x dL_of_189 (by decide) rfl ?_ ?_
                            · refine rv_aload_n (q := 193) E.x dL_of_192 rfl rfl ?_
                              refine rv_iload_n (q := 194) E.x dL_of_193 rfl rfl ?_
                              refine lk_x1r (fun r54 e53 => ?_) (fun w55 e56 => ?_)
                              · refine lk_ci (q := 197) (v := r54) (M1 := M) E (fun u hI _ => c11_reviewers E.2.2.1.1 hI e53) gP_152 hX11_reviewers ⟨rfl, rfl⟩ ⟨Nat.le_of_ble_eq_true rfl, Nat.le_of_ble_eq_true rfl⟩ ⟨Nat.le_of_ble_eq_true rfl, Nat.le_of_ble_eq_true rfl⟩ rfl rfl rfl (Nat.le_of_ble_eq_true rfl) dL_of_194 rfl ?_
                                refine rv_goto (q := 317) E.x dL_of_197 (by decide) ?_
                                exact lk_iret E rfl ⟨Nat.le_of_ble_eq_true rfl, Nat.le_of_ble_eq_true rfl⟩ dL_of_317
                              · refine lk_hhr ?_ ?_ ?_
                                · intro hx; subst hx
                                  refine lk_cx (x := 1) (M1 := M) (hh := [(0, 317, 318, 98), (0, 317, 324, 100), (0, 317, 330, 102)]) E (fun u hI _ => ⟨_, Or.inl rfl, c11_reviewers_x E.2.2.1.1 hI e56⟩) gP_152 hX11_reviewers ⟨rfl, rfl⟩ ⟨Nat.le_of_ble_eq_true rfl, Nat.le_of_ble_eq_true rfl⟩ ⟨Nat.le_of_ble_eq_true rfl, Nat.le_of_ble_eq_true rfl⟩ rfl rfl rfl (Nat.le_of_ble_eq_true rfl) dL_of_194 htb [] ⟨0, 317, 318, 98⟩ [⟨0, 317, 324, 100⟩, ⟨0, 317, 330, 102⟩] rfl (fun z hz => nomatch hz) rfl (by decide) lP_1 E.2.1.2.2.1.2.2.2.1 (fun q9 => ?_)
                                  refine rv_astore (q := 320) (lv' := [_, _, _, _, _, _, _]) E.x dL_of_318 (Nat.le_of_ble_eq_true rfl) rfl rfl rfl ?_
                                  refine rv_sipush (q := 323) E.x dL_of_320 rv_ksm1261 rfl ?_
                                  exact lk_iret E rfl ⟨Nat.le_of_ble_eq_true rfl, Nat.le_of_ble_eq_true rfl⟩ dL_of_323
                                · intro hx; subst hx
                                  refine lk_cx (x := 2) (M1 := M) (hh := [(0, 317, 318, 98), (0, 317, 324, 100), (0, 317, 330, 102)]) E (fun u hI _ => ⟨_, Or.inl rfl, c11_reviewers_x E.2.2.1.1 hI e56⟩) gP_152 hX11_reviewers ⟨rfl, rfl⟩ ⟨Nat.le_of_ble_eq_true rfl, Nat.le_of_ble_eq_true rfl⟩ ⟨Nat.le_of_ble_eq_true rfl, Nat.le_of_ble_eq_true rfl⟩ rfl rfl rfl (Nat.le_of_ble_eq_true rfl) dL_of_194 htb [⟨0, 317, 318, 98⟩] ⟨0, 317, 324, 100⟩ [⟨0, 317, 330, 102⟩] rfl (fun z hz => by cases List.mem_singleton.mp hz; exact ⟨by decide, _, lP_1, E.2.1.2.2.2.2.1.1⟩) rfl (by decide) lP_2 E.2.1.2.2.1.2.2.2.2.1 (fun q9 => ?_)
                                  refine rv_astore (q := 326) (lv' := [_, _, _, _, _, _, _]) E.x dL_of_324 (Nat.le_of_ble_eq_true rfl) rfl rfl rfl ?_
                                  refine rv_sipush (q := 329) E.x dL_of_326 rv_ksm1262 rfl ?_
                                  exact lk_iret E rfl ⟨Nat.le_of_ble_eq_true rfl, Nat.le_of_ble_eq_true rfl⟩ dL_of_329
                                · intro hx; subst hx
                                  refine lk_cx (x := 3) (M1 := M) (hh := [(0, 317, 318, 98), (0, 317, 324, 100), (0, 317, 330, 102)]) E (fun u hI _ => ⟨_, Or.inl rfl, c11_reviewers_x E.2.2.1.1 hI e56⟩) gP_152 hX11_reviewers ⟨rfl, rfl⟩ ⟨Nat.le_of_ble_eq_true rfl, Nat.le_of_ble_eq_true rfl⟩ ⟨Nat.le_of_ble_eq_true rfl, Nat.le_of_ble_eq_true rfl⟩ rfl rfl rfl (Nat.le_of_ble_eq_true rfl) dL_of_194 htb [⟨0, 317, 318, 98⟩, ⟨0, 317, 324, 100⟩] ⟨0, 317, 330, 102⟩ [] rfl (fun z hz => by rcases List.mem_cons.mp hz with rfl | hz; exact ⟨by decide, _, lP_1, E.2.1.2.2.2.2.1.2.1⟩; cases List.mem_singleton.mp hz; exact ⟨by decide, _, lP_2, E.2.1.2.2.2.2.1.2.2⟩) rfl (by decide) lP_3 E.2.1.2.2.1.2.2.2.2.2.1 (fun q9 => ?_)
                                  refine rv_astore (q := 332) (lv' := [_, _, _, _, _, _, _]) E.x dL_of_330 (Nat.le_of_ble_eq_true rfl) rfl rfl rfl ?_
                                  refine rv_sipush (q := 335) E.x dL_of_332 rv_ksm1263 rfl ?_
                                  exact lk_iret E rfl ⟨Nat.le_of_ble_eq_true rfl, Nat.le_of_ble_eq_true rfl⟩ dL_of_335
                            · refine rv_iload_n (q := 201) E.x dL_of_200 rfl rfl ?_
                              refine rv_bipush (q := 203) E.x dL_of_201 rv_kb14 rfl ?_
                              refine rv_icmp_ne (q := 206) (tgt := 214) E.x dL_of_203 (by decide) rfl ?_ ?_
                              · refine rv_aload_n (q := 207) E.x dL_of_206 rfl rfl ?_
                                refine rv_iload_n (q := 208) E.x dL_of_207 rfl rfl ?_
                                refine lk_x1r (fun r58 e57 => ?_) (fun w59 e60 => ?_)
                                · refine lk_ci (q := 211) (v := r58) (M1 := M) E (fun u hI _ => c11_whoseTurn E.2.2.1.1 hI e57) gP_155 hX11_whoseTurn ⟨rfl, rfl⟩ ⟨Nat.le_of_ble_eq_true rfl, Nat.le_of_ble_eq_true rfl⟩ ⟨Nat.le_of_ble_eq_true rfl, Nat.le_of_ble_eq_true rfl⟩ rfl rfl rfl (Nat.le_of_ble_eq_true rfl) dL_of_208 rfl ?_
                                  refine rv_goto (q := 317) E.x dL_of_211 (by decide) ?_
                                  exact lk_iret E rfl ⟨Nat.le_of_ble_eq_true rfl, Nat.le_of_ble_eq_true rfl⟩ dL_of_317
                                · refine lk_hhr ?_ ?_ ?_
                                  · intro hx; subst hx
                                    refine lk_cx (x := 1) (M1 := M) (hh := [(0, 317, 318, 98), (0, 317, 324, 100), (0, 317, 330, 102)]) E (fun u hI _ => ⟨_, Or.inl rfl, c11_whoseTurn_x E.2.2.1.1 hI e60⟩) gP_155 hX11_whoseTurn ⟨rfl, rfl⟩ ⟨Nat.le_of_ble_eq_true rfl, Nat.le_of_ble_eq_true rfl⟩ ⟨Nat.le_of_ble_eq_true rfl, Nat.le_of_ble_eq_true rfl⟩ rfl rfl rfl (Nat.le_of_ble_eq_true rfl) dL_of_208 htb [] ⟨0, 317, 318, 98⟩ [⟨0, 317, 324, 100⟩, ⟨0, 317, 330, 102⟩] rfl (fun z hz => nomatch hz) rfl (by decide) lP_1 E.2.1.2.2.1.2.2.2.1 (fun q9 => ?_)
                                    refine rv_astore (q := 320) (lv' := [_, _, _, _, _, _, _]) E.x dL_of_318 (Nat.le_of_ble_eq_true rfl) rfl rfl rfl ?_
                                    refine rv_sipush (q := 323) E.x dL_of_320 rv_ksm1261 rfl ?_
                                    exact lk_iret E rfl ⟨Nat.le_of_ble_eq_true rfl, Nat.le_of_ble_eq_true rfl⟩ dL_of_323
                                  · intro hx; subst hx
                                    refine lk_cx (x := 2) (M1 := M) (hh := [(0, 317, 318, 98), (0, 317, 324, 100), (0, 317, 330, 102)]) E (fun u hI _ => ⟨_, Or.inl rfl, c11_whoseTurn_x E.2.2.1.1 hI e60⟩) gP_155 hX11_whoseTurn ⟨rfl, rfl⟩ ⟨Nat.le_of_ble_eq_true rfl, Nat.le_of_ble_eq_true rfl⟩ ⟨Nat.le_of_ble_eq_true rfl, Nat.le_of_ble_eq_true rfl⟩ rfl rfl rfl (Nat.le_of_ble_eq_true rfl) dL_of_208 htb [⟨0, 317, 318, 98⟩] ⟨0, 317, 324, 100⟩ [⟨0, 317, 330, 102⟩] rfl (fun z hz => by cases List.mem_singleton.mp hz; exact ⟨by decide, _, lP_1, E.2.1.2.2.2.2.1.1⟩) rfl (by decide) lP_2 E.2.1.2.2.1.2.2.2.2.1 (fun q9 => ?_)
                                    refine rv_astore (q := 326) (lv' := [_, _, _, _, _, _, _]) E.x dL_of_324 (Nat.le_of_ble_eq_true rfl) rfl rfl rfl ?_
                                    refine rv_sipush (q := 329) E.x dL_of_326 rv_ksm1262 rfl ?_
                                    exact lk_iret E rfl ⟨Nat.le_of_ble_eq_true rfl, Nat.le_of_ble_eq_true rfl⟩ dL_of_329
                                  · intro hx; subst hx
                                    refine lk_cx (x := 3) (M1 := M) (hh := [(0, 317, 318, 98), (0, 317, 324, 100), (0, 317, 330, 102)]) E (fun u hI _ => ⟨_, Or.inl rfl, c11_whoseTurn_x E.2.2.1.1 hI e60⟩) gP_155 hX11_whoseTurn ⟨rfl, rfl⟩ ⟨Nat.le_of_ble_eq_true rfl, Nat.le_of_ble_eq_true rfl⟩ ⟨Nat.le_of_ble_eq_true rfl, Nat.le_of_ble_eq_true rfl⟩ rfl rfl rfl (Nat.le_of_ble_eq_true rfl) dL_of_208 htb [⟨0, 317, 318, 98⟩, ⟨0, 317, 324, 100⟩] ⟨0, 317, 330, 102⟩ [] rfl (fun z hz => by rcases List.mem_cons.mp hz with rfl | hz; exact ⟨by decide, _, lP_1, E.2.1.2.2.2.2.1.2.1⟩; cases List.mem_singleton.mp hz; exact ⟨by decide, _, lP_2, E.2.1.2.2.2.2.1.2.2⟩) rfl (by decide) lP_3 E.2.1.2.2.1.2.2.2.2.2.1 (fun q9 => ?_)
                                    refine rv_astore (q := 332) (lv' := [_, _, _, _, _, _, _]) E.x dL_of_330 (Nat.le_of_ble_eq_true rfl) rfl rfl rfl ?_
                                    refine rv_sipush (q := 335) E.x dL_of_332 rv_ksm1263 rfl ?_
                                    exact lk_iret E rfl ⟨Nat.le_of_ble_eq_true rfl, Nat.le_of_ble_eq_true rfl⟩ dL_of_335
                              · refine rv_iload_n (q := 215) E.x dL_of_214 rfl rfl ?_
                                refine rv_bipush (q := 217) E.x dL_of_215 rv_kb15 rfl ?_
                                refine rv_icmp_ne (q := 220) (tgt := 228) E.x dL_of_217 (by decide) rfl ?_ ?_
                                · refine rv_aload_n (q := 221) E.x dL_of_220 rfl rfl ?_
                                  refine rv_iload_n (q := 222) E.x dL_of_221 rfl rfl ?_
                                  refine lk_x1r (fun r62 e61 => ?_) (fun w63 e64 => ?_)
                                  · refine lk_ci (q := 225) (v := r62) (M1 := M) E (fun u hI _ => c11_mails E.2.2.1.1 hI e61) gP_158 hX11_mails ⟨rfl, rfl⟩ ⟨Nat.le_of_ble_eq_true rfl, Nat.le_of_ble_eq_true rfl⟩ ⟨Nat.le_of_ble_eq_true rfl, Nat.le_of_ble_eq_true rfl⟩ rfl rfl rfl (Nat.le_of_ble_eq_true rfl) dL_of_222 rfl ?_
                                    refine rv_goto (q := 317) E.x dL_of_225 (by decide) ?_
                                    exact lk_iret E rfl ⟨Nat.le_of_ble_eq_true rfl, Nat.le_of_ble_eq_true rfl⟩ dL_of_317
                                  · refine lk_hhr ?_ ?_ ?_
                                    · intro hx; subst hx
                                      refine lk_cx (x := 1) (M1 := M) (hh := [(0, 317, 318, 98), (0, 317, 324, 100), (0, 317, 330, 102)]) E (fun u hI _ => ⟨_, Or.inl rfl, c11_mails_x E.2.2.1.1 hI e64⟩) gP_158 hX11_mails ⟨rfl, rfl⟩ ⟨Nat.le_of_ble_eq_true rfl, Nat.le_of_ble_eq_true rfl⟩ ⟨Nat.le_of_ble_eq_true rfl, Nat.le_of_ble_eq_true rfl⟩ rfl rfl rfl (Nat.le_of_ble_eq_true rfl) dL_of_222 htb [] ⟨0, 317, 318, 98⟩ [⟨0, 317, 324, 100⟩, ⟨0, 317, 330, 102⟩] rfl (fun z hz => nomatch hz) rfl (by decide) lP_1 E.2.1.2.2.1.2.2.2.1 (fun q9 => ?_)
                                      refine rv_astore (q := 320) (lv' := [_, _, _, _, _, _, _]) E.x dL_of_318 (Nat.le_of_ble_eq_true rfl) rfl rfl rfl ?_
                                      refine rv_sipush (q := 323) E.x dL_of_320 rv_ksm1261 rfl ?_
                                      exact lk_iret E rfl ⟨Nat.le_of_ble_eq_true rfl, Nat.le_of_ble_eq_true rfl⟩ dL_of_323
                                    · intro hx; subst hx
                                      refine lk_cx (x := 2) (M1 := M) (hh := [(0, 317, 318, 98), (0, 317, 324, 100), (0, 317, 330, 102)]) E (fun u hI _ => ⟨_, Or.inl rfl, c11_mails_x E.2.2.1.1 hI e64⟩) gP_158 hX11_mails ⟨rfl, rfl⟩ ⟨Nat.le_of_ble_eq_true rfl, Nat.le_of_ble_eq_true rfl⟩ ⟨Nat.le_of_ble_eq_true rfl, Nat.le_of_ble_eq_true rfl⟩ rfl rfl rfl (Nat.le_of_ble_eq_true rfl) dL_of_222 htb [⟨0, 317, 318, 98⟩] ⟨0, 317, 324, 100⟩ [⟨0, 317, 330, 102⟩] rfl (fun z hz => by cases List.mem_singleton.mp hz; exact ⟨by decide, _, lP_1, E.2.1.2.2.2.2.1.1⟩) rfl (by decide) lP_2 E.2.1.2.2.1.2.2.2.2.1 (fun q9 => ?_)
                                      refine rv_astore (q := 326) (lv' := [_, _, _, _, _, _, _]) E.x dL_of_324 (Nat.le_of_ble_eq_true rfl) rfl rfl rfl ?_
                                      refine rv_sipush (q := 329) E.x dL_of_326 rv_ksm1262 rfl ?_
                                      exact lk_iret E rfl ⟨Nat.le_of_ble_eq_true rfl, Nat.le_of_ble_eq_true rfl⟩ dL_of_329
                                    · intro hx; subst hx
                                      refine lk_cx (x := 3) (M1 := M) (hh := [(0, 317, 318, 98), (0, 317, 324, 100), (0, 317, 330, 102)]) E (fun u hI _ => ⟨_, Or.inl rfl, c11_mails_x E.2.2.1.1 hI e64⟩) gP_158 hX11_mails ⟨rfl, rfl⟩ ⟨Nat.le_of_ble_eq_true rfl, Nat.le_of_ble_eq_true rfl⟩ ⟨Nat.le_of_ble_eq_true rfl, Nat.le_of_ble_eq_true rfl⟩ rfl rfl rfl (Nat.le_of_ble_eq_true rfl) dL_of_222 htb [⟨0, 317, 318, 98⟩, ⟨0, 317, 324, 100⟩] ⟨0, 317, 330, 102⟩ [] rfl (fun z hz => by rcases List.mem_cons.mp hz with rfl | hz; exact ⟨by decide, _, lP_1, E.2.1.2.2.2.2.1.2.1⟩; cases List.mem_singleton.mp hz; exact ⟨by decide, _, lP_2, E.2.1.2.2.2.2.1.2.2⟩) rfl (by decide) lP_3 E.2.1.2.2.1.2.2.2.2.2.1 (fun q9 => ?_)
                                      refine rv_astore (q := 332) (lv' := [_, _, _, _, _, _, _]) E.x dL_of_330 (Nat.le_of_ble_eq_true rfl) rfl rfl rfl ?_
                                      refine rv_sipush (q := 335) E.x dL_of_332 rv_ksm1263 rfl ?_
                                      exact lk_iret E rfl ⟨Nat.le_of_ble_eq_true rfl, Nat.le_of_ble_eq_true rfl⟩ dL_of_335
                                · refine rv_iload_n (q := 229) E.x dL_of_228 rfl rfl ?_
                                  refine rv_bipush (q := 231) E.x dL_of_229 rv_kb16 rfl ?_
                                  refine rv_icmp_ne (q := 234) (tgt := 242) E.x dL_of_231 (by decide) rfl ?_ ?_
                                  · refine rv_aload_n (q := 235) E.x dL_of_234 rfl rfl ?_
                                    refine rv_iload_n (q := 236) E.x dL_of_235 rfl rfl ?_
                                    refine lk_x1r (fun r66 e65 => ?_) (fun w67 e68 => ?_)
                                    · refine lk_ci (q := 239) (v := r66) (M1 := M) E (fun u hI _ => c11_fewest E.2.2.1.1 hI e65) gP_161 hX11_fewest ⟨rfl, rfl⟩ ⟨Nat.le_of_ble_eq_true rfl, Nat.le_of_ble_eq_true rfl⟩ ⟨Nat.le_of_ble_eq_true rfl, Nat.le_of_ble_eq_true rfl⟩ rfl rfl rfl (Nat.le_of_ble_eq_true rfl) dL_of_236 rfl ?_
                                      refine rv_goto (q := 317) E.x dL_of_239 (by decide) ?_
                                      exact lk_iret E rfl ⟨Nat.le_of_ble_eq_true rfl, Nat.le_of_ble_eq_true rfl⟩ dL_of_317
                                    · refine lk_hhr ?_ ?_ ?_
                                      · intro hx; subst hx
                                        refine lk_cx (x := 1) (M1 := M) (hh := [(0, 317, 318, 98), (0, 317, 324, 100), (0, 317, 330, 102)]) E (fun u hI _ => ⟨_, Or.inl rfl, c11_fewest_x E.2.2.1.1 hI e68⟩) gP_161 hX11_fewest ⟨rfl, rfl⟩ ⟨Nat.le_of_ble_eq_true rfl, Nat.le_of_ble_eq_true rfl⟩ ⟨Nat.le_of_ble_eq_true rfl, Nat.le_of_ble_eq_true rfl⟩ rfl rfl rfl (Nat.le_of_ble_eq_true rfl) dL_of_236 htb [] ⟨0, 317, 318, 98⟩ [⟨0, 317, 324, 100⟩, ⟨0, 317, 330, 102⟩] rfl (fun z hz => nomatch hz) rfl (by decide) lP_1 E.2.1.2.2.1.2.2.2.1 (fun q9 => ?_)
                                        refine rv_astore (q := 320) (lv' := [_, _, _, _, _, _, _]) E.x dL_of_318 (Nat.le_of_ble_eq_true rfl) rfl rfl rfl ?_
                                        refine rv_sipush (q := 323) E.x dL_of_320 rv_ksm1261 rfl ?_
                                        exact lk_iret E rfl ⟨Nat.le_of_ble_eq_true rfl, Nat.le_of_ble_eq_true rfl⟩ dL_of_323
                                      · intro hx; subst hx
                                        refine lk_cx (x := 2) (M1 := M) (hh := [(0, 317, 318, 98), (0, 317, 324, 100), (0, 317, 330, 102)]) E (fun u hI _ => ⟨_, Or.inl rfl, c11_fewest_x E.2.2.1.1 hI e68⟩) gP_161 hX11_fewest ⟨rfl, rfl⟩ ⟨Nat.le_of_ble_eq_true rfl, Nat.le_of_ble_eq_true rfl⟩ ⟨Nat.le_of_ble_eq_true rfl, Nat.le_of_ble_eq_true rfl⟩ rfl rfl rfl (Nat.le_of_ble_eq_true rfl) dL_of_236 htb [⟨0, 317, 318, 98⟩] ⟨0, 317, 324, 100⟩ [⟨0, 317, 330, 102⟩] rfl (fun z hz => by cases List.mem_singleton.mp hz; exact ⟨by decide, _, lP_1, E.2.1.2.2.2.2.1.1⟩) rfl (by decide) lP_2 E.2.1.2.2.1.2.2.2.2.1 (fun q9 => ?_)
                                        refine rv_astore (q := 326) (lv' := [_, _, _, _, _, _, _]) E.x dL_of_324 (Nat.le_of_ble_eq_true rfl) rfl rfl rfl ?_
                                        refine rv_sipush (q := 329) E.x dL_of_326 rv_ksm1262 rfl ?_
                                        exact lk_iret E rfl ⟨Nat.le_of_ble_eq_true rfl, Nat.le_of_ble_eq_true rfl⟩ dL_of_329
                                      · intro hx; subst hx
                                        refine lk_cx (x := 3) (M1 := M) (hh := [(0, 317, 318, 98), (0, 317, 324, 100), (0, 317, 330, 102)]) E (fun u hI _ => ⟨_, Or.inl rfl, c11_fewest_x E.2.2.1.1 hI e68⟩) gP_161 hX11_fewest ⟨rfl, rfl⟩ ⟨Nat.le_of_ble_eq_true rfl, Nat.le_of_ble_eq_true rfl⟩ ⟨Nat.le_of_ble_eq_true rfl, Nat.le_of_ble_eq_true rfl⟩ rfl rfl rfl (Nat.le_of_ble_eq_true rfl) dL_of_236 htb [⟨0, 317, 318, 98⟩, ⟨0, 317, 324, 100⟩] ⟨0, 317, 330, 102⟩ [] rfl (fun z hz => by rcases List.mem_cons.mp hz with rfl | hz; exact ⟨by decide, _, lP_1, E.2.1.2.2.2.2.1.2.1⟩; cases List.mem_singleton.mp hz; exact ⟨by decide, _, lP_2, E.2.1.2.2.2.2.1.2.2⟩) rfl (by decide) lP_3 E.2.1.2.2.1.2.2.2.2.2.1 (fun q9 => ?_)
                                        refine rv_astore (q := 332) (lv' := [_, _, _, _, _, _, _]) E.x dL_of_330 (Nat.le_of_ble_eq_true rfl) rfl rfl rfl ?_
                                        refine rv_sipush (q := 335) E.x dL_of_332 rv_ksm1263 rfl ?_
                                        exact lk_iret E rfl ⟨Nat.le_of_ble_eq_true rfl, Nat.le_of_ble_eq_true rfl⟩ dL_of_335
                                  · refine rv_iload_n (q := 243) E.x dL_of_242 rfl rfl ?_
                                    refine rv_bipush (q := 245) E.x dL_of_243 rv_kb17 rfl ?_
                                    refine rv_icmp_ne (q := 248) (tgt := 256) E.x dL_of_245 (by decide) rfl ?_ ?_
                                    · refine rv_aload_n (q := 249) E.x dL_of_248 rfl rfl ?_
                                      refine rv_iload_n (q := 250) E.x dL_of_249 rfl rfl ?_
                                      refine lk_x1r (fun r70 e69 => ?_) (fun w71 e72 => ?_)
                                      · refine lk_ci (q := 253) (v := r70) (M1 := M) E (fun u hI _ => c11_lacks E.2.2.1.1 hI e69) gP_164 hX11_lacks ⟨rfl, rfl⟩ ⟨Nat.le_of_ble_eq_true rfl, Nat.le_of_ble_eq_true rfl⟩ ⟨Nat.le_of_ble_eq_true rfl, Nat.le_of_ble_eq_true rfl⟩ rfl rfl rfl (Nat.le_of_ble_eq_true rfl) dL_of_250 rfl ?_
                                        refine rv_goto (q := 317) E.x dL_of_253 (by decide) ?_
                                        exact lk_iret E rfl ⟨Nat.le_of_ble_eq_true rfl, Nat.le_of_ble_eq_true rfl⟩ dL_of_317
                                      · refine lk_hhr ?_ ?_ ?_
                                        · intro hx; subst hx
                                          refine lk_cx (x := 1) (M1 := M) (hh := [(0, 317, 318, 98), (0, 317, 324, 100), (0, 317, 330, 102)]) E (fun u hI _ => ⟨_, Or.inl rfl, c11_lacks_x E.2.2.1.1 hI e72⟩) gP_164 hX11_lacks ⟨rfl, rfl⟩ ⟨Nat.le_of_ble_eq_true rfl, Nat.le_of_ble_eq_true rfl⟩ ⟨Nat.le_of_ble_eq_true rfl, Nat.le_of_ble_eq_true rfl⟩ rfl rfl rfl (Nat.le_of_ble_eq_true rfl) dL_of_250 htb [] ⟨0, 317, 318, 98⟩ [⟨0, 317, 324, 100⟩, ⟨0, 317, 330, 102⟩] rfl (fun z hz => nomatch hz) rfl (by decide) lP_1 E.2.1.2.2.1.2.2.2.1 (fun q9 => ?_)
                                          refine rv_astore (q := 320) (lv' := [_, _, _, _, _, _, _]) E.x dL_of_318 (Nat.le_of_ble_eq_true rfl) rfl rfl rfl ?_
                                          refine rv_sipush (q := 323) E.x dL_of_320 rv_ksm1261 rfl ?_
                                          exact lk_iret E rfl ⟨Nat.le_of_ble_eq_true rfl, Nat.le_of_ble_eq_true rfl⟩ dL_of_323
                                        · intro hx; subst hx
                                          refine lk_cx (x := 2) (M1 := M) (hh := [(0, 317, 318, 98), (0, 317, 324, 100), (0, 317, 330, 102)]) E (fun u hI _ => ⟨_, Or.inl rfl, c11_lacks_x E.2.2.1.1 hI e72⟩) gP_164 hX11_lacks ⟨rfl, rfl⟩ ⟨Nat.le_of_ble_eq_true rfl, Nat.le_of_ble_eq_true rfl⟩ ⟨Nat.le_of_ble_eq_true rfl, Nat.le_of_ble_eq_true rfl⟩ rfl rfl rfl (Nat.le_of_ble_eq_true rfl) dL_of_250 htb [⟨0, 317, 318, 98⟩] ⟨0, 317, 324, 100⟩ [⟨0, 317, 330, 102⟩] rfl (fun z hz => by cases List.mem_singleton.mp hz; exact ⟨by decide, _, lP_1, E.2.1.2.2.2.2.1.1⟩) rfl (by decide) lP_2 E.2.1.2.2.1.2.2.2.2.1 (fun q9 => ?_)
                                          refine rv_astore (q := 326) (lv' := [_, _, _, _, _, _, _]) E.x dL_of_324 (Nat.le_of_ble_eq_true rfl) rfl rfl rfl ?_
                                          refine rv_sipush (q := 329) E.x dL_of_326 rv_ksm1262 rfl ?_
                                          exact lk_iret E rfl ⟨Nat.le_of_ble_eq_true rfl, Nat.le_of_ble_eq_true rfl⟩ dL_of_329
                                        · intro hx; subst hx
                                          refine lk_cx (x := 3) (M1 := M) (hh := [(0, 317, 318, 98), (0, 317, 324, 100), (0, 317, 330, 102)]) E (fun u hI _ => ⟨_, Or.inl rfl, c11_lacks_x E.2.2.1.1 hI e72⟩) gP_164 hX11_lacks ⟨rfl, rfl⟩ ⟨Nat.le_of_ble_eq_true rfl, Nat.le_of_ble_eq_true rfl⟩ ⟨Nat.le_of_ble_eq_true rfl, Nat.le_of_ble_eq_true rfl⟩ rfl rfl rfl (Nat.le_of_ble_eq_true rfl) dL_of_250 htb [⟨0, 317, 318, 98⟩, ⟨0, 317, 324, 100⟩] ⟨0, 317, 330, 102⟩ [] rfl (fun z hz => by rcases List.mem_cons.mp hz with rfl | hz; exact ⟨by decide, _, lP_1, E.2.1.2.2.2.2.1.2.1⟩; cases List.mem_singleton.mp hz; exact ⟨by decide, _, lP_2, E.2.1.2.2.2.2.1.2.2⟩) rfl (by decide) lP_3 E.2.1.2.2.1.2.2.2.2.2.1 (fun q9 => ?_)
                                          refine rv_astore (q := 332) (lv' := [_, _, _, _, _, _, _]) E.x dL_of_330 (Nat.le_of_ble_eq_true rfl) rfl rfl rfl ?_
                                          refine rv_sipush (q := 335) E.x dL_of_332 rv_ksm1263 rfl ?_
                                          exact lk_iret E rfl ⟨Nat.le_of_ble_eq_true rfl, Nat.le_of_ble_eq_true rfl⟩ dL_of_335
                                    · refine rv_iload_n (q := 257) E.x dL_of_256 rfl rfl ?_
                                      refine rv_bipush (q := 259) E.x dL_of_257 rv_kb18 rfl ?_
                                      refine rv_icmp_ne (q := 262) (tgt := 270) E.x dL_of_259 (by decide) rfl ?_ ?_
                                      · refine rv_aload_n (q := 263) E.x dL_of_262 rfl rfl ?_
                                        refine rv_iload_n (q := 264) E.x dL_of_263 rfl rfl ?_
                                        refine lk_x1r (fun r74 e73 => ?_) (fun w75 e76 => ?_)
                                        · refine lk_ci (q := 267) (v := r74) (M1 := M) E (fun u hI _ => c11_unresolved E.2.2.1.1 hI e73) gP_167 hX11_unresolved ⟨rfl, rfl⟩ ⟨Nat.le_of_ble_eq_true rfl, Nat.le_of_ble_eq_true rfl⟩ ⟨Nat.le_of_ble_eq_true rfl, Nat.le_of_ble_eq_true rfl⟩ rfl rfl rfl (Nat.le_of_ble_eq_true rfl) dL_of_264 rfl ?_
                                          refine rv_goto (q := 317) E.x dL_of_267 (by decide) ?_
                                          exact lk_iret E rfl ⟨Nat.le_of_ble_eq_true rfl, Nat.le_of_ble_eq_true rfl⟩ dL_of_317
                                        · refine lk_hhr ?_ ?_ ?_
                                          · intro hx; subst hx
                                            refine lk_cx (x := 1) (M1 := M) (hh := [(0, 317, 318, 98), (0, 317, 324, 100), (0, 317, 330, 102)]) E (fun u hI _ => ⟨_, Or.inl rfl, c11_unresolved_x E.2.2.1.1 hI e76⟩) gP_167 hX11_unresolved ⟨rfl, rfl⟩ ⟨Nat.le_of_ble_eq_true rfl, Nat.le_of_ble_eq_true rfl⟩ ⟨Nat.le_of_ble_eq_true rfl, Nat.le_of_ble_eq_true rfl⟩ rfl rfl rfl (Nat.le_of_ble_eq_true rfl) dL_of_264 htb [] ⟨0, 317, 318, 98⟩ [⟨0, 317, 324, 100⟩, ⟨0, 317, 330, 102⟩] rfl (fun z hz => nomatch hz) rfl (by decide) lP_1 E.2.1.2.2.1.2.2.2.1 (fun q9 => ?_)
                                            refine rv_astore (q := 320) (lv' := [_, _, _, _, _, _, _]) E.x dL_of_318 (Nat.le_of_ble_eq_true rfl) rfl rfl rfl ?_
                                            refine rv_sipush (q := 323) E.x dL_of_320 rv_ksm1261 rfl ?_
                                            exact lk_iret E rfl ⟨Nat.le_of_ble_eq_true rfl, Nat.le_of_ble_eq_true rfl⟩ dL_of_323
                                          · intro hx; subst hx
                                            refine lk_cx (x := 2) (M1 := M) (hh := [(0, 317, 318, 98), (0, 317, 324, 100), (0, 317, 330, 102)]) E (fun u hI _ => ⟨_, Or.inl rfl, c11_unresolved_x E.2.2.1.1 hI e76⟩) gP_167 hX11_unresolved ⟨rfl, rfl⟩ ⟨Nat.le_of_ble_eq_true rfl, Nat.le_of_ble_eq_true rfl⟩ ⟨Nat.le_of_ble_eq_true rfl, Nat.le_of_ble_eq_true rfl⟩ rfl rfl rfl (Nat.le_of_ble_eq_true rfl) dL_of_264 htb [⟨0, 317, 318, 98⟩] ⟨0, 317, 324, 100⟩ [⟨0, 317, 330, 102⟩] rfl (fun z hz => by cases List.mem_singleton.mp hz; exact ⟨by decide, _, lP_1, E.2.1.2.2.2.2.1.1⟩) rfl (by decide) lP_2 E.2.1.2.2.1.2.2.2.2.1 (fun q9 => ?_)
                                            refine rv_astore (q := 326) (lv' := [_, _, _, _, _, _, _]) E.x dL_of_324 (Nat.le_of_ble_eq_true rfl) rfl rfl rfl ?_
                                            refine rv_sipush (q := 329) E.x dL_of_326 rv_ksm1262 rfl ?_
                                            exact lk_iret E rfl ⟨Nat.le_of_ble_eq_true rfl, Nat.le_of_ble_eq_true rfl⟩ dL_of_329
                                          · intro hx; subst hx
                                            refine lk_cx (x := 3) (M1 := M) (hh := [(0, 317, 318, 98), (0, 317, 324, 100), (0, 317, 330, 102)]) E (fun u hI _ => ⟨_, Or.inl rfl, c11_unresolved_x E.2.2.1.1 hI e76⟩) gP_167 hX11_unresolved ⟨rfl, rfl⟩ ⟨Nat.le_of_ble_eq_true rfl, Nat.le_of_ble_eq_true rfl⟩ ⟨Nat.le_of_ble_eq_true rfl, Nat.le_of_ble_eq_true rfl⟩ rfl rfl rfl (Nat.le_of_ble_eq_true rfl) dL_of_264 htb [⟨0, 317, 318, 98⟩, ⟨0, 317, 324, 100⟩] ⟨0, 317, 330, 102⟩ [] rfl (fun z hz => by rcases List.mem_cons.mp hz with rfl | hz; exact ⟨by decide, _, lP_1, E.2.1.2.2.2.2.1.2.1⟩; cases List.mem_singleton.mp hz; exact ⟨by decide, _, lP_2, E.2.1.2.2.2.2.1.2.2⟩) rfl (by decide) lP_3 E.2.1.2.2.1.2.2.2.2.2.1 (fun q9 => ?_)
                                            refine rv_astore (q := 332) (lv' := [_, _, _, _, _, _, _]) E.x dL_of_330 (Nat.le_of_ble_eq_true rfl) rfl rfl rfl ?_
                                            refine rv_sipush (q := 335) E.x dL_of_332 rv_ksm1263 rfl ?_
                                            exact lk_iret E rfl ⟨Nat.le_of_ble_eq_true rfl, Nat.le_of_ble_eq_true rfl⟩ dL_of_335
                                      · refine rv_iload_n (q := 271) E.x dL_of_270 rfl rfl ?_
                                        refine rv_bipush (q := 273) E.x dL_of_271 rv_kb19 rfl ?_
                                        refine rv_icmp_ne (q := 276) (tgt := 285) E.x dL_of_273 (by decide) rfl ?_ ?_
                                        · refine rv_aload_n (q := 277) E.x dL_of_276 rfl rfl ?_
                                          refine rv_iload_n (q := 278) E.x dL_of_277 rfl rfl ?_
                                          refine rv_iload_n (q := 279) E.x dL_of_278 rfl rfl ?_
                                          refine lk_x3r (fun r78 M81 e77 => ?_) (fun w79 M82 e80 => ?_)
                                          · refine lk_ci (q := 282) (v := r78) (M1 := M81) E (fun u hI _ => c11_shown E.2.2.1.1 hI e77) gP_170 hX11_shown ⟨rfl, rfl⟩ ⟨Nat.le_of_ble_eq_true rfl, Nat.le_of_ble_eq_true rfl⟩ ⟨Nat.le_of_ble_eq_true rfl, Nat.le_of_ble_eq_true rfl⟩ rfl rfl rfl (Nat.le_of_ble_eq_true rfl) dL_of_279 rfl ?_
                                            refine rv_goto (q := 317) E.x dL_of_282 (by decide) ?_
                                            exact lk_iret E rfl ⟨Nat.le_of_ble_eq_true rfl, Nat.le_of_ble_eq_true rfl⟩ dL_of_317
                                          · refine lk_hhr ?_ ?_ ?_
                                            · intro hx; subst hx
                                              refine lk_cx (x := 1) (M1 := M82) (hh := [(0, 317, 318, 98), (0, 317, 324, 100), (0, 317, 330, 102)]) E (fun u hI _ => ⟨_, Or.inl rfl, c11_shown_x E.2.2.1.1 hI e80⟩) gP_170 hX11_shown ⟨rfl, rfl⟩ ⟨Nat.le_of_ble_eq_true rfl, Nat.le_of_ble_eq_true rfl⟩ ⟨Nat.le_of_ble_eq_true rfl, Nat.le_of_ble_eq_true rfl⟩ rfl rfl rfl (Nat.le_of_ble_eq_true rfl) dL_of_279 htb [] ⟨0, 317, 318, 98⟩ [⟨0, 317, 324, 100⟩, ⟨0, 317, 330, 102⟩] rfl (fun z hz => nomatch hz) rfl (by decide) lP_1 E.2.1.2.2.1.2.2.2.1 (fun q9 => ?_)
                                              refine rv_astore (q := 320) (lv' := [_, _, _, _, _, _, _]) E.x dL_of_318 (Nat.le_of_ble_eq_true rfl) rfl rfl rfl ?_
                                              refine rv_sipush (q := 323) E.x dL_of_320 rv_ksm1261 rfl ?_
                                              exact lk_iret E rfl ⟨Nat.le_of_ble_eq_true rfl, Nat.le_of_ble_eq_true rfl⟩ dL_of_323
                                            · intro hx; subst hx
                                              refine lk_cx (x := 2) (M1 := M82) (hh := [(0, 317, 318, 98), (0, 317, 324, 100), (0, 317, 330, 102)]) E (fun u hI _ => ⟨_, Or.inl rfl, c11_shown_x E.2.2.1.1 hI e80⟩) gP_170 hX11_shown ⟨rfl, rfl⟩ ⟨Nat.le_of_ble_eq_true rfl, Nat.le_of_ble_eq_true rfl⟩ ⟨Nat.le_of_ble_eq_true rfl, Nat.le_of_ble_eq_true rfl⟩ rfl rfl rfl (Nat.le_of_ble_eq_true rfl) dL_of_279 htb [⟨0, 317, 318, 98⟩] ⟨0, 317, 324, 100⟩ [⟨0, 317, 330, 102⟩] rfl (fun z hz => by cases List.mem_singleton.mp hz; exact ⟨by decide, _, lP_1, E.2.1.2.2.2.2.1.1⟩) rfl (by decide) lP_2 E.2.1.2.2.1.2.2.2.2.1 (fun q9 => ?_)
                                              refine rv_astore (q := 326) (lv' := [_, _, _, _, _, _, _]) E.x dL_of_324 (Nat.le_of_ble_eq_true rfl) rfl rfl rfl ?_
                                              refine rv_sipush (q := 329) E.x dL_of_326 rv_ksm1262 rfl ?_
                                              exact lk_iret E rfl ⟨Nat.le_of_ble_eq_true rfl, Nat.le_of_ble_eq_true rfl⟩ dL_of_329
                                            · intro hx; subst hx
                                              refine lk_cx (x := 3) (M1 := M82) (hh := [(0, 317, 318, 98), (0, 317, 324, 100), (0, 317, 330, 102)]) E (fun u hI _ => ⟨_, Or.inl rfl, c11_shown_x E.2.2.1.1 hI e80⟩) gP_170 hX11_shown ⟨rfl, rfl⟩ ⟨Nat.le_of_ble_eq_true rfl, Nat.le_of_ble_eq_true rfl⟩ ⟨Nat.le_of_ble_eq_true rfl, Nat.le_of_ble_eq_true rfl⟩ rfl rfl rfl (Nat.le_of_ble_eq_true rfl) dL_of_279 htb [⟨0, 317, 318, 98⟩, ⟨0, 317, 324, 100⟩] ⟨0, 317, 330, 102⟩ [] rfl (fun z hz => by rcases List.mem_cons.mp hz with rfl | hz; exact ⟨by decide, _, lP_1, E.2.1.2.2.2.2.1.2.1⟩; cases List.mem_singleton.mp hz; exact ⟨by decide, _, lP_2, E.2.1.2.2.2.2.1.2.2⟩) rfl (by decide) lP_3 E.2.1.2.2.1.2.2.2.2.2.1 (fun q9 => ?_)
                                              refine rv_astore (q := 332) (lv' := [_, _, _, _, _, _, _]) E.x dL_of_330 (Nat.le_of_ble_eq_true rfl) rfl rfl rfl ?_
                                              refine rv_sipush (q := 335) E.x dL_of_332 rv_ksm1263 rfl ?_
                                              exact lk_iret E rfl ⟨Nat.le_of_ble_eq_true rfl, Nat.le_of_ble_eq_true rfl⟩ dL_of_335
                                        · refine rv_iload_n (q := 286) E.x dL_of_285 rfl rfl ?_
                                          refine rv_bipush (q := 288) E.x dL_of_286 rv_kb20 rfl ?_
                                          refine rv_icmp_ne (q := 291) (tgt := 305) E.x dL_of_288 (by decide) rfl ?_ ?_
                                          · refine rv_aload_n (q := 292) E.x dL_of_291 rfl rfl ?_
                                            refine rv_iload_n (q := 293) E.x dL_of_292 rfl rfl ?_
                                            refine rv_iload_n (q := 294) E.x dL_of_293 rfl rfl ?_
                                            refine rv_iload (q := 296) E.x dL_of_294 rfl rfl ?_
                                            refine rv_iload (q := 298) E.x dL_of_296 rfl rfl ?_
                                            refine rv_iconst (q := 299) E.x dL_of_298 rv_ki0 rfl ?_
                                            refine lk_x3r (fun r84 M87 e83 => ?_) (fun w85 M88 e86 => ?_)
                                            · refine lk_ci (q := 302) (v := r84) (M1 := M87) E (fun u hI _ => c11_hunks E.2.2.1.1 hI e83) gP_173 hX11_hunks ⟨rfl, rfl⟩ ⟨Nat.le_of_ble_eq_true rfl, Nat.le_of_ble_eq_true rfl⟩ ⟨Nat.le_of_ble_eq_true rfl, Nat.le_of_ble_eq_true rfl⟩ rfl rfl rfl (Nat.le_of_ble_eq_true rfl) dL_of_299 rfl ?_
                                              refine rv_goto (q := 317) E.x dL_of_302 (by decide) ?_
                                              exact lk_iret E rfl ⟨Nat.le_of_ble_eq_true rfl, Nat.le_of_ble_eq_true rfl⟩ dL_of_317
                                            · refine lk_hhr ?_ ?_ ?_
                                              · intro hx; subst hx
                                                refine lk_cx (x := 1) (M1 := M88) (hh := [(0, 317, 318, 98), (0, 317, 324, 100), (0, 317, 330, 102)]) E (fun u hI _ => ⟨_, Or.inl rfl, c11_hunks_x E.2.2.1.1 hI e86⟩) gP_173 hX11_hunks ⟨rfl, rfl⟩ ⟨Nat.le_of_ble_eq_true rfl, Nat.le_of_ble_eq_true rfl⟩ ⟨Nat.le_of_ble_eq_true rfl, Nat.le_of_ble_eq_true rfl⟩ rfl rfl rfl (Nat.le_of_ble_eq_true rfl) dL_of_299 htb [] ⟨0, 317, 318, 98⟩ [⟨0, 317, 324, 100⟩, ⟨0, 317, 330, 102⟩] rfl (fun z hz => nomatch hz) rfl (by decide) lP_1 E.2.1.2.2.1.2.2.2.1 (fun q9 => ?_)
                                                refine rv_astore (q := 320) (lv' := [_, _, _, _, _, _, _]) E.x dL_of_318 (Nat.le_of_ble_eq_true rfl) rfl rfl rfl ?_
                                                refine rv_sipush (q := 323) E.x dL_of_320 rv_ksm1261 rfl ?_
                                                exact lk_iret E rfl ⟨Nat.le_of_ble_eq_true rfl, Nat.le_of_ble_eq_true rfl⟩ dL_of_323
                                              · intro hx; subst hx
                                                refine lk_cx (x := 2) (M1 := M88) (hh := [(0, 317, 318, 98), (0, 317, 324, 100), (0, 317, 330, 102)]) E (fun u hI _ => ⟨_, Or.inl rfl, c11_hunks_x E.2.2.1.1 hI e86⟩) gP_173 hX11_hunks ⟨rfl, rfl⟩ ⟨Nat.le_of_ble_eq_true rfl, Nat.le_of_ble_eq_true rfl⟩ ⟨Nat.le_of_ble_eq_true rfl, Nat.le_of_ble_eq_true rfl⟩ rfl rfl rfl (Nat.le_of_ble_eq_true rfl) dL_of_299 htb [⟨0, 317, 318, 98⟩] ⟨0, 317, 324, 100⟩ [⟨0, 317, 330, 102⟩] rfl (fun z hz => by cases List.mem_singleton.mp hz; exact ⟨by decide, _, lP_1, E.2.1.2.2.2.2.1.1⟩) rfl (by decide) lP_2 E.2.1.2.2.1.2.2.2.2.1 (fun q9 => ?_)
                                                refine rv_astore (q := 326) (lv' := [_, _, _, _, _, _, _]) E.x dL_of_324 (Nat.le_of_ble_eq_true rfl) rfl rfl rfl ?_
                                                refine rv_sipush (q := 329) E.x dL_of_326 rv_ksm1262 rfl ?_
                                                exact lk_iret E rfl ⟨Nat.le_of_ble_eq_true rfl, Nat.le_of_ble_eq_true rfl⟩ dL_of_329
                                              · intro hx; subst hx
                                                refine lk_cx (x := 3) (M1 := M88) (hh := [(0, 317, 318, 98), (0, 317, 324, 100), (0, 317, 330, 102)]) E (fun u hI _ => ⟨_, Or.inl rfl, c11_hunks_x E.2.2.1.1 hI e86⟩) gP_173 hX11_hunks ⟨rfl, rfl⟩ ⟨Nat.le_of_ble_eq_true rfl, Nat.le_of_ble_eq_true rfl⟩ ⟨Nat.le_of_ble_eq_true rfl, Nat.le_of_ble_eq_true rfl⟩ rfl rfl rfl (Nat.le_of_ble_eq_true rfl) dL_of_299 htb [⟨0, 317, 318, 98⟩, ⟨0, 317, 324, 100⟩] ⟨0, 317, 330, 102⟩ [] rfl (fun z hz => by rcases List.mem_cons.mp hz with rfl | hz; exact ⟨by decide, _, lP_1, E.2.1.2.2.2.2.1.2.1⟩; cases List.mem_singleton.mp hz; exact ⟨by decide, _, lP_2, E.2.1.2.2.2.2.1.2.2⟩) rfl (by decide) lP_3 E.2.1.2.2.1.2.2.2.2.2.1 (fun q9 => ?_)
                                                refine rv_astore (q := 332) (lv' := [_, _, _, _, _, _, _]) E.x dL_of_330 (Nat.le_of_ble_eq_true rfl) rfl rfl rfl ?_
                                                refine rv_sipush (q := 335) E.x dL_of_332 rv_ksm1263 rfl ?_
                                                exact lk_iret E rfl ⟨Nat.le_of_ble_eq_true rfl, Nat.le_of_ble_eq_true rfl⟩ dL_of_335
                                          · refine rv_aload_n (q := 306) E.x dL_of_305 rfl rfl ?_
                                            refine rv_iload_n (q := 307) E.x dL_of_306 rfl rfl ?_
                                            refine rv_iload_n (q := 308) E.x dL_of_307 rfl rfl ?_
                                            refine rv_iload (q := 310) E.x dL_of_308 rfl rfl ?_
                                            refine rv_iconst (q := 311) E.x dL_of_310 rv_ki0 rfl ?_
                                            refine rv_iconst (q := 312) E.x dL_of_311 rv_ki1 rfl ?_
                                            refine rv_iload (q := 314) E.x dL_of_312 rfl rfl ?_
                                            refine lk_x3r (fun r90 M93 e89 => ?_) (fun w91 M94 e92 => ?_)
                                            · refine lk_ci (q := 317) (v := r90) (M1 := M93) E (fun u hI _ => c11_hunkAt E.2.2.1.1 hI e89) gP_177 hX11_hunkAt ⟨rfl, rfl⟩ ⟨Nat.le_of_ble_eq_true rfl, Nat.le_of_ble_eq_true rfl⟩ ⟨Nat.le_of_ble_eq_true rfl, Nat.le_of_ble_eq_true rfl⟩ rfl rfl rfl (Nat.le_of_ble_eq_true rfl) dL_of_314 rfl ?_
                                              exact lk_iret E rfl ⟨Nat.le_of_ble_eq_true rfl, Nat.le_of_ble_eq_true rfl⟩ dL_of_317
                                            · refine lk_hhr ?_ ?_ ?_
                                              · intro hx; subst hx
                                                refine lk_cx (x := 1) (M1 := M94) (hh := [(0, 317, 318, 98), (0, 317, 324, 100), (0, 317, 330, 102)]) E (fun u hI _ => ⟨_, Or.inl rfl, c11_hunkAt_x E.2.2.1.1 hI e92⟩) gP_177 hX11_hunkAt ⟨rfl, rfl⟩ ⟨Nat.le_of_ble_eq_true rfl, Nat.le_of_ble_eq_true rfl⟩ ⟨Nat.le_of_ble_eq_true rfl, Nat.le_of_ble_eq_true rfl⟩ rfl rfl rfl (Nat.le_of_ble_eq_true rfl) dL_of_314 htb [] ⟨0, 317, 318, 98⟩ [⟨0, 317, 324, 100⟩, ⟨0, 317, 330, 102⟩] rfl (fun z hz => nomatch hz) rfl (by decide) lP_1 E.2.1.2.2.1.2.2.2.1 (fun q9 => ?_)
                                                refine rv_astore (q := 320) (lv' := [_, _, _, _, _, _, _]) E.x dL_of_318 (Nat.le_of_ble_eq_true rfl) rfl rfl rfl ?_
                                                refine rv_sipush (q := 323) E.x dL_of_320 rv_ksm1261 rfl ?_
                                                exact lk_iret E rfl ⟨Nat.le_of_ble_eq_true rfl, Nat.le_of_ble_eq_true rfl⟩ dL_of_323
                                              · intro hx; subst hx
                                                refine lk_cx (x := 2) (M1 := M94) (hh := [(0, 317, 318, 98), (0, 317, 324, 100), (0, 317, 330, 102)]) E (fun u hI _ => ⟨_, Or.inl rfl, c11_hunkAt_x E.2.2.1.1 hI e92⟩) gP_177 hX11_hunkAt ⟨rfl, rfl⟩ ⟨Nat.le_of_ble_eq_true rfl, Nat.le_of_ble_eq_true rfl⟩ ⟨Nat.le_of_ble_eq_true rfl, Nat.le_of_ble_eq_true rfl⟩ rfl rfl rfl (Nat.le_of_ble_eq_true rfl) dL_of_314 htb [⟨0, 317, 318, 98⟩] ⟨0, 317, 324, 100⟩ [⟨0, 317, 330, 102⟩] rfl (fun z hz => by cases List.mem_singleton.mp hz; exact ⟨by decide, _, lP_1, E.2.1.2.2.2.2.1.1⟩) rfl (by decide) lP_2 E.2.1.2.2.1.2.2.2.2.1 (fun q9 => ?_)
                                                refine rv_astore (q := 326) (lv' := [_, _, _, _, _, _, _]) E.x dL_of_324 (Nat.le_of_ble_eq_true rfl) rfl rfl rfl ?_
                                                refine rv_sipush (q := 329) E.x dL_of_326 rv_ksm1262 rfl ?_
                                                exact lk_iret E rfl ⟨Nat.le_of_ble_eq_true rfl, Nat.le_of_ble_eq_true rfl⟩ dL_of_329
                                              · intro hx; subst hx
                                                refine lk_cx (x := 3) (M1 := M94) (hh := [(0, 317, 318, 98), (0, 317, 324, 100), (0, 317, 330, 102)]) E (fun u hI _ => ⟨_, Or.inl rfl, c11_hunkAt_x E.2.2.1.1 hI e92⟩) gP_177 hX11_hunkAt ⟨rfl, rfl⟩ ⟨Nat.le_of_ble_eq_true rfl, Nat.le_of_ble_eq_true rfl⟩ ⟨Nat.le_of_ble_eq_true rfl, Nat.le_of_ble_eq_true rfl⟩ rfl rfl rfl (Nat.le_of_ble_eq_true rfl) dL_of_314 htb [⟨0, 317, 318, 98⟩, ⟨0, 317, 324, 100⟩] ⟨0, 317, 330, 102⟩ [] rfl (fun z hz => by rcases List.mem_cons.mp hz with rfl | hz; exact ⟨by decide, _, lP_1, E.2.1.2.2.2.2.1.2.1⟩; cases List.mem_singleton.mp hz; exact ⟨by decide, _, lP_2, E.2.1.2.2.2.2.1.2.2⟩) rfl (by decide) lP_3 E.2.1.2.2.1.2.2.2.2.2.1 (fun q9 => ?_)
                                                refine rv_astore (q := 332) (lv' := [_, _, _, _, _, _, _]) E.x dL_of_330 (Nat.le_of_ble_eq_true rfl) rfl rfl rfl ?_
                                                refine rv_sipush (q := 335) E.x dL_of_332 rv_ksm1263 rfl ?_
                                                exact lk_iret E rfl ⟨Nat.le_of_ble_eq_true rfl, Nat.le_of_ble_eq_true rfl⟩ dL_of_335
theorem wP_of {l : Launch} {D : va_G} {cI cZ cO : ClassId} {mi de z0 o b L : Nat} {k : Nat → Nat} {xs : Nat → Int32} (S : lk_S l de z0 b k) {gh : rC_gh} {M A : rv_Mem} {a2 : Int32} {a3 : Int32} {a4 : Int32} {a5 : Int32} {a6 : Int32} {r : Int32} {M1 : rv_Mem} (h : gp_of gh M A a2 a3 a4 a5 a6 = some (r, M1)) : Met l yL_of (Cond.codeWith yL_of cL_of 7 (some .int) [(0, 317, 318, 98), (0, 317, 324, 100), (0, 317, 330, 102)] :: rv_AL) rmp_of (va_Pc [.ref o, .int a2, .int a3, .int a4, .int a5, .int a6] (lk_P D cI cZ cO mi de z0 o b L k xs (gh, M, A))) (lk_qi D cI cZ cO de z0 o k r (gh, M1, A)) 1 6 (fun q => z0 ≤ q) := lk_metW S rfl (Nat.le_of_ble_eq_true rfl) (fun p e s m args below meth c E htb => ⟨(lk_qRI D cI cZ cO de z0 o k gh A below args s 1 6), rfl, bp_of E htb gh M A a2 a3 a4 a5 a6⟩) h
