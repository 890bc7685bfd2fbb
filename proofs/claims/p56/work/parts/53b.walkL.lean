abbrev rmp_size : Room := { frames := 9, cells := 0, slots := 0, locals := 166 }
set_option maxRecDepth 100000 in
theorem bp_size_2_s {p : Program} {l : Launch} {e : Env} {s : State} {m : MethodId} {args : Array Value} {below : List Frame} {meth : Method} {c : Code} {D : va_G} {cI cZ cO : ClassId} {mi de z0 o b L : Nat} {k : Nat → Nat} {xs : Nat → Int32} (E : lk_E D cI cZ cO mi de z0 b L k xs cL_size 4 (some .int) p l s m args meth c) (gh : rC_gh) (A : rv_Mem)   (k2 : rv_Mem → Int32 → Int32 → Int32 → Option (Int32 × rv_Mem)) (h2 : ∀ (M : rv_Mem) (x1 : Int32) (x2 : Int32) (x3 : Int32), rv_M (lk_G D cI cZ cO de z0 o k) (fun q => z0 ≤ q) p l e rmp_size s m args below meth c 0 0 (lk_qRI D cI cZ cO de z0 o k gh A below args s 0 0) (k2 M x1 x2 x3) 2 [some (.ref o), some (.int x1), some (.int x2), some (.int x3)] [] (gh, M, A)) : ∀ (M : rv_Mem) (x1 : Int32) (x2 : Int32) (x3 : Int32), rv_M (lk_G D cI cZ cO de z0 o k) (fun q => z0 ≤ q) p l e rmp_size s m args below meth c 0 0 (lk_qRI D cI cZ cO de z0 o k gh A below args s 0 0) (gp_size_2_s gh A k2 M x1 x2 x3) 2 [some (.ref o), some (.int x1), some (.int x2), some (.int x3)] [] (gh, M, A) := by
  intro M x1 x2 x3
  unfold gp_size_2_s
  refine rv_aload_n (q := 3) E.x dL_size_2 rfl rfl ?_
  refine rv_iload_n (q := 4) E.x dL_size_3 rfl rfl ?_
  refine rv_iload_n (q := 5) E.x dL_size_4 rfl rfl ?_
  refine rv_iload_n (q := 6) E.x dL_size_5 rfl rfl ?_
  refine lk_x1r (fun r2 e1 => ?_) (fun w3 e4 => rv_stuck)
  refine lk_ci (q := 9) (v := r2) (M1 := M) E (fun u hI _ => c11_line E.2.2.1.1 hI e1) gP_112 hX11_line ⟨rfl, rfl⟩ ⟨Nat.le_of_ble_eq_true rfl, Nat.le_of_ble_eq_true rfl⟩ ⟨Nat.le_of_ble_eq_true rfl, Nat.le_of_ble_eq_true rfl⟩ rfl rfl rfl (Nat.le_of_ble_eq_true rfl) dL_size_6 rfl ?_
  refine rv_if_lt (q := 12) (tgt := 18) E.x dL_size_9 (by decide) rfl ?_ ?_
  · refine rv_iinc (q := 15) (lv' := [_, _, _, _]) E.x dL_size_12 rv_ki1 rfl rfl rfl rfl ?_
    refine rv_goto (q := 2) E.x dL_size_15 (by decide) ?_
    refine rv_wk [true, true, true, true] ?_
    exact h2 M x1 x2 (x3 + 1)
  · refine rv_iload_n (q := 19) E.x dL_size_18 rfl rfl ?_
    exact lk_iret E rfl ⟨Nat.le_of_ble_eq_true rfl, Nat.le_of_ble_eq_true rfl⟩ dL_size_19
theorem bp_size_2 {p : Program} {l : Launch} {e : Env} {s : State} {m : MethodId} {args : Array Value} {below : List Frame} {meth : Method} {c : Code} {D : va_G} {cI cZ cO : ClassId} {mi de z0 o b L : Nat} {k : Nat → Nat} {xs : Nat → Int32} (E : lk_E D cI cZ cO mi de z0 b L k xs cL_size 4 (some .int) p l s m args meth c) (gh : rC_gh) (A : rv_Mem)   : ∀ (n : Nat), ∀ (M : rv_Mem) (x1 : Int32) (x2 : Int32) (x3 : Int32), rv_M (lk_G D cI cZ cO de z0 o k) (fun q => z0 ≤ q) p l e rmp_size s m args below meth c 0 0 (lk_qRI D cI cZ cO de z0 o k gh A below args s 0 0) (gp_size_2 gh A n M x1 x2 x3) 2 [some (.ref o), some (.int x1), some (.int x2), some (.int x3)] [] (gh, M, A) := by
  intro n
  induction n with
  | zero => exact fun _ _ _ _ => rv_stuck
  | succ n ih => exact bp_size_2_s E gh A (gp_size_2 gh A n) ih
set_option maxRecDepth 100000 in
theorem bp_size {p : Program} {l : Launch} {e : Env} {s : State} {m : MethodId} {args : Array Value} {below : List Frame} {meth : Method} {c : Code} {D : va_G} {cI cZ cO : ClassId} {mi de z0 o b L : Nat} {k : Nat → Nat} {xs : Nat → Int32} (E : lk_E D cI cZ cO mi de z0 b L k xs cL_size 4 (some .int) p l s m args meth c) (gh : rC_gh) (M A : rv_Mem) (a2 : Int32) (a3 : Int32) : rv_M (lk_G D cI cZ cO de z0 o k) (fun q => z0 ≤ q) p l e rmp_size s m args below meth c 0 0 (lk_qRI D cI cZ cO de z0 o k gh A below args s 0 0) (gp_size gh M A a2 a3) 0 [some (.ref o), some (.int a2), some (.int a3), none] [] (gh, M, A) := by
  unfold gp_size
  refine rv_iconst (q := 1) E.x dL_size_0 rv_ki0 rfl ?_
  refine rv_istore_n (q := 2) (lv' := [_, _, _, _]) E.x dL_size_1 (Nat.le_of_ble_eq_true rfl) rfl rfl rfl ?_
  refine rv_wk [true, true, true, true] ?_
  exact bp_size_2 E gh A rv_FU M a2 a3 0
theorem wP_size {l : Launch} {D : va_G} {cI cZ cO : ClassId} {mi de z0 o b L : Nat} {k : Nat → Nat} {xs : Nat → Int32} (S : lk_S l de z0 b k) {gh : rC_gh} {M A : rv_Mem} {a2 : Int32} {a3 : Int32} {r : Int32} {M1 : rv_Mem} (h : gp_size gh M A a2 a3 = some (r, M1)) : Met l yL_size (rv_ws yL_size cL_size 4 (some .int)) rmp_size (va_Pc [.ref o, .int a2, .int a3] (lk_P D cI cZ cO mi de z0 o b L k xs (gh, M, A))) (lk_qi D cI cZ cO de z0 o k r (gh, M1, A)) 0 0 (fun q => z0 ≤ q) := lk_met S rfl (Nat.le_of_ble_eq_true rfl) (fun p e s m args below meth c E => ⟨(lk_qRI D cI cZ cO de z0 o k gh A below args s 0 0), rfl, bp_size E gh M A a2 a3⟩) h
abbrev rmp_now : Room := { frames := 8, cells := 0, slots := 0, locals := 144 }
set_option maxRecDepth 100000 in
theorem bp_now {p : Program} {l : Launch} {e : Env} {s : State} {m : MethodId} {args : Array Value} {below : List Frame} {meth : Method} {c : Code} {D : va_G} {cI cZ cO : ClassId} {mi de z0 o b L : Nat} {k : Nat → Nat} {xs : Nat → Int32} (E : lk_E D cI cZ cO mi de z0 b L k xs cL_now 2 (some .int) p l s m args meth c) (gh : rC_gh) (M A : rv_Mem) (a2 : Int32) : rv_M (lk_G D cI cZ cO de z0 o k) (fun q => z0 ≤ q) p l e rmp_now s m args below meth c 0 0 (lk_qRI D cI cZ cO de z0 o k gh A below args s 0 0) (gp_now gh M A a2) 0 [some (.ref o), some (.int a2)] [] (gh, M, A) := by
  unfold gp_now
  refine rv_aload_n (q := 1) E.x dL_now_0 rfl rfl ?_
  refine rv_iload_n (q := 2) E.x dL_now_1 rfl rfl ?_
  refine rv_aload_n (q := 3) E.x dL_now_2 rfl rfl ?_
  refine rv_iload_n (q := 4) E.x dL_now_3 rfl rfl ?_
  refine lk_x1r (fun r2 e1 => ?_) (fun w3 e4 => rv_stuck)
  refine lk_ci (q := 7) (v := r2) (M1 := M) E (fun u hI _ => c11_sets E.2.2.1.1 hI e1) gP_127 hX11_sets ⟨rfl, rfl⟩ ⟨Nat.le_of_ble_eq_true rfl, Nat.le_of_ble_eq_true rfl⟩ ⟨Nat.le_of_ble_eq_true rfl, Nat.le_of_ble_eq_true rfl⟩ rfl rfl rfl (Nat.le_of_ble_eq_true rfl) dL_now_4 rfl ?_
  refine rv_iconst (q := 8) E.x dL_now_7 rv_ki1 rfl ?_
  refine rv_isub (q := 9) E.x dL_now_8 rfl ?_
  refine lk_x1r (fun r6 e5 => ?_) (fun w7 e8 => rv_stuck)
  refine lk_ci (q := 12) (v := r6) (M1 := M) E (fun u hI _ => c11_commitOf E.2.2.1.1 hI e5) gP_130 hX11_commitOf ⟨rfl, rfl⟩ ⟨Nat.le_of_ble_eq_true rfl, Nat.le_of_ble_eq_true rfl⟩ ⟨Nat.le_of_ble_eq_true rfl, Nat.le_of_ble_eq_true rfl⟩ rfl rfl rfl (Nat.le_of_ble_eq_true rfl) dL_now_9 rfl ?_
  exact lk_iret E rfl ⟨Nat.le_of_ble_eq_true rfl, Nat.le_of_ble_eq_true rfl⟩ dL_now_12
theorem wP_now {l : Launch} {D : va_G} {cI cZ cO : ClassId} {mi de z0 o b L : Nat} {k : Nat → Nat} {xs : Nat → Int32} (S : lk_S l de z0 b k) {gh : rC_gh} {M A : rv_Mem} {a2 : Int32} {r : Int32} {M1 : rv_Mem} (h : gp_now gh M A a2 = some (r, M1)) : Met l yL_now (rv_ws yL_now cL_now 2 (some .int)) rmp_now (va_Pc [.ref o, .int a2] (lk_P D cI cZ cO mi de z0 o b L k xs (gh, M, A))) (lk_qi D cI cZ cO de z0 o k r (gh, M1, A)) 0 0 (fun q => z0 ≤ q) := lk_met S rfl (Nat.le_of_ble_eq_true rfl) (fun p e s m args below meth c E => ⟨(lk_qRI D cI cZ cO de z0 o k gh A below args s 0 0), rfl, bp_now E gh M A a2⟩) h
abbrev rmp_all : Room := { frames := 10, cells := 0, slots := 0, locals := 194 }
set_option maxRecDepth 100000 in
theorem bp_all_123_s {p : Program} {l : Launch} {e : Env} {s : State} {m : MethodId} {args : Array Value} {below : List Frame} {meth : Method} {c : Code} {D : va_G} {cI cZ cO : ClassId} {mi de z0 o b L : Nat} {k : Nat → Nat} {xs : Nat → Int32} (E : lk_E D cI cZ cO mi de z0 b L k xs cL_all 4 (some .long) p l s m args meth c) (gh : rC_gh) (A : rv_Mem)   (k123 : rv_Mem → Int64 → Int32 → Option (Int64 × rv_Mem)) (h123 : ∀ (M : rv_Mem) (x1 : Int64) (x3 : Int32), rv_M (lk_G D cI cZ cO de z0 o k) (fun q => z0 ≤ q) p l e rmp_all s m args below meth c 0 0 (lk_qRJ D cI cZ cO de z0 o k gh A below args s 0 0) (k123 M x1 x3) 123 [some (.ref o), some (.long x1), none, some (.int x3)] [] (gh, M, A)) : ∀ (M : rv_Mem) (x1 : Int64) (x3 : Int32), rv_M (lk_G D cI cZ cO de z0 o k) (fun q => z0 ≤ q) p l e rmp_all s m args below meth c 0 0 (lk_qRJ D cI cZ cO de z0 o k gh A below args s 0 0) (gp_all_123_s gh A k123 M x1 x3) 123 [some (.ref o), some (.long x1), none, some (.int x3)] [] (gh, M, A) := by
  intro M x1 x3
  unfold gp_all_123_s
  refine rv_iload_n (q := 124) E.x dL_all_123 rfl rfl ?_
  refine rv_bipush (q := 126) E.x dL_all_124 rv_kb6 rfl ?_
  refine rv_icmp_ge (q := 129) (tgt := 178) E.x dL_all_126 (by decide) rfl ?_ ?_
  · refine lk_ldc2 (q := 132) E wkL_185 dL_all_129 rfl ?_
    refine rv_lload_n (q := 133) E.x dL_all_132 rfl rfl ?_
    refine rv_lmul (q := 134) E.x dL_all_133 rfl ?_
    refine rv_aload_n (q := 135) E.x dL_all_134 rfl rfl ?_
    refine rv_iload_n (q := 136) E.x dL_all_135 rfl rfl ?_
    refine lk_x1r (fun r2 e1 => ?_) (fun w3 e4 => rv_stuck)
    refine lk_ci (q := 139) (v := r2) (M1 := M) E (fun u hI _ => c11_mails E.2.2.1.1 hI e1) gP_158 hX11_mails ⟨rfl, rfl⟩ ⟨Nat.le_of_ble_eq_true rfl, Nat.le_of_ble_eq_true rfl⟩ ⟨Nat.le_of_ble_eq_true rfl, Nat.le_of_ble_eq_true rfl⟩ rfl rfl rfl (Nat.le_of_ble_eq_true rfl) dL_all_136 rfl ?_
    refine rv_i2l (q := 140) E.x dL_all_139 rfl ?_
    refine rv_ladd (q := 141) E.x dL_all_140 rfl ?_
    refine lk_ldc2 (q := 144) E wkL_201 dL_all_141 rfl ?_
    refine rv_aload_n (q := 145) E.x dL_all_144 rfl rfl ?_
    refine rv_iconst (q := 146) E.x dL_all_145 rv_kim1 rfl ?_
    refine rv_iload_n (q := 147) E.x dL_all_146 rfl rfl ?_
    refine rv_iconst (q := 148) E.x dL_all_147 rv_ki4 rfl ?_
    refine rv_irem (q := 149) E.x dL_all_148 (by decide) rfl ?_
    refine rv_b2 (fun r6 M7 e5 => ?_)
    refine lk_cs0 (q := 152) (v := r6) (σ' := (gh, M7, A)) E (wP_size E.2.2.1 e5) gPs_203 hP_size ⟨rfl, rfl⟩ ⟨Nat.le_of_ble_eq_true rfl, Nat.le_of_ble_eq_true rfl⟩ ⟨Nat.le_of_ble_eq_true rfl, Nat.le_of_ble_eq_true rfl⟩ rfl rfl rfl (Nat.le_of_ble_eq_true rfl) dL_all_149 rfl ?_
    refine rv_i2l (q := 153) E.x dL_all_152 rfl ?_
    refine rv_lmul (q := 154) E.x dL_all_153 rfl ?_
    refine rv_ladd (q := 155) E.x dL_all_154 rfl ?_
    refine lk_ldc2 (q := 158) E wkL_209 dL_all_155 rfl ?_
    refine rv_aload_n (q := 159) E.x dL_all_158 rfl rfl ?_
    refine rv_iload_n (q := 160) E.x dL_all_159 rfl rfl ?_
    refine rv_iconst (q := 161) E.x dL_all_160 rv_ki2 rfl ?_
    refine rv_irem (q := 162) E.x dL_all_161 (by decide) rfl ?_
    refine rv_iload_n (q := 163) E.x dL_all_162 rfl rfl ?_
    refine rv_iconst (q := 164) E.x dL_all_163 rv_ki4 rfl ?_
    refine rv_irem (q := 165) E.x dL_all_164 (by decide) rfl ?_
    refine lk_x1r (fun r9 e8 => ?_) (fun w10 e11 => rv_stuck)
    refine lk_ci (q := 168) (v := r9) (M1 := M7) E (fun u hI _ => c11_owners E.2.2.1.1 hI e8) gP_139 hX11_owners ⟨rfl, rfl⟩ ⟨Nat.le_of_ble_eq_true rfl, Nat.le_of_ble_eq_true rfl⟩ ⟨Nat.le_of_ble_eq_true rfl, Nat.le_of_ble_eq_true rfl⟩ rfl rfl rfl (Nat.le_of_ble_eq_true rfl) dL_all_165 rfl ?_
    refine rv_i2l (q := 169) E.x dL_all_168 rfl ?_
    refine rv_lmul (q := 170) E.x dL_all_169 rfl ?_
    refine rv_ladd (q := 171) E.x dL_all_170 rfl ?_
    refine rv_lstore_n (q := 172) (lv' := [_, _, _, _]) E.x dL_all_171 (Nat.le_of_ble_eq_true rfl) rfl rfl rfl ?_
    refine rv_iinc (q := 175) (lv' := [_, _, _, _]) E.x dL_all_172 rv_ki1 rfl rfl rfl rfl ?_
    refine rv_goto (q := 123) E.x dL_all_175 (by decide) ?_
    refine rv_wk [true, true, false, true] ?_
    exact h123 M7 (((((31 : Int64) * x1) + (r2).toInt64) + ((7 : Int64) * (r6).toInt64)) + ((3 : Int64) * (r9).toInt64)) (x3 + 1)
  · refine rv_lload_n (q := 179) E.x dL_all_178 rfl rfl ?_
    exact lk_lret E rfl ⟨Nat.le_of_ble_eq_true rfl, Nat.le_of_ble_eq_true rfl⟩ dL_all_179
theorem bp_all_123 {p : Program} {l : Launch} {e : Env} {s : State} {m : MethodId} {args : Array Value} {below : List Frame} {meth : Method} {c : Code} {D : va_G} {cI cZ cO : ClassId} {mi de z0 o b L : Nat} {k : Nat → Nat} {xs : Nat → Int32} (E : lk_E D cI cZ cO mi de z0 b L k xs cL_all 4 (some .long) p l s m args meth c) (gh : rC_gh) (A : rv_Mem)   : ∀ (n : Nat), ∀ (M : rv_Mem) (x1 : Int64) (x3 : Int32), rv_M (lk_G D cI cZ cO de z0 o k) (fun q => z0 ≤ q) p l e rmp_all s m args below meth c 0 0 (lk_qRJ D cI cZ cO de z0 o k gh A below args s 0 0) (gp_all_123 gh A n M x1 x3) 123 [some (.ref o), some (.long x1), none, some (.int x3)] [] (gh, M, A) := by
  intro n
  induction n with
  | zero => exact fun _ _ _ => rv_stuck
  | succ n ih => exact bp_all_123_s E gh A (gp_all_123 gh A n) ih
set_option maxRecDepth 100000 in
theorem bp_all_50_s {p : Program} {l : Launch} {e : Env} {s : State} {m : MethodId} {args : Array Value} {below : List Frame} {meth : Method} {c : Code} {D : va_G} {cI cZ cO : ClassId} {mi de z0 o b L : Nat} {k : Nat → Nat} {xs : Nat → Int32} (E : lk_E D cI cZ cO mi de z0 b L k xs cL_all 4 (some .long) p l s m args meth c) (gh : rC_gh) (A : rv_Mem)   (k50 : rv_Mem → Int64 → Int32 → Option (Int64 × rv_Mem)) (h50 : ∀ (M : rv_Mem) (x1 : Int64) (x3 : Int32), rv_M (lk_G D cI cZ cO de z0 o k) (fun q => z0 ≤ q) p l e rmp_all s m args below meth c 0 0 (lk_qRJ D cI cZ cO de z0 o k gh A below args s 0 0) (k50 M x1 x3) 50 [some (.ref o), some (.long x1), none, some (.int x3)] [] (gh, M, A)) : ∀ (M : rv_Mem) (x1 : Int64) (x3 : Int32), rv_M (lk_G D cI cZ cO de z0 o k) (fun q => z0 ≤ q) p l e rmp_all s m args below meth c 0 0 (lk_qRJ D cI cZ cO de z0 o k gh A below args s 0 0) (gp_all_50_s gh A k50 M x1 x3) 50 [some (.ref o), some (.long x1), none, some (.int x3)] [] (gh, M, A) := by
  intro M x1 x3
  unfold gp_all_50_s
  refine rv_iload_n (q := 51) E.x dL_all_50 rfl rfl ?_
  refine rv_aload_n (q := 52) E.x dL_all_51 rfl rfl ?_
  refine rv_b1 (fun r2 e1 => ?_)
  refine lk_cn (q := 55) (v := r2) (M1 := M) E (fun u hI => c11_changes hI e1) gP_187 hX11_changes ⟨rfl, rfl⟩ ⟨Nat.le_of_ble_eq_true rfl, Nat.le_of_ble_eq_true rfl⟩ ⟨Nat.le_of_ble_eq_true rfl, Nat.le_of_ble_eq_true rfl⟩ rfl rfl rfl (Nat.le_of_ble_eq_true rfl) dL_all_52 rfl ?_
  refine rv_icmp_ge (q := 58) (tgt := 121) E.x dL_all_55 (by decide) rfl ?_ ?_
  · refine lk_ldc2 (q := 61) E wkL_199 dL_all_58 rfl ?_
    refine rv_lload_n (q := 62) E.x dL_all_61 rfl rfl ?_
    refine rv_lmul (q := 63) E.x dL_all_62 rfl ?_
    refine rv_aload_n (q := 64) E.x dL_all_63 rfl rfl ?_
    refine rv_iload_n (q := 65) E.x dL_all_64 rfl rfl ?_
    refine lk_x1r (fun r4 e3 => ?_) (fun w5 e6 => rv_stuck)
    refine lk_ci (q := 68) (v := r4) (M1 := M) E (fun u hI _ => c11_stateOf E.2.2.1.1 hI e3) gP_124 hX11_stateOf ⟨rfl, rfl⟩ ⟨Nat.le_of_ble_eq_true rfl, Nat.le_of_ble_eq_true rfl⟩ ⟨Nat.le_of_ble_eq_true rfl, Nat.le_of_ble_eq_true rfl⟩ rfl rfl rfl (Nat.le_of_ble_eq_true rfl) dL_all_65 rfl ?_
    refine rv_i2l (q := 69) E.x dL_all_68 rfl ?_
    refine rv_ladd (q := 70) E.x dL_all_69 rfl ?_
    refine lk_ldc2 (q := 73) E wkL_201 dL_all_70 rfl ?_
    refine rv_aload_n (q := 74) E.x dL_all_73 rfl rfl ?_
    refine rv_iload_n (q := 75) E.x dL_all_74 rfl rfl ?_
    refine lk_x1r (fun r8 e7 => ?_) (fun w9 e10 => rv_stuck)
    refine lk_ci (q := 78) (v := r8) (M1 := M) E (fun u hI _ => c11_sets E.2.2.1.1 hI e7) gP_127 hX11_sets ⟨rfl, rfl⟩ ⟨Nat.le_of_ble_eq_true rfl, Nat.le_of_ble_eq_true rfl⟩ ⟨Nat.le_of_ble_eq_true rfl, Nat.le_of_ble_eq_true rfl⟩ rfl rfl rfl (Nat.le_of_ble_eq_true rfl) dL_all_75 rfl ?_
    refine rv_i2l (q := 79) E.x dL_all_78 rfl ?_
    refine rv_lmul (q := 80) E.x dL_all_79 rfl ?_
    refine rv_ladd (q := 81) E.x dL_all_80 rfl ?_
    refine lk_ldc2 (q := 84) E wkL_185 dL_all_81 rfl ?_
    refine rv_aload_n (q := 85) E.x dL_all_84 rfl rfl ?_
    refine rv_iload_n (q := 86) E.x dL_all_85 rfl rfl ?_
    refine lk_x1r (fun r12 e11 => ?_) (fun w13 e14 => rv_stuck)
    refine lk_ci (q := 89) (v := r12) (M1 := M) E (fun u hI _ => c11_statements E.2.2.1.1 hI e11) gP_146 hX11_statements ⟨rfl, rfl⟩ ⟨Nat.le_of_ble_eq_true rfl, Nat.le_of_ble_eq_true rfl⟩ ⟨Nat.le_of_ble_eq_true rfl, Nat.le_of_ble_eq_true rfl⟩ rfl rfl rfl (Nat.le_of_ble_eq_true rfl) dL_all_86 rfl ?_
    refine rv_i2l (q := 90) E.x dL_all_89 rfl ?_
    refine rv_lmul (q := 91) E.x dL_all_90 rfl ?_
    refine rv_ladd (q := 92) E.x dL_all_91 rfl ?_
    refine lk_ldc2 (q := 95) E wkL_190 dL_all_92 rfl ?_
    refine rv_aload_n (q := 96) E.x dL_all_95 rfl rfl ?_
    refine rv_iload_n (q := 97) E.x dL_all_96 rfl rfl ?_
    refine lk_x1r (fun r16 e15 => ?_) (fun w17 e18 => rv_stuck)
    refine lk_ci (q := 100) (v := r16) (M1 := M) E (fun u hI _ => c11_reviewers E.2.2.1.1 hI e15) gP_152 hX11_reviewers ⟨rfl, rfl⟩ ⟨Nat.le_of_ble_eq_true rfl, Nat.le_of_ble_eq_true rfl⟩ ⟨Nat.le_of_ble_eq_true rfl, Nat.le_of_ble_eq_true rfl⟩ rfl rfl rfl (Nat.le_of_ble_eq_true rfl) dL_all_97 rfl ?_
    refine rv_i2l (q := 101) E.x dL_all_100 rfl ?_
    refine rv_lmul (q := 102) E.x dL_all_101 rfl ?_
    refine rv_ladd (q := 103) E.x dL_all_102 rfl ?_
    refine lk_ldc2 (q := 106) E wkL_195 dL_all_103 rfl ?_
    refine rv_aload_n (q := 107) E.x dL_all_106 rfl rfl ?_
    refine rv_iload_n (q := 108) E.x dL_all_107 rfl rfl ?_
    refine lk_x1r (fun r20 e19 => ?_) (fun w21 e22 => rv_stuck)
    refine lk_ci (q := 111) (v := r20) (M1 := M) E (fun u hI _ => c11_whoseTurn E.2.2.1.1 hI e19) gP_155 hX11_whoseTurn ⟨rfl, rfl⟩ ⟨Nat.le_of_ble_eq_true rfl, Nat.le_of_ble_eq_true rfl⟩ ⟨Nat.le_of_ble_eq_true rfl, Nat.le_of_ble_eq_true rfl⟩ rfl rfl rfl (Nat.le_of_ble_eq_true rfl) dL_all_108 rfl ?_
    refine rv_i2l (q := 112) E.x dL_all_111 rfl ?_
    refine rv_lmul (q := 113) E.x dL_all_112 rfl ?_
    refine rv_ladd (q := 114) E.x dL_all_113 rfl ?_
    refine rv_lstore_n (q := 115) (lv' := [_, _, _, _]) E.x dL_all_114 (Nat.le_of_ble_eq_true rfl) rfl rfl rfl ?_
    refine rv_iinc (q := 118) (lv' := [_, _, _, _]) E.x dL_all_115 rv_ki1 rfl rfl rfl rfl ?_
    refine rv_goto (q := 50) E.x dL_all_118 (by decide) ?_
    refine rv_wk [true, true, false, true] ?_
    exact h50 M (((((((1000003 : Int64) * x1) + (r4).toInt64) + ((7 : Int64) * (r8).toInt64)) + ((31 : Int64) * (r12).toInt64)) + ((961 : Int64) * (r16).toInt64)) + ((29791 : Int64) * (r20).toInt64)) (x3 + 1)
  · refine rv_iconst (q := 122) E.x dL_all_121 rv_ki0 rfl ?_
    refine rv_istore_n (q := 123) (lv' := [_, _, _, _]) E.x dL_all_122 (Nat.le_of_ble_eq_true rfl) rfl rfl rfl ?_
    refine rv_wk [true, true, false, true] ?_
    exact bp_all_123 E gh A rv_FU M x1 0
theorem bp_all_50 {p : Program} {l : Launch} {e : Env} {s : State} {m : MethodId} {args : Array Value} {below : List Frame} {meth : Method} {c : Code} {D : va_G} {cI cZ cO : ClassId} {mi de z0 o b L : Nat} {k : Nat → Nat} {xs : Nat → Int32} (E : lk_E D cI cZ cO mi de z0 b L k xs cL_all 4 (some .long) p l s m args meth c) (gh : rC_gh) (A : rv_Mem)   : ∀ (n : Nat), ∀ (M : rv_Mem) (x1 : Int64) (x3 : Int32), rv_M (lk_G D cI cZ cO de z0 o k) (fun q => z0 ≤ q) p l e rmp_all s m args below meth c 0 0 (lk_qRJ D cI cZ cO de z0 o k gh A below args s 0 0) (gp_all_50 gh A n M x1 x3) 50 [some (.ref o), some (.long x1), none, some (.int x3)] [] (gh, M, A) := by
  intro n
  induction n with
  | zero => exact fun _ _ _ => rv_stuck
  | succ n ih => exact bp_all_50_s E gh A (gp_all_50 gh A n) ih
set_option maxRecDepth 100000 in
theorem bp_all {p : Program} {l : Launch} {e : Env} {s : State} {m : MethodId} {args : Array Value} {below : List Frame} {meth : Method} {c : Code} {D : va_G} {cI cZ cO : ClassId} {mi de z0 o b L : Nat} {k : Nat → Nat} {xs : Nat → Int32} (E : lk_E D cI cZ cO mi de z0 b L k xs cL_all 4 (some .long) p l s m args meth c) (gh : rC_gh) (M A : rv_Mem)  : rv_M (lk_G D cI cZ cO de z0 o k) (fun q => z0 ≤ q) p l e rmp_all s m args below meth c 0 0 (lk_qRJ D cI cZ cO de z0 o k gh A below args s 0 0) (gp_all gh M A) 0 [some (.ref o), none, none, none] [] (gh, M, A) := by
  unfold gp_all
  refine rv_aload_n (q := 1) E.x dL_all_0 rfl rfl ?_
  refine rv_b1 (fun r2 e1 => ?_)
  refine lk_cn (q := 4) (v := r2) (M1 := M) E (fun u hI => c11_commits hI e1) gP_181 hX11_commits ⟨rfl, rfl⟩ ⟨Nat.le_of_ble_eq_true rfl, Nat.le_of_ble_eq_true rfl⟩ ⟨Nat.le_of_ble_eq_true rfl, Nat.le_of_ble_eq_true rfl⟩ rfl rfl rfl (Nat.le_of_ble_eq_true rfl) dL_all_1 rfl ?_
  refine rv_i2l (q := 5) E.x dL_all_4 rfl ?_
  refine lk_ldc2 (q := 8) E wkL_185 dL_all_5 rfl ?_
  refine rv_aload_n (q := 9) E.x dL_all_8 rfl rfl ?_
  refine rv_b1 (fun r4 e3 => ?_)
  refine lk_cn (q := 12) (v := r4) (M1 := M) E (fun u hI => c11_changes hI e3) gP_187 hX11_changes ⟨rfl, rfl⟩ ⟨Nat.le_of_ble_eq_true rfl, Nat.le_of_ble_eq_true rfl⟩ ⟨Nat.le_of_ble_eq_true rfl, Nat.le_of_ble_eq_true rfl⟩ rfl rfl rfl (Nat.le_of_ble_eq_true rfl) dL_all_9 rfl ?_
  refine rv_i2l (q := 13) E.x dL_all_12 rfl ?_
  refine rv_lmul (q := 14) E.x dL_all_13 rfl ?_
  refine rv_ladd (q := 15) E.x dL_all_14 rfl ?_
  refine lk_ldc2 (q := 18) E wkL_190 dL_all_15 rfl ?_
  refine rv_aload_n (q := 19) E.x dL_all_18 rfl rfl ?_
  refine rv_b1 (fun r6 e5 => ?_)
  refine lk_cn (q := 22) (v := r6) (M1 := M) E (fun u hI => c11_day hI e5) gP_192 hX11_day ⟨rfl, rfl⟩ ⟨Nat.le_of_ble_eq_true rfl, Nat.le_of_ble_eq_true rfl⟩ ⟨Nat.le_of_ble_eq_true rfl, Nat.le_of_ble_eq_true rfl⟩ rfl rfl rfl (Nat.le_of_ble_eq_true rfl) dL_all_19 rfl ?_
  refine rv_i2l (q := 23) E.x dL_all_22 rfl ?_
  refine rv_lmul (q := 24) E.x dL_all_23 rfl ?_
  refine rv_ladd (q := 25) E.x dL_all_24 rfl ?_
  refine lk_ldc2 (q := 28) E wkL_195 dL_all_25 rfl ?_
  refine rv_aload_n (q := 29) E.x dL_all_28 rfl rfl ?_
  refine rv_iconst (q := 30) E.x dL_all_29 rv_ki0 rfl ?_
  refine lk_x1r (fun r8 e7 => ?_) (fun w9 e10 => rv_stuck)
  refine lk_ci (q := 33) (v := r8) (M1 := M) E (fun u hI _ => c11_tip E.2.2.1.1 hI e7) gP_118 hX11_tip ⟨rfl, rfl⟩ ⟨Nat.le_of_ble_eq_true rfl, Nat.le_of_ble_eq_true rfl⟩ ⟨Nat.le_of_ble_eq_true rfl, Nat.le_of_ble_eq_true rfl⟩ rfl rfl rfl (Nat.le_of_ble_eq_true rfl) dL_all_30 rfl ?_
  refine rv_i2l (q := 34) E.x dL_all_33 rfl ?_
  refine rv_lmul (q := 35) E.x dL_all_34 rfl ?_
  refine rv_ladd (q := 36) E.x dL_all_35 rfl ?_
  refine lk_ldc2 (q := 39) E wkL_197 dL_all_36 rfl ?_
  refine rv_aload_n (q := 40) E.x dL_all_39 rfl rfl ?_
  refine rv_iconst (q := 41) E.x dL_all_40 rv_ki1 rfl ?_
  refine lk_x1r (fun r12 e11 => ?_) (fun w13 e14 => rv_stuck)
  refine lk_ci (q := 44) (v := r12) (M1 := M) E (fun u hI _ => c11_tip E.2.2.1.1 hI e11) gP_118 hX11_tip ⟨rfl, rfl⟩ ⟨Nat.le_of_ble_eq_true rfl, Nat.le_of_ble_eq_true rfl⟩ ⟨Nat.le_of_ble_eq_true rfl, Nat.le_of_ble_eq_true rfl⟩ rfl rfl rfl (Nat.le_of_ble_eq_true rfl) dL_all_41 rfl ?_
  refine rv_i2l (q := 45) E.x dL_all_44 rfl ?_
  refine rv_lmul (q := 46) E.x dL_all_45 rfl ?_
  refine rv_ladd (q := 47) E.x dL_all_46 rfl ?_
  refine rv_lstore_n (q := 48) (lv' := [_, _, _, _]) E.x dL_all_47 (Nat.le_of_ble_eq_true rfl) rfl rfl rfl ?_
  refine rv_iconst (q := 49) E.x dL_all_48 rv_ki0 rfl ?_
  refine rv_istore_n (q := 50) (lv' := [_, _, _, _]) E.x dL_all_49 (Nat.le_of_ble_eq_true rfl) rfl rfl rfl ?_
  refine rv_wk [true, true, false, true] ?_
  exact bp_all_50 E gh A rv_FU M (((((r2).toInt64 + ((31 : Int64) * (r4).toInt64)) + ((961 : Int64) * (r6).toInt64)) + ((29791 : Int64) * (r8).toInt64)) + ((65537 : Int64) * (r12).toInt64)) 0
theorem wP_all {l : Launch} {D : va_G} {cI cZ cO : ClassId} {mi de z0 o b L : Nat} {k : Nat → Nat} {xs : Nat → Int32} (S : lk_S l de z0 b k) {gh : rC_gh} {M A : rv_Mem} {r : Int64} {M1 : rv_Mem} (h : gp_all gh M A = some (r, M1)) : Met l yL_all (rv_ws yL_all cL_all 4 (some .long)) rmp_all (va_Pc [.ref o] (lk_P D cI cZ cO mi de z0 o b L k xs (gh, M, A))) (lk_ql D cI cZ cO de z0 o k r (gh, M1, A)) 0 0 (fun q => z0 ≤ q) := lk_met S rfl (Nat.le_of_ble_eq_true rfl) (fun p e s m args below meth c E => ⟨(lk_qRJ D cI cZ cO de z0 o k gh A below args s 0 0), rfl, bp_all E gh M A ⟩) h
abbrev rmp_most : Room := { frames := 10, cells := 0, slots := 0, locals := 189 }
set_option maxRecDepth 100000 in
theorem bp_most_142 {p : Program} {l : Launch} {e : Env} {s : State} {m : MethodId} {args : Array Value} {below : List Frame} {meth : Method} {c : Code} {D : va_G} {cI cZ cO : ClassId} {mi de z0 o b L : Nat} {k : Nat → Nat} {xs : Nat → Int32} (E : lk_E D cI cZ cO mi de z0 b L k xs cL_most 17 (some .int) p l s m args meth c) (gh : rC_gh) (A : rv_Mem) (k21 : rv_Mem → Int32 → Int32 → Int32 → Int32 → Int64 → Int32 → Option (Int32 × rv_Mem)) (k35 : rv_Mem → Int32 → Int32 → Int32 → Int32 → Int64 → Int32 → Int64 → Int32 → Option (Int32 × rv_Mem)) (h21 : ∀ (M : rv_Mem) (x1 : Int32) (x2 : Int32) (x3 : Int32) (x4 : Int32) (x5 : Int64) (x7 : Int32), rv_M (lk_G D cI cZ cO de z0 o k) (fun q => z0 ≤ q) p l e rmp_most s m args below meth c 0 0 (lk_qRI D cI cZ cO de z0 o k gh A below args s 0 0) (k21 M x1 x2 x3 x4 x5 x7) 21 [some (.ref o), some (.int x1), some (.int x2), some (.int x3), some (.int x4), some (.long x5), none, some (.int x7), none, none, none, none, none, none, none, none, none] [] (gh, M, A)) (h35 : ∀ (M : rv_Mem) (x1 : Int32) (x2 : Int32) (x3 : Int32) (x4 : Int32) (x5 : Int64) (x7 : Int32) (x8 : Int64) (x10 : Int32), rv_M (lk_G D cI cZ cO de z0 o k) (fun q => z0 ≤ q) p l e rmp_most s m args below meth c 0 0 (lk_qRI D cI cZ cO de z0 o k gh A below args s 0 0) (k35 M x1 x2 x3 x4 x5 x7 x8 x10) 35 [some (.ref o), some (.int x1), some (.int x2), some (.int x3), some (.int x4), some (.long x5), none, some (.int x7), some (.long x8), none, some (.int x10), none, none, none, none, none, none] [] (gh, M, A)) : ∀ (M : rv_Mem) (x1 : Int32) (x2 : Int32) (x3 : Int32) (x4 : Int32) (x5 : Int64) (x7 : Int32) (x10 : Int32) (s0 : Int64) (s1 : Int64), rv_M (lk_G D cI cZ cO de z0 o k) (fun q => z0 ≤ q) p l e rmp_most s m args below meth c 0 0 (lk_qRI D cI cZ cO de z0 o k gh A below args s 0 0) (gp_most_142 gh A k21 k35 M x1 x2 x3 x4 x5 x7 x10 s0 s1) 142 [some (.ref o), some (.int x1), some (.int x2), some (.int x3), some (.int x4), some (.long x5), none, some (.int x7), none, none, some (.int x10), none, none, none, none, none, none] [.long s1, .long s0] (gh, M, A) := by
  intro M x1 x2 x3 x4 x5 x7 x10 s0 s1
  unfold gp_most_142
  refine rv_iconst (q := 143) E.x dL_most_142 rv_ki4 rfl ?_
  refine rv_iload (q := 145) E.x dL_most_143 rfl rfl ?_
  refine rv_imul (q := 146) E.x dL_most_145 rfl ?_
  refine rv_lshl (q := 147) E.x dL_most_146 rfl ?_
  refine rv_lor (q := 148) E.x dL_most_147 rfl ?_
  refine rv_lstore (q := 150) (lv' := [_, _, _, _, _, _, _, _, _, _, _, _, _, _, _, _, _]) E.x dL_most_148 (Nat.le_of_ble_eq_true rfl) rfl rfl rfl ?_
  refine rv_iinc (q := 153) (lv' := [_, _, _, _, _, _, _, _, _, _, _, _, _, _, _, _, _]) E.x dL_most_150 rv_kim1 rfl rfl rfl rfl ?_
  refine rv_goto (q := 35) E.x dL_most_153 (by decide) ?_
  refine rv_wk [true, true, true, true, true, true, false, true, true, false, true, false, false, false, false, false, false] ?_
  exact h35 M x1 x2 x3 x4 x5 x7 (s0 ||| (s1 <<< (((4 * x10)).toInt64 &&& 63))) (x10 + (-1))
set_option maxRecDepth 100000 in
theorem bp_most_123 {p : Program} {l : Launch} {e : Env} {s : State} {m : MethodId} {args : Array Value} {below : List Frame} {meth : Method} {c : Code} {D : va_G} {cI cZ cO : ClassId} {mi de z0 o b L : Nat} {k : Nat → Nat} {xs : Nat → Int32} (E : lk_E D cI cZ cO mi de z0 b L k xs cL_most 17 (some .int) p l s m args meth c) (gh : rC_gh) (A : rv_Mem) (k21 : rv_Mem → Int32 → Int32 → Int32 → Int32 → Int64 → Int32 → Option (Int32 × rv_Mem)) (k35 : rv_Mem → Int32 → Int32 → Int32 → Int32 → Int64 → Int32 → Int64 → Int32 → Option (Int32 × rv_Mem)) (h21 : ∀ (M : rv_Mem) (x1 : Int32) (x2 : Int32) (x3 : Int32) (x4 : Int32) (x5 : Int64) (x7 : Int32), rv_M (lk_G D cI cZ cO de z0 o k) (fun q => z0 ≤ q) p l e rmp_most s m args below meth c 0 0 (lk_qRI D cI cZ cO de z0 o k gh A below args s 0 0) (k21 M x1 x2 x3 x4 x5 x7) 21 [some (.ref o), some (.int x1), some (.int x2), some (.int x3), some (.int x4), some (.long x5), none, some (.int x7), none, none, none, none, none, none, none, none, none] [] (gh, M, A)) (h35 : ∀ (M : rv_Mem) (x1 : Int32) (x2 : Int32) (x3 : Int32) (x4 : Int32) (x5 : Int64) (x7 : Int32) (x8 : Int64) (x10 : Int32), rv_M (lk_G D cI cZ cO de z0 o k) (fun q => z0 ≤ q) p l e rmp_most s m args below meth c 0 0 (lk_qRI D cI cZ cO de z0 o k gh A below args s 0 0) (k35 M x1 x2 x3 x4 x5 x7 x8 x10) 35 [some (.ref o), some (.int x1), some (.int x2), some (.int x3), some (.int x4), some (.long x5), none, some (.int x7), some (.long x8), none, some (.int x10), none, none, none, none, none, none] [] (gh, M, A)) : ∀ (M : rv_Mem) (x1 : Int32) (x2 : Int32) (x3 : Int32) (x4 : Int32) (x5 : Int64) (x7 : Int32) (x8 : Int64) (x10 : Int32) (x15 : Int64) (s0 : Int64), rv_M (lk_G D cI cZ cO de z0 o k) (fun q => z0 ≤ q) p l e rmp_most s m args below meth c 0 0 (lk_qRI D cI cZ cO de z0 o k gh A below args s 0 0) (gp_most_123 gh A k21 k35 M x1 x2 x3 x4 x5 x7 x8 x10 x15 s0) 123 [some (.ref o), some (.int x1), some (.int x2), some (.int x3), some (.int x4), some (.long x5), none, some (.int x7), some (.long x8), none, some (.int x10), none, none, none, none, some (.long x15), none] [.long s0] (gh, M, A) := by
  intro M x1 x2 x3 x4 x5 x7 x8 x10 x15 s0
  unfold gp_most_123
  refine rv_lstore (q := 125) (lv' := [_, _, _, _, _, _, _, _, _, _, _, _, _, _, _, _, _]) E.x dL_most_123 (Nat.le_of_ble_eq_true rfl) rfl rfl rfl ?_
  refine rv_lload (q := 127) E.x dL_most_125 rfl rfl ?_
  refine rv_lload (q := 129) E.x dL_most_127 rfl rfl ?_
  refine rv_lload (q := 131) E.x dL_most_129 rfl rfl ?_
  refine rv_lcmp (q := 132) E.x dL_most_131 rfl ?_
  refine rv_if_le (q := 135) (tgt := 140) E.x dL_most_132 (by decide) rfl ?_ ?_
  · refine rv_lload (q := 137) E.x dL_most_135 rfl rfl ?_
    refine rv_goto (q := 142) E.x dL_most_137 (by decide) ?_
    refine rv_wk [true, true, true, true, true, true, false, true, false, false, true, false, false, false, false, false, false] ?_
    exact bp_most_142 E gh A k21 k35 h21 h35 M x1 x2 x3 x4 x5 x7 x10 x8 s0
  · refine rv_lload (q := 142) E.x dL_most_140 rfl rfl ?_
    refine rv_wk [true, true, true, true, true, true, false, true, false, false, true, false, false, false, false, false, false] ?_
    exact bp_most_142 E gh A k21 k35 h21 h35 M x1 x2 x3 x4 x5 x7 x10 x8 x15
set_option maxRecDepth 100000 in
theorem bp_most_78 {p : Program} {l : Launch} {e : Env} {s : State} {m : MethodId} {args : Array Value} {below : List Frame} {meth : Method} {c : Code} {D : va_G} {cI cZ cO : ClassId} {mi de z0 o b L : Nat} {k : Nat → Nat} {xs : Nat → Int32} (E : lk_E D cI cZ cO mi de z0 b L k xs cL_most 17 (some .int) p l s m args meth c) (gh : rC_gh) (A : rv_Mem) (k21 : rv_Mem → Int32 → Int32 → Int32 → Int32 → Int64 → Int32 → Option (Int32 × rv_Mem)) (k35 : rv_Mem → Int32 → Int32 → Int32 → Int32 → Int64 → Int32 → Int64 → Int32 → Option (Int32 × rv_Mem)) (h21 : ∀ (M : rv_Mem) (x1 : Int32) (x2 : Int32) (x3 : Int32) (x4 : Int32) (x5 : Int64) (x7 : Int32), rv_M (lk_G D cI cZ cO de z0 o k) (fun q => z0 ≤ q) p l e rmp_most s m args below meth c 0 0 (lk_qRI D cI cZ cO de z0 o k gh A below args s 0 0) (k21 M x1 x2 x3 x4 x5 x7) 21 [some (.ref o), some (.int x1), some (.int x2), some (.int x3), some (.int x4), some (.long x5), none, some (.int x7), none, none, none, none, none, none, none, none, none] [] (gh, M, A)) (h35 : ∀ (M : rv_Mem) (x1 : Int32) (x2 : Int32) (x3 : Int32) (x4 : Int32) (x5 : Int64) (x7 : Int32) (x8 : Int64) (x10 : Int32), rv_M (lk_G D cI cZ cO de z0 o k) (fun q => z0 ≤ q) p l e rmp_most s m args below meth c 0 0 (lk_qRI D cI cZ cO de z0 o k gh A below args s 0 0) (k35 M x1 x2 x3 x4 x5 x7 x8 x10) 35 [some (.ref o), some (.int x1), some (.int x2), some (.int x3), some (.int x4), some (.long x5), none, some (.int x7), some (.long x8), none, some (.int x10), none, none, none, none, none, none] [] (gh, M, A)) : ∀ (M : rv_Mem) (x1 : Int32) (x2 : Int32) (x3 : Int32) (x4 : Int32) (x5 : Int64) (x7 : Int32) (x8 : Int64) (x10 : Int32) (s0 : Int64), rv_M (lk_G D cI cZ cO de z0 o k) (fun q => z0 ≤ q) p l e rmp_most s m args below meth c 0 0 (lk_qRI D cI cZ cO de z0 o k gh A below args s 0 0) (gp_most_78 gh A k21 k35 M x1 x2 x3 x4 x5 x7 x8 x10 s0) 78 [some (.ref o), some (.int x1), some (.int x2), some (.int x3), some (.int x4), some (.long x5), none, some (.int x7), some (.long x8), none, some (.int x10), none, none, none, none, none, none] [.long s0] (gh, M, A) := by
  intro M x1 x2 x3 x4 x5 x7 x8 x10 s0
  unfold gp_most_78
  refine rv_lstore (q := 80) (lv' := [_, _, _, _, _, _, _, _, _, _, _, _, _, _, _, _, _]) E.x dL_most_78 (Nat.le_of_ble_eq_true rfl) rfl rfl rfl ?_
  refine rv_lload (q := 82) E.x dL_most_80 rfl rfl ?_
  refine rv_iconst (q := 83) E.x dL_most_82 rv_ki4 rfl ?_
  refine rv_iload (q := 85) E.x dL_most_83 rfl rfl ?_
  refine rv_imul (q := 86) E.x dL_most_85 rfl ?_
  refine rv_lshr (q := 87) E.x dL_most_86 rfl ?_
  refine lk_ldc2 (q := 90) E wkL_211 dL_most_87 rfl ?_
  refine rv_land (q := 91) E.x dL_most_90 rfl ?_
  refine rv_lstore (q := 93) (lv' := [_, _, _, _, _, _, _, _, _, _, _, _, _, _, _, _, _]) E.x dL_most_91 (Nat.le_of_ble_eq_true rfl) rfl rfl rfl ?_
  refine rv_lload (q := 95) E.x dL_most_93 rfl rfl ?_
  refine rv_iconst (q := 96) E.x dL_most_95 rv_ki4 rfl ?_
  refine rv_iload (q := 98) E.x dL_most_96 rfl rfl ?_
  refine rv_imul (q := 99) E.x dL_most_98 rfl ?_
  refine rv_iconst (q := 100) E.x dL_most_99 rv_ki4 rfl ?_
  refine rv_iadd (q := 101) E.x dL_most_100 rfl ?_
  refine rv_lshr (q := 102) E.x dL_most_101 rfl ?_
  refine lk_ldc2 (q := 105) E wkL_211 dL_most_102 rfl ?_
  refine rv_land (q := 106) E.x dL_most_105 rfl ?_
  refine rv_lstore (q := 108) (lv' := [_, _, _, _, _, _, _, _, _, _, _, _, _, _, _, _, _]) E.x dL_most_106 (Nat.le_of_ble_eq_true rfl) rfl rfl rfl ?_
  refine rv_lload (q := 110) E.x dL_most_108 rfl rfl ?_
  refine rv_lload (q := 112) E.x dL_most_110 rfl rfl ?_
  refine rv_lcmp (q := 113) E.x dL_most_112 rfl ?_
  refine rv_if_le (q := 116) (tgt := 121) E.x dL_most_113 (by decide) rfl ?_ ?_
  · refine rv_lload (q := 118) E.x dL_most_116 rfl rfl ?_
    refine rv_goto (q := 123) E.x dL_most_118 (by decide) ?_
    refine rv_wk [true, true, true, true, true, true, false, true, true, false, true, false, false, false, false, true, false] ?_
    exact bp_most_123 E gh A k21 k35 h21 h35 M x1 x2 x3 x4 x5 x7 x8 x10 ((x8 >>> ((((4 * x10) + 4)).toInt64 &&& 63)) &&& (15 : Int64)) s0
  · refine rv_lload (q := 123) E.x dL_most_121 rfl rfl ?_
    refine rv_wk [true, true, true, true, true, true, false, true, true, false, true, false, false, false, false, true, false] ?_
    exact bp_most_123 E gh A k21 k35 h21 h35 M x1 x2 x3 x4 x5 x7 x8 x10 ((x8 >>> ((((4 * x10) + 4)).toInt64 &&& 63)) &&& (15 : Int64)) ((x5 >>> (((4 * x10)).toInt64 &&& 63)) &&& (15 : Int64))
set_option maxRecDepth 100000 in
theorem bp_most_35_s {p : Program} {l : Launch} {e : Env} {s : State} {m : MethodId} {args : Array Value} {below : List Frame} {meth : Method} {c : Code} {D : va_G} {cI cZ cO : ClassId} {mi de z0 o b L : Nat} {k : Nat → Nat} {xs : Nat → Int32} (E : lk_E D cI cZ cO mi de z0 b L k xs cL_most 17 (some .int) p l s m args meth c) (gh : rC_gh) (A : rv_Mem) (k21 : rv_Mem → Int32 → Int32 → Int32 → Int32 → Int64 → Int32 → Option (Int32 × rv_Mem)) (h21 : ∀ (M : rv_Mem) (x1 : Int32) (x2 : Int32) (x3 : Int32) (x4 : Int32) (x5 : Int64) (x7 : Int32), rv_M (lk_G D cI cZ cO de z0 o k) (fun q => z0 ≤ q) p l e rmp_most s m args below meth c 0 0 (lk_qRI D cI cZ cO de z0 o k gh A below args s 0 0) (k21 M x1 x2 x3 x4 x5 x7) 21 [some (.ref o), some (.int x1), some (.int x2), some (.int x3), some (.int x4), some (.long x5), none, some (.int x7), none, none, none, none, none, none, none, none, none] [] (gh, M, A)) (k35 : rv_Mem → Int32 → Int32 → Int32 → Int32 → Int64 → Int32 → Int64 → Int32 → Option (Int32 × rv_Mem)) (h35 : ∀ (M : rv_Mem) (x1 : Int32) (x2 : Int32) (x3 : Int32) (x4 : Int32) (x5 : Int64) (x7 : Int32) (x8 : Int64) (x10 : Int32), rv_M (lk_G D cI cZ cO de z0 o k) (fun q => z0 ≤ q) p l e rmp_most s m args below meth c 0 0 (lk_qRI D cI cZ cO de z0 o k gh A below args s 0 0) (k35 M x1 x2 x3 x4 x5 x7 x8 x10) 35 [some (.ref o), some (.int x1), some (.int x2), some (.int x3), some (.int x4), some (.long x5), none, some (.int x7), some (.long x8), none, some (.int x10), none, none, none, none, none, none] [] (gh, M, A)) : ∀ (M : rv_Mem) (x1 : Int32) (x2 : Int32) (x3 : Int32) (x4 : Int32) (x5 : Int64) (x7 : Int32) (x8 : Int64) (x10 : Int32), rv_M (lk_G D cI cZ cO de z0 o k) (fun q => z0 ≤ q) p l e rmp_most s m args below meth c 0 0 (lk_qRI D cI cZ cO de z0 o k gh A below args s 0 0) (gp_most_35_s gh A k21 k35 M x1 x2 x3 x4 x5 x7 x8 x10) 35 [some (.ref o), some (.int x1), some (.int x2), some (.int x3), some (.int x4), some (.long x5), none, some (.int x7), some (.long x8), none, some (.int x10), none, none, none, none, none, none] [] (gh, M, A) := by
  intro M x1 x2 x3 x4 x5 x7 x8 x10
  unfold gp_most_35_s
  refine rv_iload (q := 37) E.x dL_most_35 rfl rfl ?_
  refine rv_if_lt (q := 40) (tgt := 156) E.x dL_most_37 (by decide) rfl ?_ ?_
  · refine rv_aload_n (q := 41) E.x dL_most_40 rfl rfl ?_
    refine rv_iload_n (q := 42) E.x dL_most_41 rfl rfl ?_
    refine rv_iload_n (q := 43) E.x dL_most_42 rfl rfl ?_
    refine rv_iload (q := 45) E.x dL_most_43 rfl rfl ?_
    refine lk_x1r (fun r2 e1 => ?_) (fun w3 e4 => rv_stuck)
    refine lk_ci (q := 48) (v := r2) (M1 := M) E (fun u hI _ => c11_line E.2.2.1.1 hI e1) gP_112 hX11_line ⟨rfl, rfl⟩ ⟨Nat.le_of_ble_eq_true rfl, Nat.le_of_ble_eq_true rfl⟩ ⟨Nat.le_of_ble_eq_true rfl, Nat.le_of_ble_eq_true rfl⟩ rfl rfl rfl (Nat.le_of_ble_eq_true rfl) dL_most_45 rfl ?_
    refine rv_aload_n (q := 49) E.x dL_most_48 rfl rfl ?_
    refine rv_iload_n (q := 50) E.x dL_most_49 rfl rfl ?_
    refine rv_iload_n (q := 51) E.x dL_most_50 rfl rfl ?_
    refine rv_iload (q := 53) E.x dL_most_51 rfl rfl ?_
    refine lk_x1r (fun r6 e5 => ?_) (fun w7 e8 => rv_stuck)
    refine lk_ci (q := 56) (v := r6) (M1 := M) E (fun u hI _ => c11_line E.2.2.1.1 hI e5) gP_112 hX11_line ⟨rfl, rfl⟩ ⟨Nat.le_of_ble_eq_true rfl, Nat.le_of_ble_eq_true rfl⟩ ⟨Nat.le_of_ble_eq_true rfl, Nat.le_of_ble_eq_true rfl⟩ rfl rfl rfl (Nat.le_of_ble_eq_true rfl) dL_most_53 rfl ?_
    refine rv_icmp_ne (q := 59) (tgt := 77) E.x dL_most_56 (by decide) rfl ?_ ?_
    · refine rv_lconst (q := 60) (v := 1) E.x dL_most_59 rfl rfl ?_
      refine rv_lload (q := 62) E.x dL_most_60 rfl rfl ?_
      refine rv_iconst (q := 63) E.x dL_most_62 rv_ki4 rfl ?_
      refine rv_iload (q := 65) E.x dL_most_63 rfl rfl ?_
      refine rv_imul (q := 66) E.x dL_most_65 rfl ?_
      refine rv_iconst (q := 67) E.x dL_most_66 rv_ki4 rfl ?_
      refine rv_iadd (q := 68) E.x dL_most_67 rfl ?_
      refine rv_lshr (q := 69) E.x dL_most_68 rfl ?_
      refine lk_ldc2 (q := 72) E wkL_211 dL_most_69 rfl ?_
      refine rv_land (q := 73) E.x dL_most_72 rfl ?_
      refine rv_ladd (q := 74) E.x dL_most_73 rfl ?_
      refine rv_goto (q := 78) E.x dL_most_74 (by decide) ?_
      refine rv_wk [true, true, true, true, true, true, false, true, true, false, true, false, false, false, false, false, false] ?_
      exact bp_most_78 E gh A k21 k35 h21 h35 M x1 x2 x3 x4 x5 x7 x8 x10 ((1 : Int64) + ((x5 >>> ((((4 * x10) + 4)).toInt64 &&& 63)) &&& (15 : Int64)))
    · refine rv_lconst (q := 78) (v := 0) E.x dL_most_77 rfl rfl ?_
      refine rv_wk [true, true, true, true, true, true, false, true, true, false, true, false, false, false, false, false, false] ?_
      exact bp_most_78 E gh A k21 k35 h21 h35 M x1 x2 x3 x4 x5 x7 x8 x10 (0 : Int64)
  · refine rv_lload (q := 158) E.x dL_most_156 rfl rfl ?_
    refine rv_lstore (q := 160) (lv' := [_, _, _, _, _, _, _, _, _, _, _, _, _, _, _, _, _]) E.x dL_most_158 (Nat.le_of_ble_eq_true rfl) rfl rfl rfl ?_
    refine rv_iinc (q := 163) (lv' := [_, _, _, _, _, _, _, _, _, _, _, _, _, _, _, _, _]) E.x dL_most_160 rv_kim1 rfl rfl rfl rfl ?_
    refine rv_goto (q := 21) E.x dL_most_163 (by decide) ?_
    refine rv_wk [true, true, true, true, true, true, false, true, false, false, false, false, false, false, false, false, false] ?_
    exact h21 M x1 x2 x3 x4 x8 (x7 + (-1))
theorem bp_most_35 {p : Program} {l : Launch} {e : Env} {s : State} {m : MethodId} {args : Array Value} {below : List Frame} {meth : Method} {c : Code} {D : va_G} {cI cZ cO : ClassId} {mi de z0 o b L : Nat} {k : Nat → Nat} {xs : Nat → Int32} (E : lk_E D cI cZ cO mi de z0 b L k xs cL_most 17 (some .int) p l s m args meth c) (gh : rC_gh) (A : rv_Mem) (k21 : rv_Mem → Int32 → Int32 → Int32 → Int32 → Int64 → Int32 → Option (Int32 × rv_Mem)) (h21 : ∀ (M : rv_Mem) (x1 : Int32) (x2 : Int32) (x3 : Int32) (x4 : Int32) (x5 : Int64) (x7 : Int32), rv_M (lk_G D cI cZ cO de z0 o k) (fun q => z0 ≤ q) p l e rmp_most s m args below meth c 0 0 (lk_qRI D cI cZ cO de z0 o k gh A below args s 0 0) (k21 M x1 x2 x3 x4 x5 x7) 21 [some (.ref o), some (.int x1), some (.int x2), some (.int x3), some (.int x4), some (.long x5), none, some (.int x7), none, none, none, none, none, none, none, none, none] [] (gh, M, A)) : ∀ (n : Nat), ∀ (M : rv_Mem) (x1 : Int32) (x2 : Int32) (x3 : Int32) (x4 : Int32) (x5 : Int64) (x7 : Int32) (x8 : Int64) (x10 : Int32), rv_M (lk_G D cI cZ cO de z0 o k) (fun q => z0 ≤ q) p l e rmp_most s m args below meth c 0 0 (lk_qRI D cI cZ cO de z0 o k gh A below args s 0 0) (gp_most_35 gh A k21 n M x1 x2 x3 x4 x5 x7 x8 x10) 35 [some (.ref o), some (.int x1), some (.int x2), some (.int x3), some (.int x4), some (.long x5), none, some (.int x7), some (.long x8), none, some (.int x10), none, none, none, none, none, none] [] (gh, M, A) := by
  intro n
  induction n with
  | zero => exact fun _ _ _ _ _ _ _ _ _ => rv_stuck
  | succ n ih => exact bp_most_35_s E gh A k21 h21 (gp_most_35 gh A k21 n) ih
set_option maxRecDepth 100000 in
theorem bp_most_21_s {p : Program} {l : Launch} {e : Env} {s : State} {m : MethodId} {args : Array Value} {below : List Frame} {meth : Method} {c : Code} {D : va_G} {cI cZ cO : ClassId} {mi de z0 o b L : Nat} {k : Nat → Nat} {xs : Nat → Int32} (E : lk_E D cI cZ cO mi de z0 b L k xs cL_most 17 (some .int) p l s m args meth c) (gh : rC_gh) (A : rv_Mem)   (k21 : rv_Mem → Int32 → Int32 → Int32 → Int32 → Int64 → Int32 → Option (Int32 × rv_Mem)) (h21 : ∀ (M : rv_Mem) (x1 : Int32) (x2 : Int32) (x3 : Int32) (x4 : Int32) (x5 : Int64) (x7 : Int32), rv_M (lk_G D cI cZ cO de z0 o k) (fun q => z0 ≤ q) p l e rmp_most s m args below meth c 0 0 (lk_qRI D cI cZ cO de z0 o k gh A below args s 0 0) (k21 M x1 x2 x3 x4 x5 x7) 21 [some (.ref o), some (.int x1), some (.int x2), some (.int x3), some (.int x4), some (.long x5), none, some (.int x7), none, none, none, none, none, none, none, none, none] [] (gh, M, A)) : ∀ (M : rv_Mem) (x1 : Int32) (x2 : Int32) (x3 : Int32) (x4 : Int32) (x5 : Int64) (x7 : Int32), rv_M (lk_G D cI cZ cO de z0 o k) (fun q => z0 ≤ q) p l e rmp_most s m args below meth c 0 0 (lk_qRI D cI cZ cO de z0 o k gh A below args s 0 0) (gp_most_21_s gh A k21 M x1 x2 x3 x4 x5 x7) 21 [some (.ref o), some (.int x1), some (.int x2), some (.int x3), some (.int x4), some (.long x5), none, some (.int x7), none, none, none, none, none, none, none, none, none] [] (gh, M, A) := by
  intro M x1 x2 x3 x4 x5 x7
  unfold gp_most_21_s
  refine rv_iload (q := 23) E.x dL_most_21 rfl rfl ?_
  refine rv_if_lt (q := 26) (tgt := 166) E.x dL_most_23 (by decide) rfl ?_ ?_
  · refine rv_lconst (q := 27) (v := 0) E.x dL_most_26 rfl rfl ?_
    refine rv_lstore (q := 29) (lv' := [_, _, _, _, _, _, _, _, _, _, _, _, _, _, _, _, _]) E.x dL_most_27 (Nat.le_of_ble_eq_true rfl) rfl rfl rfl ?_
    refine rv_iload (q := 31) E.x dL_most_29 rfl rfl ?_
    refine rv_iconst (q := 32) E.x dL_most_31 rv_ki1 rfl ?_
    refine rv_isub (q := 33) E.x dL_most_32 rfl ?_
    refine rv_istore (q := 35) (lv' := [_, _, _, _, _, _, _, _, _, _, _, _, _, _, _, _, _]) E.x dL_most_33 (Nat.le_of_ble_eq_true rfl) rfl rfl rfl ?_
    refine rv_wk [true, true, true, true, true, true, false, true, true, false, true, false, false, false, false, false, false] ?_
    exact bp_most_35 E gh A k21 h21 rv_FU M x1 x2 x3 x4 x5 x7 (0 : Int64) (x4 - 1)
  · refine rv_lload (q := 168) E.x dL_most_166 rfl rfl ?_
    refine lk_ldc2 (q := 171) E wkL_211 dL_most_168 rfl ?_
    refine rv_land (q := 172) E.x dL_most_171 rfl ?_
    refine rv_l2i (q := 173) E.x dL_most_172 rfl ?_
    exact lk_iret E rfl ⟨Nat.le_of_ble_eq_true rfl, Nat.le_of_ble_eq_true rfl⟩ dL_most_173
theorem bp_most_21 {p : Program} {l : Launch} {e : Env} {s : State} {m : MethodId} {args : Array Value} {below : List Frame} {meth : Method} {c : Code} {D : va_G} {cI cZ cO : ClassId} {mi de z0 o b L : Nat} {k : Nat → Nat} {xs : Nat → Int32} (E : lk_E D cI cZ cO mi de z0 b L k xs cL_most 17 (some .int) p l s m args meth c) (gh : rC_gh) (A : rv_Mem)   : ∀ (n : Nat), ∀ (M : rv_Mem) (x1 : Int32) (x2 : Int32) (x3 : Int32) (x4 : Int32) (x5 : Int64) (x7 : Int32), rv_M (lk_G D cI cZ cO de z0 o k) (fun q => z0 ≤ q) p l e rmp_most s m args below meth c 0 0 (lk_qRI D cI cZ cO de z0 o k gh A below args s 0 0) (gp_most_21 gh A n M x1 x2 x3 x4 x5 x7) 21 [some (.ref o), some (.int x1), some (.int x2), some (.int x3), some (.int x4), some (.long x5), none, some (.int x7), none, none, none, none, none, none, none, none, none] [] (gh, M, A) := by
  intro n
  induction n with
  | zero => exact fun _ _ _ _ _ _ _ => rv_stuck
  | succ n ih => exact bp_most_21_s E gh A (gp_most_21 gh A n) ih
set_option maxRecDepth 100000 in
theorem bp_most {p : Program} {l : Launch} {e : Env} {s : State} {m : MethodId} {args : Array Value} {below : List Frame} {meth : Method} {c : Code} {D : va_G} {cI cZ cO : ClassId} {mi de z0 o b L : Nat} {k : Nat → Nat} {xs : Nat → Int32} (E : lk_E D cI cZ cO mi de z0 b L k xs cL_most 17 (some .int) p l s m args meth c) (gh : rC_gh) (M A : rv_Mem) (a2 : Int32) (a3 : Int32) (a4 : Int32) : rv_M (lk_G D cI cZ cO de z0 o k) (fun q => z0 ≤ q) p l e rmp_most s m args below meth c 0 0 (lk_qRI D cI cZ cO de z0 o k gh A below args s 0 0) (gp_most gh M A a2 a3 a4) 0 [some (.ref o), some (.int a2), some (.int a3), some (.int a4), none, none, none, none, none, none, none, none, none, none, none, none, none] [] (gh, M, A) := by
  unfold gp_most
  refine rv_aload_n (q := 1) E.x dL_most_0 rfl rfl ?_
  refine rv_iload_n (q := 2) E.x dL_most_1 rfl rfl ?_
  refine rv_iload_n (q := 3) E.x dL_most_2 rfl rfl ?_
  refine rv_b2 (fun r2 M3 e1 => ?_)
  refine lk_cs0 (q := 6) (v := r2) (σ' := (gh, M3, A)) E (wP_size E.2.2.1 e1) gPs_203 hP_size ⟨rfl, rfl⟩ ⟨Nat.le_of_ble_eq_true rfl, Nat.le_of_ble_eq_true rfl⟩ ⟨Nat.le_of_ble_eq_true rfl, Nat.le_of_ble_eq_true rfl⟩ rfl rfl rfl (Nat.le_of_ble_eq_true rfl) dL_most_3 rfl ?_
  refine rv_istore (q := 8) (lv' := [_, _, _, _, _, _, _, _, _, _, _, _, _, _, _, _, _]) E.x dL_most_6 (Nat.le_of_ble_eq_true rfl) rfl rfl rfl ?_
  refine rv_lconst (q := 9) (v := 0) E.x dL_most_8 rfl rfl ?_
  refine rv_lstore (q := 11) (lv' := [_, _, _, _, _, _, _, _, _, _, _, _, _, _, _, _, _]) E.x dL_most_9 (Nat.le_of_ble_eq_true rfl) rfl rfl rfl ?_
  refine rv_aload_n (q := 12) E.x dL_most_11 rfl rfl ?_
  refine rv_iload_n (q := 13) E.x dL_most_12 rfl rfl ?_
  refine rv_iload_n (q := 14) E.x dL_most_13 rfl rfl ?_
  refine rv_b2 (fun r5 M6 e4 => ?_)
  refine lk_cs0 (q := 17) (v := r5) (σ' := (gh, M6, A)) E (wP_size E.2.2.1 e4) gPs_203 hP_size ⟨rfl, rfl⟩ ⟨Nat.le_of_ble_eq_true rfl, Nat.le_of_ble_eq_true rfl⟩ ⟨Nat.le_of_ble_eq_true rfl, Nat.le_of_ble_eq_true rfl⟩ rfl rfl rfl (Nat.le_of_ble_eq_true rfl) dL_most_14 rfl ?_
  refine rv_iconst (q := 18) E.x dL_most_17 rv_ki1 rfl ?_
  refine rv_isub (q := 19) E.x dL_most_18 rfl ?_
  refine rv_istore (q := 21) (lv' := [_, _, _, _, _, _, _, _, _, _, _, _, _, _, _, _, _]) E.x dL_most_19 (Nat.le_of_ble_eq_true rfl) rfl rfl rfl ?_
  refine rv_wk [true, true, true, true, true, true, false, true, false, false, false, false, false, false, false, false, false] ?_
  exact bp_most_21 E gh A rv_FU M6 a2 a3 a4 r2 (0 : Int64) (r5 - 1)
theorem wP_most {l : Launch} {D : va_G} {cI cZ cO : ClassId} {mi de z0 o b L : Nat} {k : Nat → Nat} {xs : Nat → Int32} (S : lk_S l de z0 b k) {gh : rC_gh} {M A : rv_Mem} {a2 : Int32} {a3 : Int32} {a4 : Int32} {r : Int32} {M1 : rv_Mem} (h : gp_most gh M A a2 a3 a4 = some (r, M1)) : Met l yL_most (rv_ws yL_most cL_most 17 (some .int)) rmp_most (va_Pc [.ref o, .int a2, .int a3, .int a4] (lk_P D cI cZ cO mi de z0 o b L k xs (gh, M, A))) (lk_qi D cI cZ cO de z0 o k r (gh, M1, A)) 0 0 (fun q => z0 ≤ q) := lk_met S rfl (Nat.le_of_ble_eq_true rfl) (fun p e s m args below meth c E => ⟨(lk_qRI D cI cZ cO de z0 o k gh A below args s 0 0), rfl, bp_most E gh M A a2 a3 a4⟩) h
abbrev rmp_areHunks : Room := { frames := 11, cells := 0, slots := 0, locals := 225 }
set_option maxRecDepth 100000 in
theorem bp_areHunks_241 {p : Program} {l : Launch} {e : Env} {s : State} {m : MethodId} {args : Array Value} {below : List Frame} {meth : Method} {c : Code} {D : va_G} {cI cZ cO : ClassId} {mi de z0 o b L : Nat} {k : Nat → Nat} {xs : Nat → Int32} (E : lk_E D cI cZ cO mi de z0 b L k xs cL_areHunks 15 (some .boolean) p l s m args meth c) (gh : rC_gh) (A : rv_Mem) (k90 : rv_Mem → Int32 → Int32 → Int32 → Int32 → Int32 → Int32 → Int32 → Bool → Int32 → Int32 → Int32 → Bool → Int32 → Option (Bool × rv_Mem)) (k198 : rv_Mem → Int32 → Int32 → Int32 → Int32 → Int32 → Int32 → Int32 → Bool → Int32 → Int32 → Int32 → Bool → Int32 → Int32 → Option (Bool × rv_Mem)) (h90 : ∀ (M : rv_Mem) (x1 : Int32) (x2 : Int32) (x3 : Int32) (x4 : Int32) (x5 : Int32) (x6 : Int32) (x7 : Int32) (x8 : Bool) (x9 : Int32) (x10 : Int32) (x11 : Int32) (x12 : Bool) (x13 : Int32), rv_M (lk_G D cI cZ cO de z0 o k) (fun q => z0 ≤ q) p l e rmp_areHunks s m args below meth c 0 0 (lk_qRZ D cI cZ cO de z0 o k gh A below args s 0 0) (k90 M x1 x2 x3 x4 x5 x6 x7 x8 x9 x10 x11 x12 x13) 90 [some (.ref o), some (.int x1), some (.int x2), some (.int x3), some (.int x4), some (.int x5), some (.int x6), some (.int x7), some (.int (rv_i x8)), some (.int x9), some (.int x10), some (.int x11), some (.int (rv_i x12)), some (.int x13), none] [] (gh, M, A)) (h198 : ∀ (M : rv_Mem) (x1 : Int32) (x2 : Int32) (x3 : Int32) (x4 : Int32) (x5 : Int32) (x6 : Int32) (x7 : Int32) (x8 : Bool) (x9 : Int32) (x10 : Int32) (x11 : Int32) (x12 : Bool) (x13 : Int32) (x14 : Int32), rv_M (lk_G D cI cZ cO de z0 o k) (fun q => z0 ≤ q) p l e rmp_areHunks s m args below meth c 0 0 (lk_qRZ D cI cZ cO de z0 o k gh A below args s 0 0) (k198 M x1 x2 x3 x4 x5 x6 x7 x8 x9 x10 x11 x12 x13 x14) 198 [some (.ref o), some (.int x1), some (.int x2), some (.int x3), some (.int x4), some (.int x5), some (.int x6), some (.int x7), some (.int (rv_i x8)), some (.int x9), some (.int x10), some (.int x11), some (.int (rv_i x12)), some (.int x13), some (.int x14)] [] (gh, M, A)) : ∀ (M : rv_Mem) (x1 : Int32) (x2 : Int32) (x3 : Int32) (x4 : Int32) (x5 : Int32) (x6 : Int32) (x7 : Int32) (x8 : Bool) (x9 : Int32) (x10 : Int32) (x11 : Int32) (x13 : Int32) (x14 : Int32) (s0 : Bool), rv_M (lk_G D cI cZ cO de z0 o k) (fun q => z0 ≤ q) p l e rmp_areHunks s m args below meth c 0 0 (lk_qRZ D cI cZ cO de z0 o k gh A below args s 0 0) (gp_areHunks_241 gh A k90 k198 M x1 x2 x3 x4 x5 x6 x7 x8 x9 x10 x11 x13 x14 s0) 241 [some (.ref o), some (.int x1), some (.int x2), some (.int x3), some (.int x4), some (.int x5), some (.int x6), some (.int x7), some (.int (rv_i x8)), some (.int x9), some (.int x10), some (.int x11), none, some (.int x13), some (.int x14)] [.int (rv_i s0)] (gh, M, A) := by
  intro M x1 x2 x3 x4 x5 x6 x7 x8 x9 x10 x11 x13 x14 s0
  unfold gp_areHunks_241
  refine rv_istore (q := 243) (lv' := [_, _, _, _, _, _, _, _, _, _, _, _, _, _, _]) E.x dL_areHunks_241 (Nat.le_of_ble_eq_true rfl) rfl rfl rfl ?_
  refine rv_iinc (q := 246) (lv' := [_, _, _, _, _, _, _, _, _, _, _, _, _, _, _]) E.x dL_areHunks_243 rv_ki1 rfl rfl rfl rfl ?_
  refine rv_iinc (q := 249) (lv' := [_, _, _, _, _, _, _, _, _, _, _, _, _, _, _]) E.x dL_areHunks_246 rv_ki1 rfl rfl rfl rfl ?_
  refine rv_iinc (q := 252) (lv' := [_, _, _, _, _, _, _, _, _, _, _, _, _, _, _]) E.x dL_areHunks_249 rv_ki1 rfl rfl rfl rfl ?_
  refine rv_goto (q := 198) E.x dL_areHunks_252 (by decide) ?_
  refine rv_wk [true, true, true, true, true, true, true, true, true, true, true, true, true, true, true] ?_
  exact h198 M x1 x2 x3 x4 x5 x6 x7 x8 (x9 + 1) (x10 + 1) (x11 + 1) s0 x13 x14
set_option maxRecDepth 100000 in
theorem bp_areHunks_335 {p : Program} {l : Launch} {e : Env} {s : State} {m : MethodId} {args : Array Value} {below : List Frame} {meth : Method} {c : Code} {D : va_G} {cI cZ cO : ClassId} {mi de z0 o b L : Nat} {k : Nat → Nat} {xs : Nat → Int32} (E : lk_E D cI cZ cO mi de z0 b L k xs cL_areHunks 15 (some .boolean) p l s m args meth c) (gh : rC_gh) (A : rv_Mem) (k90 : rv_Mem → Int32 → Int32 → Int32 → Int32 → Int32 → Int32 → Int32 → Bool → Int32 → Int32 → Int32 → Bool → Int32 → Option (Bool × rv_Mem)) (h90 : ∀ (M : rv_Mem) (x1 : Int32) (x2 : Int32) (x3 : Int32) (x4 : Int32) (x5 : Int32) (x6 : Int32) (x7 : Int32) (x8 : Bool) (x9 : Int32) (x10 : Int32) (x11 : Int32) (x12 : Bool) (x13 : Int32), rv_M (lk_G D cI cZ cO de z0 o k) (fun q => z0 ≤ q) p l e rmp_areHunks s m args below meth c 0 0 (lk_qRZ D cI cZ cO de z0 o k gh A below args s 0 0) (k90 M x1 x2 x3 x4 x5 x6 x7 x8 x9 x10 x11 x12 x13) 90 [some (.ref o), some (.int x1), some (.int x2), some (.int x3), some (.int x4), some (.int x5), some (.int x6), some (.int x7), some (.int (rv_i x8)), some (.int x9), some (.int x10), some (.int x11), some (.int (rv_i x12)), some (.int x13), none] [] (gh, M, A)) : ∀ (M : rv_Mem) (x1 : Int32) (x2 : Int32) (x3 : Int32) (x4 : Int32) (x5 : Int32) (x6 : Int32) (x7 : Int32) (x8 : Bool) (x9 : Int32) (x11 : Int32) (x12 : Bool) (x13 : Int32) (s0 : Int32) (s1 : Int32), rv_M (lk_G D cI cZ cO de z0 o k) (fun q => z0 ≤ q) p l e rmp_areHunks s m args below meth c 0 0 (lk_qRZ D cI cZ cO de z0 o k gh A below args s 0 0) (gp_areHunks_335 gh A k90 M x1 x2 x3 x4 x5 x6 x7 x8 x9 x11 x12 x13 s0 s1) 335 [some (.ref o), some (.int x1), some (.int x2), some (.int x3), some (.int x4), some (.int x5), some (.int x6), some (.int x7), some (.int (rv_i x8)), some (.int x9), none, some (.int x11), some (.int (rv_i x12)), some (.int x13), none] [.int s1, .int s0] (gh, M, A) := by
  intro M x1 x2 x3 x4 x5 x6 x7 x8 x9 x11 x12 x13 s0 s1
  unfold gp_areHunks_335
  refine rv_iadd (q := 336) E.x dL_areHunks_335 rfl ?_
  refine rv_istore (q := 338) (lv' := [_, _, _, _, _, _, _, _, _, _, _, _, _, _, _]) E.x dL_areHunks_336 (Nat.le_of_ble_eq_true rfl) rfl rfl rfl ?_
  refine rv_iinc (q := 341) (lv' := [_, _, _, _, _, _, _, _, _, _, _, _, _, _, _]) E.x dL_areHunks_338 rv_ki1 rfl rfl rfl rfl ?_
  refine rv_goto (q := 90) E.x dL_areHunks_341 (by decide) ?_
  refine rv_wk [true, true, true, true, true, true, true, true, true, true, true, true, true, true, false] ?_
  exact h90 M x1 x2 x3 x4 x5 x6 x7 x8 x9 (s0 + s1) x11 x12 (x13 + 1)
set_option maxRecDepth 100000 in
theorem bp_areHunks_314 {p : Program} {l : Launch} {e : Env} {s : State} {m : MethodId} {args : Array Value} {below : List Frame} {meth : Method} {c : Code} {D : va_G} {cI cZ cO : ClassId} {mi de z0 o b L : Nat} {k : Nat → Nat} {xs : Nat → Int32} (E : lk_E D cI cZ cO mi de z0 b L k xs cL_areHunks 15 (some .boolean) p l s m args meth c) (gh : rC_gh) (A : rv_Mem) (k90 : rv_Mem → Int32 → Int32 → Int32 → Int32 → Int32 → Int32 → Int32 → Bool → Int32 → Int32 → Int32 → Bool → Int32 → Option (Bool × rv_Mem)) (h90 : ∀ (M : rv_Mem) (x1 : Int32) (x2 : Int32) (x3 : Int32) (x4 : Int32) (x5 : Int32) (x6 : Int32) (x7 : Int32) (x8 : Bool) (x9 : Int32) (x10 : Int32) (x11 : Int32) (x12 : Bool) (x13 : Int32), rv_M (lk_G D cI cZ cO de z0 o k) (fun q => z0 ≤ q) p l e rmp_areHunks s m args below meth c 0 0 (lk_qRZ D cI cZ cO de z0 o k gh A below args s 0 0) (k90 M x1 x2 x3 x4 x5 x6 x7 x8 x9 x10 x11 x12 x13) 90 [some (.ref o), some (.int x1), some (.int x2), some (.int x3), some (.int x4), some (.int x5), some (.int x6), some (.int x7), some (.int (rv_i x8)), some (.int x9), some (.int x10), some (.int x11), some (.int (rv_i x12)), some (.int x13), none] [] (gh, M, A)) : ∀ (M : rv_Mem) (x1 : Int32) (x2 : Int32) (x3 : Int32) (x4 : Int32) (x5 : Int32) (x6 : Int32) (x7 : Int32) (x8 : Bool) (x10 : Int32) (x11 : Int32) (x12 : Bool) (x13 : Int32) (x14 : Int32) (s0 : Int32) (s1 : Int32), rv_M (lk_G D cI cZ cO de z0 o k) (fun q => z0 ≤ q) p l e rmp_areHunks s m args below meth c 0 0 (lk_qRZ D cI cZ cO de z0 o k gh A below args s 0 0) (gp_areHunks_314 gh A k90 M x1 x2 x3 x4 x5 x6 x7 x8 x10 x11 x12 x13 x14 s0 s1) 314 [some (.ref o), some (.int x1), some (.int x2), some (.int x3), some (.int x4), some (.int x5), some (.int x6), some (.int x7), some (.int (rv_i x8)), none, some (.int x10), some (.int x11), some (.int (rv_i x12)), some (.int x13), some (.int x14)] [.int s1, .int s0] (gh, M, A) := by
  intro M x1 x2 x3 x4 x5 x6 x7 x8 x10 x11 x12 x13 x14 s0 s1
  unfold gp_areHunks_314
  refine rv_iadd (q := 315) E.x dL_areHunks_314 rfl ?_
  refine rv_istore (q := 317) (lv' := [_, _, _, _, _, _, _, _, _, _, _, _, _, _, _]) E.x dL_areHunks_315 (Nat.le_of_ble_eq_true rfl) rfl rfl rfl ?_
  refine rv_iload (q := 319) E.x dL_areHunks_317 rfl rfl ?_
  refine rv_iload (q := 321) E.x dL_areHunks_319 rfl rfl ?_
  refine rv_iload (q := 323) E.x dL_areHunks_321 rfl rfl ?_
  refine rv_icmp_ne (q := 326) (tgt := 330) E.x dL_areHunks_323 (by decide) rfl ?_ ?_
  · refine rv_iconst (q := 327) E.x dL_areHunks_326 rv_ki0 rfl ?_
    refine rv_goto (q := 335) E.x dL_areHunks_327 (by decide) ?_
    refine rv_wk [true, true, true, true, true, true, true, true, true, true, false, true, true, true, false] ?_
    exact bp_areHunks_335 E gh A k90 h90 M x1 x2 x3 x4 x5 x6 x7 x8 (s0 + s1) x11 x12 x13 x10 0
  · refine rv_iload (q := 332) E.x dL_areHunks_330 rfl rfl ?_
    refine rv_bipush (q := 334) E.x dL_areHunks_332 rv_kb100 rfl ?_
    refine rv_irem (q := 335) E.x dL_areHunks_334 (by decide) rfl ?_
    refine rv_wk [true, true, true, true, true, true, true, true, true, true, false, true, true, true, false] ?_
    exact bp_areHunks_335 E gh A k90 h90 M x1 x2 x3 x4 x5 x6 x7 x8 (s0 + s1) x11 x12 x13 x10 (x14 - x14 / 100 * 100)
set_option maxRecDepth 100000 in
theorem bp_areHunks_290 {p : Program} {l : Launch} {e : Env} {s : State} {m : MethodId} {args : Array Value} {below : List Frame} {meth : Method} {c : Code} {D : va_G} {cI cZ cO : ClassId} {mi de z0 o b L : Nat} {k : Nat → Nat} {xs : Nat → Int32} (E : lk_E D cI cZ cO mi de z0 b L k xs cL_areHunks 15 (some .boolean) p l s m args meth c) (gh : rC_gh) (A : rv_Mem) (k90 : rv_Mem → Int32 → Int32 → Int32 → Int32 → Int32 → Int32 → Int32 → Bool → Int32 → Int32 → Int32 → Bool → Int32 → Option (Bool × rv_Mem)) (h90 : ∀ (M : rv_Mem) (x1 : Int32) (x2 : Int32) (x3 : Int32) (x4 : Int32) (x5 : Int32) (x6 : Int32) (x7 : Int32) (x8 : Bool) (x9 : Int32) (x10 : Int32) (x11 : Int32) (x12 : Bool) (x13 : Int32), rv_M (lk_G D cI cZ cO de z0 o k) (fun q => z0 ≤ q) p l e rmp_areHunks s m args below meth c 0 0 (lk_qRZ D cI cZ cO de z0 o k gh A below args s 0 0) (k90 M x1 x2 x3 x4 x5 x6 x7 x8 x9 x10 x11 x12 x13) 90 [some (.ref o), some (.int x1), some (.int x2), some (.int x3), some (.int x4), some (.int x5), some (.int x6), some (.int x7), some (.int (rv_i x8)), some (.int x9), some (.int x10), some (.int x11), some (.int (rv_i x12)), some (.int x13), none] [] (gh, M, A)) : ∀ (M : rv_Mem) (x1 : Int32) (x2 : Int32) (x3 : Int32) (x4 : Int32) (x5 : Int32) (x6 : Int32) (x7 : Int32) (x8 : Bool) (x9 : Int32) (x10 : Int32) (x11 : Int32) (x13 : Int32) (x14 : Int32) (s0 : Bool), rv_M (lk_G D cI cZ cO de z0 o k) (fun q => z0 ≤ q) p l e rmp_areHunks s m args below meth c 0 0 (lk_qRZ D cI cZ cO de z0 o k gh A below args s 0 0) (gp_areHunks_290 gh A k90 M x1 x2 x3 x4 x5 x6 x7 x8 x9 x10 x11 x13 x14 s0) 290 [some (.ref o), some (.int x1), some (.int x2), some (.int x3), some (.int x4), some (.int x5), some (.int x6), some (.int x7), some (.int (rv_i x8)), some (.int x9), some (.int x10), some (.int x11), none, some (.int x13), some (.int x14)] [.int (rv_i s0)] (gh, M, A) := by
  intro M x1 x2 x3 x4 x5 x6 x7 x8 x9 x10 x11 x13 x14 s0
  unfold gp_areHunks_290
  refine rv_istore (q := 292) (lv' := [_, _, _, _, _, _, _, _, _, _, _, _, _, _, _]) E.x dL_areHunks_290 (Nat.le_of_ble_eq_true rfl) rfl rfl rfl ?_
  refine rv_iload (q := 294) E.x dL_areHunks_292 rfl rfl ?_
  refine rv_iload (q := 296) E.x dL_areHunks_294 rfl rfl ?_
  refine rv_iload (q := 298) E.x dL_areHunks_296 rfl rfl ?_
  refine rv_icmp_ne (q := 301) (tgt := 305) E.x dL_areHunks_298 (by decide) rfl ?_ ?_
  · refine rv_iconst (q := 302) E.x dL_areHunks_301 rv_ki0 rfl ?_
    refine rv_goto (q := 314) E.x dL_areHunks_302 (by decide) ?_
    refine rv_wk [true, true, true, true, true, true, true, true, true, false, true, true, true, true, true] ?_
    exact bp_areHunks_314 E gh A k90 h90 M x1 x2 x3 x4 x5 x6 x7 x8 x10 x11 s0 x13 x14 x9 0
  · refine rv_iload (q := 307) E.x dL_areHunks_305 rfl rfl ?_
    refine rv_sipush (q := 310) E.x dL_areHunks_307 rv_ks10000 rfl ?_
    refine rv_idiv (q := 311) E.x dL_areHunks_310 (by decide) rfl ?_
    refine rv_bipush (q := 313) E.x dL_areHunks_311 rv_kb100 rfl ?_
    refine rv_irem (q := 314) E.x dL_areHunks_313 (by decide) rfl ?_
    refine rv_wk [true, true, true, true, true, true, true, true, true, false, true, true, true, true, true] ?_
    exact bp_areHunks_314 E gh A k90 h90 M x1 x2 x3 x4 x5 x6 x7 x8 x10 x11 s0 x13 x14 x9 ((x14 / 10000) - (x14 / 10000) / 100 * 100)
set_option maxRecDepth 100000 in
theorem bp_areHunks_285 {p : Program} {l : Launch} {e : Env} {s : State} {m : MethodId} {args : Array Value} {below : List Frame} {meth : Method} {c : Code} {D : va_G} {cI cZ cO : ClassId} {mi de z0 o b L : Nat} {k : Nat → Nat} {xs : Nat → Int32} (E : lk_E D cI cZ cO mi de z0 b L k xs cL_areHunks 15 (some .boolean) p l s m args meth c) (gh : rC_gh) (A : rv_Mem) (k90 : rv_Mem → Int32 → Int32 → Int32 → Int32 → Int32 → Int32 → Int32 → Bool → Int32 → Int32 → Int32 → Bool → Int32 → Option (Bool × rv_Mem)) (h90 : ∀ (M : rv_Mem) (x1 : Int32) (x2 : Int32) (x3 : Int32) (x4 : Int32) (x5 : Int32) (x6 : Int32) (x7 : Int32) (x8 : Bool) (x9 : Int32) (x10 : Int32) (x11 : Int32) (x12 : Bool) (x13 : Int32), rv_M (lk_G D cI cZ cO de z0 o k) (fun q => z0 ≤ q) p l e rmp_areHunks s m args below meth c 0 0 (lk_qRZ D cI cZ cO de z0 o k gh A below args s 0 0) (k90 M x1 x2 x3 x4 x5 x6 x7 x8 x9 x10 x11 x12 x13) 90 [some (.ref o), some (.int x1), some (.int x2), some (.int x3), some (.int x4), some (.int x5), some (.int x6), some (.int x7), some (.int (rv_i x8)), some (.int x9), some (.int x10), some (.int x11), some (.int (rv_i x12)), some (.int x13), none] [] (gh, M, A)) : ∀ (M : rv_Mem) (x1 : Int32) (x2 : Int32) (x3 : Int32) (x4 : Int32) (x5 : Int32) (x6 : Int32) (x7 : Int32) (x8 : Bool) (x9 : Int32) (x10 : Int32) (x11 : Int32) (x13 : Int32) (x14 : Int32), rv_M (lk_G D cI cZ cO de z0 o k) (fun q => z0 ≤ q) p l e rmp_areHunks s m args below meth c 0 0 (lk_qRZ D cI cZ cO de z0 o k gh A below args s 0 0) (gp_areHunks_285 gh A k90 M x1 x2 x3 x4 x5 x6 x7 x8 x9 x10 x11 x13 x14) 285 [some (.ref o), some (.int x1), some (.int x2), some (.int x3), some (.int x4), some (.int x5), some (.int x6), some (.int x7), some (.int (rv_i x8)), some (.int x9), some (.int x10), some (.int x11), none, some (.int x13), some (.int x14)] [] (gh, M, A) := by
  intro M x1 x2 x3 x4 x5 x6 x7 x8 x9 x10 x11 x13 x14
  unfold gp_areHunks_285
  refine rv_iconst (q := 286) E.x dL_areHunks_285 rv_ki1 rfl ?_
  refine rv_goto (q := 290) E.x dL_areHunks_286 (by decide) ?_
  refine rv_wk [true, true, true, true, true, true, true, true, true, true, true, true, false, true, true] ?_
  exact bp_areHunks_290 E gh A k90 h90 M x1 x2 x3 x4 x5 x6 x7 x8 x9 x10 x11 x13 x14 true
set_option maxRecDepth 100000 in
theorem bp_areHunks_289 {p : Program} {l : Launch} {e : Env} {s : State} {m : MethodId} {args : Array Value} {below : List Frame} {meth : Method} {c : Code} {D : va_G} {cI cZ cO : ClassId} {mi de z0 o b L : Nat} {k : Nat → Nat} {xs : Nat → Int32} (E : lk_E D cI cZ cO mi de z0 b L k xs cL_areHunks 15 (some .boolean) p l s m args meth c) (gh : rC_gh) (A : rv_Mem) (k90 : rv_Mem → Int32 → Int32 → Int32 → Int32 → Int32 → Int32 → Int32 → Bool → Int32 → Int32 → Int32 → Bool → Int32 → Option (Bool × rv_Mem)) (h90 : ∀ (M : rv_Mem) (x1 : Int32) (x2 : Int32) (x3 : Int32) (x4 : Int32) (x5 : Int32) (x6 : Int32) (x7 : Int32) (x8 : Bool) (x9 : Int32) (x10 : Int32) (x11 : Int32) (x12 : Bool) (x13 : Int32), rv_M (lk_G D cI cZ cO de z0 o k) (fun q => z0 ≤ q) p l e rmp_areHunks s m args below meth c 0 0 (lk_qRZ D cI cZ cO de z0 o k gh A below args s 0 0) (k90 M x1 x2 x3 x4 x5 x6 x7 x8 x9 x10 x11 x12 x13) 90 [some (.ref o), some (.int x1), some (.int x2), some (.int x3), some (.int x4), some (.int x5), some (.int x6), some (.int x7), some (.int (rv_i x8)), some (.int x9), some (.int x10), some (.int x11), some (.int (rv_i x12)), some (.int x13), none] [] (gh, M, A)) : ∀ (M : rv_Mem) (x1 : Int32) (x2 : Int32) (x3 : Int32) (x4 : Int32) (x5 : Int32) (x6 : Int32) (x7 : Int32) (x8 : Bool) (x9 : Int32) (x10 : Int32) (x11 : Int32) (x13 : Int32) (x14 : Int32), rv_M (lk_G D cI cZ cO de z0 o k) (fun q => z0 ≤ q) p l e rmp_areHunks s m args below meth c 0 0 (lk_qRZ D cI cZ cO de z0 o k gh A below args s 0 0) (gp_areHunks_289 gh A k90 M x1 x2 x3 x4 x5 x6 x7 x8 x9 x10 x11 x13 x14) 289 [some (.ref o), some (.int x1), some (.int x2), some (.int x3), some (.int x4), some (.int x5), some (.int x6), some (.int x7), some (.int (rv_i x8)), some (.int x9), some (.int x10), some (.int x11), none, some (.int x13), some (.int x14)] [] (gh, M, A) := by
  intro M x1 x2 x3 x4 x5 x6 x7 x8 x9 x10 x11 x13 x14
  unfold gp_areHunks_289
  refine rv_iconst (q := 290) E.x dL_areHunks_289 rv_ki0 rfl ?_
  refine rv_wk [true, true, true, true, true, true, true, true, true, true, true, true, false, true, true] ?_
  exact bp_areHunks_290 E gh A k90 h90 M x1 x2 x3 x4 x5 x6 x7 x8 x9 x10 x11 x13 x14 false
set_option maxRecDepth 100000 in
theorem bp_areHunks_255 {p : Program} {l : Launch} {e : Env} {s : State} {m : MethodId} {args : Array Value} {below : List Frame} {meth : Method} {c : Code} {D : va_G} {cI cZ cO : ClassId} {mi de z0 o b L : Nat} {k : Nat → Nat} {xs : Nat → Int32} (E : lk_E D cI cZ cO mi de z0 b L k xs cL_areHunks 15 (some .boolean) p l s m args meth c) (gh : rC_gh) (A : rv_Mem) (k90 : rv_Mem → Int32 → Int32 → Int32 → Int32 → Int32 → Int32 → Int32 → Bool → Int32 → Int32 → Int32 → Bool → Int32 → Option (Bool × rv_Mem)) (h90 : ∀ (M : rv_Mem) (x1 : Int32) (x2 : Int32) (x3 : Int32) (x4 : Int32) (x5 : Int32) (x6 : Int32) (x7 : Int32) (x8 : Bool) (x9 : Int32) (x10 : Int32) (x11 : Int32) (x12 : Bool) (x13 : Int32), rv_M (lk_G D cI cZ cO de z0 o k) (fun q => z0 ≤ q) p l e rmp_areHunks s m args below meth c 0 0 (lk_qRZ D cI cZ cO de z0 o k gh A below args s 0 0) (k90 M x1 x2 x3 x4 x5 x6 x7 x8 x9 x10 x11 x12 x13) 90 [some (.ref o), some (.int x1), some (.int x2), some (.int x3), some (.int x4), some (.int x5), some (.int x6), some (.int x7), some (.int (rv_i x8)), some (.int x9), some (.int x10), some (.int x11), some (.int (rv_i x12)), some (.int x13), none] [] (gh, M, A)) : ∀ (M : rv_Mem) (x1 : Int32) (x2 : Int32) (x3 : Int32) (x4 : Int32) (x5 : Int32) (x6 : Int32) (x7 : Int32) (x8 : Bool) (x9 : Int32) (x10 : Int32) (x11 : Int32) (x12 : Bool) (x13 : Int32) (x14 : Int32), rv_M (lk_G D cI cZ cO de z0 o k) (fun q => z0 ≤ q) p l e rmp_areHunks s m args below meth c 0 0 (lk_qRZ D cI cZ cO de z0 o k gh A below args s 0 0) (gp_areHunks_255 gh A k90 M x1 x2 x3 x4 x5 x6 x7 x8 x9 x10 x11 x12 x13 x14) 255 [some (.ref o), some (.int x1), some (.int x2), some (.int x3), some (.int x4), some (.int x5), some (.int x6), some (.int x7), some (.int (rv_i x8)), some (.int x9), some (.int x10), some (.int x11), some (.int (rv_i x12)), some (.int x13), some (.int x14)] [] (gh, M, A) := by
  intro M x1 x2 x3 x4 x5 x6 x7 x8 x9 x10 x11 x12 x13 x14
  unfold gp_areHunks_255
  refine rv_iload (q := 257) E.x dL_areHunks_255 rfl rfl ?_
  refine rv_ifz_eq (q := 260) (tgt := 289) E.x dL_areHunks_257 (by decide) rfl ?_ ?_
  · refine rv_iload (q := 262) E.x dL_areHunks_260 rfl rfl ?_
    refine rv_iload (q := 264) E.x dL_areHunks_262 rfl rfl ?_
    refine rv_icmp_eq (q := 267) (tgt := 285) E.x dL_areHunks_264 (by decide) rfl ?_ ?_
    · refine rv_iload (q := 269) E.x dL_areHunks_267 rfl rfl ?_
      refine rv_sipush (q := 272) E.x dL_areHunks_269 rv_ks10000 rfl ?_
      refine rv_idiv (q := 273) E.x dL_areHunks_272 (by decide) rfl ?_
      refine rv_bipush (q := 275) E.x dL_areHunks_273 rv_kb100 rfl ?_
      refine rv_irem (q := 276) E.x dL_areHunks_275 (by decide) rfl ?_
      refine rv_iload (q := 278) E.x dL_areHunks_276 rfl rfl ?_
      refine rv_bipush (q := 280) E.x dL_areHunks_278 rv_kb100 rfl ?_
      refine rv_irem (q := 281) E.x dL_areHunks_280 (by decide) rfl ?_
      refine rv_iadd (q := 282) E.x dL_areHunks_281 rfl ?_
      refine rv_if_le (q := 285) (tgt := 289) E.x dL_areHunks_282 (by decide) rfl ?_ ?_
      · refine rv_wk [true, true, true, true, true, true, true, true, true, true, true, true, false, true, true] ?_
        exact bp_areHunks_285 E gh A k90 h90 M x1 x2 x3 x4 x5 x6 x7 x8 x9 x10 x11 x13 x14
      · refine rv_wk [true, true, true, true, true, true, true, true, true, true, true, true, false, true, true] ?_
        exact bp_areHunks_289 E gh A k90 h90 M x1 x2 x3 x4 x5 x6 x7 x8 x9 x10 x11 x13 x14
    · refine rv_wk [true, true, true, true, true, true, true, true, true, true, true, true, false, true, true] ?_
      exact bp_areHunks_285 E gh A k90 h90 M x1 x2 x3 x4 x5 x6 x7 x8 x9 x10 x11 x13 x14
  · refine rv_wk [true, true, true, true, true, true, true, true, true, true, true, true, false, true, true] ?_
    exact bp_areHunks_289 E gh A k90 h90 M x1 x2 x3 x4 x5 x6 x7 x8 x9 x10 x11 x13 x14
set_option maxRecDepth 100000 in
theorem bp_areHunks_198_s {p : Program} {l : Launch} {e : Env} {s : State} {m : MethodId} {args : Array Value} {below : List Frame} {meth : Method} {c : Code} {D : va_G} {cI cZ cO : ClassId} {mi de z0 o b L : Nat} {k : Nat → Nat} {xs : Nat → Int32} (E : lk_E D cI cZ cO mi de z0 b L k xs cL_areHunks 15 (some .boolean) p l s m args meth c) (gh : rC_gh) (A : rv_Mem) (k90 : rv_Mem → Int32 → Int32 → Int32 → Int32 → Int32 → Int32 → Int32 → Bool → Int32 → Int32 → Int32 → Bool → Int32 → Option (Bool × rv_Mem)) (h90 : ∀ (M : rv_Mem) (x1 : Int32) (x2 : Int32) (x3 : Int32) (x4 : Int32) (x5 : Int32) (x6 : Int32) (x7 : Int32) (x8 : Bool) (x9 : Int32) (x10 : Int32) (x11 : Int32) (x12 : Bool) (x13 : Int32), rv_M (lk_G D cI cZ cO de z0 o k) (fun q => z0 ≤ q) p l e rmp_areHunks s m args below meth c 0 0 (lk_qRZ D cI cZ cO de z0 o k gh A below args s 0 0) (k90 M x1 x2 x3 x4 x5 x6 x7 x8 x9 x10 x11 x12 x13) 90 [some (.ref o), some (.int x1), some (.int x2), some (.int x3), some (.int x4), some (.int x5), some (.int x6), some (.int x7), some (.int (rv_i x8)), some (.int x9), some (.int x10), some (.int x11), some (.int (rv_i x12)), some (.int x13), none] [] (gh, M, A)) (k198 : rv_Mem → Int32 → Int32 → Int32 → Int32 → Int32 → Int32 → Int32 → Bool → Int32 → Int32 → Int32 → Bool → Int32 → Int32 → Option (Bool × rv_Mem)) (h198 : ∀ (M : rv_Mem) (x1 : Int32) (x2 : Int32) (x3 : Int32) (x4 : Int32) (x5 : Int32) (x6 : Int32) (x7 : Int32) (x8 : Bool) (x9 : Int32) (x10 : Int32) (x11 : Int32) (x12 : Bool) (x13 : Int32) (x14 : Int32), rv_M (lk_G D cI cZ cO de z0 o k) (fun q => z0 ≤ q) p l e rmp_areHunks s m args below meth c 0 0 (lk_qRZ D cI cZ cO de z0 o k gh A below args s 0 0) (k198 M x1 x2 x3 x4 x5 x6 x7 x8 x9 x10 x11 x12 x13 x14) 198 [some (.ref o), some (.int x1), some (.int x2), some (.int x3), some (.int x4), some (.int x5), some (.int x6), some (.int x7), some (.int (rv_i x8)), some (.int x9), some (.int x10), some (.int x11), some (.int (rv_i x12)), some (.int x13), some (.int x14)] [] (gh, M, A)) : ∀ (M : rv_Mem) (x1 : Int32) (x2 : Int32) (x3 : Int32) (x4 : Int32) (x5 : Int32) (x6 : Int32) (x7 : Int32) (x8 : Bool) (x9 : Int32) (x10 : Int32) (x11 : Int32) (x12 : Bool) (x13 : Int32) (x14 : Int32), rv_M (lk_G D cI cZ cO de z0 o k) (fun q => z0 ≤ q) p l e rmp_areHunks s m args below meth c 0 0 (lk_qRZ D cI cZ cO de z0 o k gh A below args s 0 0) (gp_areHunks_198_s gh A k90 k198 M x1 x2 x3 x4 x5 x6 x7 x8 x9 x10 x11 x12 x13 x14) 198 [some (.ref o), some (.int x1), some (.int x2), some (.int x3), some (.int x4), some (.int x5), some (.int x6), some (.int x7), some (.int (rv_i x8)), some (.int x9), some (.int x10), some (.int x11), some (.int (rv_i x12)), some (.int x13), some (.int x14)] [] (gh, M, A) := by
  intro M x1 x2 x3 x4 x5 x6 x7 x8 x9 x10 x11 x12 x13 x14
  unfold gp_areHunks_198_s
  refine rv_iload (q := 200) E.x dL_areHunks_198 rfl rfl ?_
  refine rv_ifz_eq (q := 203) (tgt := 255) E.x dL_areHunks_200 (by decide) rfl ?_ ?_
  · refine rv_iload (q := 205) E.x dL_areHunks_203 rfl rfl ?_
    refine rv_iload (q := 207) E.x dL_areHunks_205 rfl rfl ?_
    refine lk_ldc (q := 209) E wkL_213 dL_areHunks_207 rfl ?_
    refine rv_idiv (q := 210) E.x dL_areHunks_209 (by decide) rfl ?_
    refine rv_icmp_ge (q := 213) (tgt := 255) E.x dL_areHunks_210 (by decide) rfl ?_ ?_
    · refine rv_aload_n (q := 214) E.x dL_areHunks_213 rfl rfl ?_
      refine rv_iload (q := 216) E.x dL_areHunks_214 rfl rfl ?_
      refine rv_iload (q := 218) E.x dL_areHunks_216 rfl rfl ?_
      refine rv_iload (q := 220) E.x dL_areHunks_218 rfl rfl ?_
      refine lk_x1r (fun r2 e1 => ?_) (fun w3 e4 => rv_stuck)
      refine lk_ci (q := 223) (v := r2) (M1 := M) E (fun u hI _ => c11_line E.2.2.1.1 hI e1) gP_112 hX11_line ⟨rfl, rfl⟩ ⟨Nat.le_of_ble_eq_true rfl, Nat.le_of_ble_eq_true rfl⟩ ⟨Nat.le_of_ble_eq_true rfl, Nat.le_of_ble_eq_true rfl⟩ rfl rfl rfl (Nat.le_of_ble_eq_true rfl) dL_areHunks_220 rfl ?_
      refine rv_aload_n (q := 224) E.x dL_areHunks_223 rfl rfl ?_
      refine rv_iload (q := 226) E.x dL_areHunks_224 rfl rfl ?_
      refine rv_iload (q := 228) E.x dL_areHunks_226 rfl rfl ?_
      refine rv_iload (q := 230) E.x dL_areHunks_228 rfl rfl ?_
      refine lk_x1r (fun r6 e5 => ?_) (fun w7 e8 => rv_stuck)
      refine lk_ci (q := 233) (v := r6) (M1 := M) E (fun u hI _ => c11_line E.2.2.1.1 hI e5) gP_112 hX11_line ⟨rfl, rfl⟩ ⟨Nat.le_of_ble_eq_true rfl, Nat.le_of_ble_eq_true rfl⟩ ⟨Nat.le_of_ble_eq_true rfl, Nat.le_of_ble_eq_true rfl⟩ rfl rfl rfl (Nat.le_of_ble_eq_true rfl) dL_areHunks_230 rfl ?_
      refine rv_icmp_ne (q := 236) (tgt := 240) E.x dL_areHunks_233 (by decide) rfl ?_ ?_
      · refine rv_iconst (q := 237) E.x dL_areHunks_236 rv_ki1 rfl ?_
        refine rv_goto (q := 241) E.x dL_areHunks_237 (by decide) ?_
        refine rv_wk [true, true, true, true, true, true, true, true, true, true, true, true, false, true, true] ?_
        exact bp_areHunks_241 E gh A k90 k198 h90 h198 M x1 x2 x3 x4 x5 x6 x7 x8 x9 x10 x11 x13 x14 true
      · refine rv_iconst (q := 241) E.x dL_areHunks_240 rv_ki0 rfl ?_
        refine rv_wk [true, true, true, true, true, true, true, true, true, true, true, true, false, true, true] ?_
        exact bp_areHunks_241 E gh A k90 k198 h90 h198 M x1 x2 x3 x4 x5 x6 x7 x8 x9 x10 x11 x13 x14 false
    · refine rv_wk [true, true, true, true, true, true, true, true, true, true, true, true, true, true, true] ?_
      exact bp_areHunks_255 E gh A k90 h90 M x1 x2 x3 x4 x5 x6 x7 x8 x9 x10 x11 x12 x13 x14
  · refine rv_wk [true, true, true, true, true, true, true, true, true, true, true, true, true, true, true] ?_
    exact bp_areHunks_255 E gh A k90 h90 M x1 x2 x3 x4 x5 x6 x7 x8 x9 x10 x11 x12 x13 x14
theorem bp_areHunks_198 {p : Program} {l : Launch} {e : Env} {s : State} {m : MethodId} {args : Array Value} {below : List Frame} {meth : Method} {c : Code} {D : va_G} {cI cZ cO : ClassId} {mi de z0 o b L : Nat} {k : Nat → Nat} {xs : Nat → Int32} (E : lk_E D cI cZ cO mi de z0 b L k xs cL_areHunks 15 (some .boolean) p l s m args meth c) (gh : rC_gh) (A : rv_Mem) (k90 : rv_Mem → Int32 → Int32 → Int32 → Int32 → Int32 → Int32 → Int32 → Bool → Int32 → Int32 → Int32 → Bool → Int32 → Option (Bool × rv_Mem)) (h90 : ∀ (M : rv_Mem) (x1 : Int32) (x2 : Int32) (x3 : Int32) (x4 : Int32) (x5 : Int32) (x6 : Int32) (x7 : Int32) (x8 : Bool) (x9 : Int32) (x10 : Int32) (x11 : Int32) (x12 : Bool) (x13 : Int32), rv_M (lk_G D cI cZ cO de z0 o k) (fun q => z0 ≤ q) p l e rmp_areHunks s m args below meth c 0 0 (lk_qRZ D cI cZ cO de z0 o k gh A below args s 0 0) (k90 M x1 x2 x3 x4 x5 x6 x7 x8 x9 x10 x11 x12 x13) 90 [some (.ref o), some (.int x1), some (.int x2), some (.int x3), some (.int x4), some (.int x5), some (.int x6), some (.int x7), some (.int (rv_i x8)), some (.int x9), some (.int x10), some (.int x11), some (.int (rv_i x12)), some (.int x13), none] [] (gh, M, A)) : ∀ (n : Nat), ∀ (M : rv_Mem) (x1 : Int32) (x2 : Int32) (x3 : Int32) (x4 : Int32) (x5 : Int32) (x6 : Int32) (x7 : Int32) (x8 : Bool) (x9 : Int32) (x10 : Int32) (x11 : Int32) (x12 : Bool) (x13 : Int32) (x14 : Int32), rv_M (lk_G D cI cZ cO de z0 o k) (fun q => z0 ≤ q) p l e rmp_areHunks s m args below meth c 0 0 (lk_qRZ D cI cZ cO de z0 o k gh A below args s 0 0) (gp_areHunks_198 gh A k90 n M x1 x2 x3 x4 x5 x6 x7 x8 x9 x10 x11 x12 x13 x14) 198 [some (.ref o), some (.int x1), some (.int x2), some (.int x3), some (.int x4), some (.int x5), some (.int x6), some (.int x7), some (.int (rv_i x8)), some (.int x9), some (.int x10), some (.int x11), some (.int (rv_i x12)), some (.int x13), some (.int x14)] [] (gh, M, A) := by
  intro n
  induction n with
  | zero => exact fun _ _ _ _ _ _ _ _ _ _ _ _ _ _ _ => rv_stuck
  | succ n ih => exact bp_areHunks_198_s E gh A k90 h90 (gp_areHunks_198 gh A k90 n) ih
set_option maxRecDepth 100000 in
theorem bp_areHunks_196 {p : Program} {l : Launch} {e : Env} {s : State} {m : MethodId} {args : Array Value} {below : List Frame} {meth : Method} {c : Code} {D : va_G} {cI cZ cO : ClassId} {mi de z0 o b L : Nat} {k : Nat → Nat} {xs : Nat → Int32} (E : lk_E D cI cZ cO mi de z0 b L k xs cL_areHunks 15 (some .boolean) p l s m args meth c) (gh : rC_gh) (A : rv_Mem) (k90 : rv_Mem → Int32 → Int32 → Int32 → Int32 → Int32 → Int32 → Int32 → Bool → Int32 → Int32 → Int32 → Bool → Int32 → Option (Bool × rv_Mem)) (h90 : ∀ (M : rv_Mem) (x1 : Int32) (x2 : Int32) (x3 : Int32) (x4 : Int32) (x5 : Int32) (x6 : Int32) (x7 : Int32) (x8 : Bool) (x9 : Int32) (x10 : Int32) (x11 : Int32) (x12 : Bool) (x13 : Int32), rv_M (lk_G D cI cZ cO de z0 o k) (fun q => z0 ≤ q) p l e rmp_areHunks s m args below meth c 0 0 (lk_qRZ D cI cZ cO de z0 o k gh A below args s 0 0) (k90 M x1 x2 x3 x4 x5 x6 x7 x8 x9 x10 x11 x12 x13) 90 [some (.ref o), some (.int x1), some (.int x2), some (.int x3), some (.int x4), some (.int x5), some (.int x6), some (.int x7), some (.int (rv_i x8)), some (.int x9), some (.int x10), some (.int x11), some (.int (rv_i x12)), some (.int x13), none] [] (gh, M, A)) : ∀ (M : rv_Mem) (x1 : Int32) (x2 : Int32) (x3 : Int32) (x4 : Int32) (x5 : Int32) (x6 : Int32) (x7 : Int32) (x8 : Bool) (x9 : Int32) (x10 : Int32) (x11 : Int32) (x13 : Int32) (x14 : Int32) (s0 : Bool), rv_M (lk_G D cI cZ cO de z0 o k) (fun q => z0 ≤ q) p l e rmp_areHunks s m args below meth c 0 0 (lk_qRZ D cI cZ cO de z0 o k gh A below args s 0 0) (gp_areHunks_196 gh A k90 M x1 x2 x3 x4 x5 x6 x7 x8 x9 x10 x11 x13 x14 s0) 196 [some (.ref o), some (.int x1), some (.int x2), some (.int x3), some (.int x4), some (.int x5), some (.int x6), some (.int x7), some (.int (rv_i x8)), some (.int x9), some (.int x10), some (.int x11), none, some (.int x13), some (.int x14)] [.int (rv_i s0)] (gh, M, A) := by
  intro M x1 x2 x3 x4 x5 x6 x7 x8 x9 x10 x11 x13 x14 s0
  unfold gp_areHunks_196
  refine rv_istore (q := 198) (lv' := [_, _, _, _, _, _, _, _, _, _, _, _, _, _, _]) E.x dL_areHunks_196 (Nat.le_of_ble_eq_true rfl) rfl rfl rfl ?_
  refine rv_wk [true, true, true, true, true, true, true, true, true, true, true, true, true, true, true] ?_
  exact bp_areHunks_198 E gh A k90 h90 rv_FU M x1 x2 x3 x4 x5 x6 x7 x8 x9 x10 x11 s0 x13 x14
set_option maxRecDepth 100000 in
theorem bp_areHunks_195 {p : Program} {l : Launch} {e : Env} {s : State} {m : MethodId} {args : Array Value} {below : List Frame} {meth : Method} {c : Code} {D : va_G} {cI cZ cO : ClassId} {mi de z0 o b L : Nat} {k : Nat → Nat} {xs : Nat → Int32} (E : lk_E D cI cZ cO mi de z0 b L k xs cL_areHunks 15 (some .boolean) p l s m args meth c) (gh : rC_gh) (A : rv_Mem) (k90 : rv_Mem → Int32 → Int32 → Int32 → Int32 → Int32 → Int32 → Int32 → Bool → Int32 → Int32 → Int32 → Bool → Int32 → Option (Bool × rv_Mem)) (h90 : ∀ (M : rv_Mem) (x1 : Int32) (x2 : Int32) (x3 : Int32) (x4 : Int32) (x5 : Int32) (x6 : Int32) (x7 : Int32) (x8 : Bool) (x9 : Int32) (x10 : Int32) (x11 : Int32) (x12 : Bool) (x13 : Int32), rv_M (lk_G D cI cZ cO de z0 o k) (fun q => z0 ≤ q) p l e rmp_areHunks s m args below meth c 0 0 (lk_qRZ D cI cZ cO de z0 o k gh A below args s 0 0) (k90 M x1 x2 x3 x4 x5 x6 x7 x8 x9 x10 x11 x12 x13) 90 [some (.ref o), some (.int x1), some (.int x2), some (.int x3), some (.int x4), some (.int x5), some (.int x6), some (.int x7), some (.int (rv_i x8)), some (.int x9), some (.int x10), some (.int x11), some (.int (rv_i x12)), some (.int x13), none] [] (gh, M, A)) : ∀ (M : rv_Mem) (x1 : Int32) (x2 : Int32) (x3 : Int32) (x4 : Int32) (x5 : Int32) (x6 : Int32) (x7 : Int32) (x8 : Bool) (x9 : Int32) (x10 : Int32) (x11 : Int32) (x13 : Int32) (x14 : Int32), rv_M (lk_G D cI cZ cO de z0 o k) (fun q => z0 ≤ q) p l e rmp_areHunks s m args below meth c 0 0 (lk_qRZ D cI cZ cO de z0 o k gh A below args s 0 0) (gp_areHunks_195 gh A k90 M x1 x2 x3 x4 x5 x6 x7 x8 x9 x10 x11 x13 x14) 195 [some (.ref o), some (.int x1), some (.int x2), some (.int x3), some (.int x4), some (.int x5), some (.int x6), some (.int x7), some (.int (rv_i x8)), some (.int x9), some (.int x10), some (.int x11), none, some (.int x13), some (.int x14)] [] (gh, M, A) := by
  intro M x1 x2 x3 x4 x5 x6 x7 x8 x9 x10 x11 x13 x14
  unfold gp_areHunks_195
  refine rv_iconst (q := 196) E.x dL_areHunks_195 rv_ki0 rfl ?_
  refine rv_wk [true, true, true, true, true, true, true, true, true, true, true, true, false, true, true] ?_
  exact bp_areHunks_196 E gh A k90 h90 M x1 x2 x3 x4 x5 x6 x7 x8 x9 x10 x11 x13 x14 false
set_option maxRecDepth 100000 in
theorem bp_areHunks_152 {p : Program} {l : Launch} {e : Env} {s : State} {m : MethodId} {args : Array Value} {below : List Frame} {meth : Method} {c : Code} {D : va_G} {cI cZ cO : ClassId} {mi de z0 o b L : Nat} {k : Nat → Nat} {xs : Nat → Int32} (E : lk_E D cI cZ cO mi de z0 b L k xs cL_areHunks 15 (some .boolean) p l s m args meth c) (gh : rC_gh) (A : rv_Mem) (k90 : rv_Mem → Int32 → Int32 → Int32 → Int32 → Int32 → Int32 → Int32 → Bool → Int32 → Int32 → Int32 → Bool → Int32 → Option (Bool × rv_Mem)) (h90 : ∀ (M : rv_Mem) (x1 : Int32) (x2 : Int32) (x3 : Int32) (x4 : Int32) (x5 : Int32) (x6 : Int32) (x7 : Int32) (x8 : Bool) (x9 : Int32) (x10 : Int32) (x11 : Int32) (x12 : Bool) (x13 : Int32), rv_M (lk_G D cI cZ cO de z0 o k) (fun q => z0 ≤ q) p l e rmp_areHunks s m args below meth c 0 0 (lk_qRZ D cI cZ cO de z0 o k gh A below args s 0 0) (k90 M x1 x2 x3 x4 x5 x6 x7 x8 x9 x10 x11 x12 x13) 90 [some (.ref o), some (.int x1), some (.int x2), some (.int x3), some (.int x4), some (.int x5), some (.int x6), some (.int x7), some (.int (rv_i x8)), some (.int x9), some (.int x10), some (.int x11), some (.int (rv_i x12)), some (.int x13), none] [] (gh, M, A)) : ∀ (M : rv_Mem) (x1 : Int32) (x2 : Int32) (x3 : Int32) (x4 : Int32) (x5 : Int32) (x6 : Int32) (x7 : Int32) (x8 : Bool) (x9 : Int32) (x10 : Int32) (x11 : Int32) (x13 : Int32) (s0 : Int32), rv_M (lk_G D cI cZ cO de z0 o k) (fun q => z0 ≤ q) p l e rmp_areHunks s m args below meth c 0 0 (lk_qRZ D cI cZ cO de z0 o k gh A below args s 0 0) (gp_areHunks_152 gh A k90 M x1 x2 x3 x4 x5 x6 x7 x8 x9 x10 x11 x13 s0) 152 [some (.ref o), some (.int x1), some (.int x2), some (.int x3), some (.int x4), some (.int x5), some (.int x6), some (.int x7), some (.int (rv_i x8)), some (.int x9), some (.int x10), some (.int x11), none, some (.int x13), none] [.int s0] (gh, M, A) := by
  intro M x1 x2 x3 x4 x5 x6 x7 x8 x9 x10 x11 x13 s0
  unfold gp_areHunks_152
  refine rv_istore (q := 154) (lv' := [_, _, _, _, _, _, _, _, _, _, _, _, _, _, _]) E.x dL_areHunks_152 (Nat.le_of_ble_eq_true rfl) rfl rfl rfl ?_
  refine rv_iload (q := 156) E.x dL_areHunks_154 rfl rfl ?_
  refine rv_if_lt (q := 159) (tgt := 195) E.x dL_areHunks_156 (by decide) rfl ?_ ?_
  · refine rv_iload (q := 161) E.x dL_areHunks_159 rfl rfl ?_
    refine lk_ldc (q := 163) E wkL_213 dL_areHunks_161 rfl ?_
    refine rv_idiv (q := 164) E.x dL_areHunks_163 (by decide) rfl ?_
    refine rv_iload (q := 166) E.x dL_areHunks_164 rfl rfl ?_
    refine rv_isub (q := 167) E.x dL_areHunks_166 rfl ?_
    refine rv_iload (q := 169) E.x dL_areHunks_167 rfl rfl ?_
    refine rv_bipush (q := 171) E.x dL_areHunks_169 rv_kb100 rfl ?_
    refine rv_idiv (q := 172) E.x dL_areHunks_171 (by decide) rfl ?_
    refine rv_bipush (q := 174) E.x dL_areHunks_172 rv_kb100 rfl ?_
    refine rv_irem (q := 175) E.x dL_areHunks_174 (by decide) rfl ?_
    refine rv_iload (q := 177) E.x dL_areHunks_175 rfl rfl ?_
    refine rv_isub (q := 178) E.x dL_areHunks_177 rfl ?_
    refine rv_icmp_ne (q := 181) (tgt := 195) E.x dL_areHunks_178 (by decide) rfl ?_ ?_
    · refine rv_iload (q := 183) E.x dL_areHunks_181 rfl rfl ?_
      refine lk_ldc (q := 185) E wkL_213 dL_areHunks_183 rfl ?_
      refine rv_idiv (q := 186) E.x dL_areHunks_185 (by decide) rfl ?_
      refine rv_iload (q := 188) E.x dL_areHunks_186 rfl rfl ?_
      refine rv_icmp_lt (q := 191) (tgt := 195) E.x dL_areHunks_188 (by decide) rfl ?_ ?_
      · refine rv_iconst (q := 192) E.x dL_areHunks_191 rv_ki1 rfl ?_
        refine rv_goto (q := 196) E.x dL_areHunks_192 (by decide) ?_
        refine rv_wk [true, true, true, true, true, true, true, true, true, true, true, true, false, true, true] ?_
        exact bp_areHunks_196 E gh A k90 h90 M x1 x2 x3 x4 x5 x6 x7 x8 x9 x10 x11 x13 s0 true
      · refine rv_wk [true, true, true, true, true, true, true, true, true, true, true, true, false, true, true] ?_
        exact bp_areHunks_195 E gh A k90 h90 M x1 x2 x3 x4 x5 x6 x7 x8 x9 x10 x11 x13 s0
    · refine rv_wk [true, true, true, true, true, true, true, true, true, true, true, true, false, true, true] ?_
      exact bp_areHunks_195 E gh A k90 h90 M x1 x2 x3 x4 x5 x6 x7 x8 x9 x10 x11 x13 s0
  · refine rv_wk [true, true, true, true, true, true, true, true, true, true, true, true, false, true, true] ?_
    exact bp_areHunks_195 E gh A k90 h90 M x1 x2 x3 x4 x5 x6 x7 x8 x9 x10 x11 x13 s0
set_option maxRecDepth 100000 in
theorem bp_areHunks_379 {p : Program} {l : Launch} {e : Env} {s : State} {m : MethodId} {args : Array Value} {below : List Frame} {meth : Method} {c : Code} {D : va_G} {cI cZ cO : ClassId} {mi de z0 o b L : Nat} {k : Nat → Nat} {xs : Nat → Int32} (E : lk_E D cI cZ cO mi de z0 b L k xs cL_areHunks 15 (some .boolean) p l s m args meth c) (gh : rC_gh) (A : rv_Mem)   : ∀ (M : rv_Mem) (x1 : Int32) (x2 : Int32) (x3 : Int32) (x4 : Int32), rv_M (lk_G D cI cZ cO de z0 o k) (fun q => z0 ≤ q) p l e rmp_areHunks s m args below meth c 0 0 (lk_qRZ D cI cZ cO de z0 o k gh A below args s 0 0) (gp_areHunks_379 gh A M x1 x2 x3 x4) 379 [some (.ref o), some (.int x1), some (.int x2), some (.int x3), some (.int x4), none, none, none, none, none, none, none, none, none, none] [] (gh, M, A) := by
  intro M x1 x2 x3 x4
  unfold gp_areHunks_379
  refine rv_aload_n (q := 380) E.x dL_areHunks_379 rfl rfl ?_
  refine rv_iload_n (q := 381) E.x dL_areHunks_380 rfl rfl ?_
  refine rv_iload_n (q := 382) E.x dL_areHunks_381 rfl rfl ?_
  refine rv_iload_n (q := 383) E.x dL_areHunks_382 rfl rfl ?_
  refine rv_iload (q := 385) E.x dL_areHunks_383 rfl rfl ?_
  refine rv_iconst (q := 386) E.x dL_areHunks_385 rv_ki1 rfl ?_
  refine lk_x3r (fun r2 M5 e1 => ?_) (fun w3 M6 e4 => rv_stuck)
  refine lk_ci (q := 389) (v := r2) (M1 := M5) E (fun u hI _ => c11_hunks E.2.2.1.1 hI e1) gP_173 hX11_hunks ⟨rfl, rfl⟩ ⟨Nat.le_of_ble_eq_true rfl, Nat.le_of_ble_eq_true rfl⟩ ⟨Nat.le_of_ble_eq_true rfl, Nat.le_of_ble_eq_true rfl⟩ rfl rfl rfl (Nat.le_of_ble_eq_true rfl) dL_areHunks_386 rfl ?_
  refine rv_bipush (q := 391) E.x dL_areHunks_389 rv_kb11 rfl ?_
  refine rv_icmp_gt (q := 394) (tgt := 398) E.x dL_areHunks_391 (by decide) rfl ?_ ?_
  · refine rv_iconst (q := 395) E.x dL_areHunks_394 rv_ki1 rfl ?_
    refine rv_goto (q := 399) E.x dL_areHunks_395 (by decide) ?_
    exact lk_zret E true rfl ⟨Nat.le_of_ble_eq_true rfl, Nat.le_of_ble_eq_true rfl⟩ dL_areHunks_399
  · refine rv_iconst (q := 399) E.x dL_areHunks_398 rv_ki0 rfl ?_
    exact lk_zret E false rfl ⟨Nat.le_of_ble_eq_true rfl, Nat.le_of_ble_eq_true rfl⟩ dL_areHunks_399
set_option maxRecDepth 100000 in
theorem bp_areHunks_344 {p : Program} {l : Launch} {e : Env} {s : State} {m : MethodId} {args : Array Value} {below : List Frame} {meth : Method} {c : Code} {D : va_G} {cI cZ cO : ClassId} {mi de z0 o b L : Nat} {k : Nat → Nat} {xs : Nat → Int32} (E : lk_E D cI cZ cO mi de z0 b L k xs cL_areHunks 15 (some .boolean) p l s m args meth c) (gh : rC_gh) (A : rv_Mem)   : ∀ (M : rv_Mem) (x1 : Int32) (x2 : Int32) (x3 : Int32) (x4 : Int32) (x5 : Int32) (x6 : Int32) (x7 : Int32) (x8 : Bool) (x11 : Int32) (x12 : Bool), rv_M (lk_G D cI cZ cO de z0 o k) (fun q => z0 ≤ q) p l e rmp_areHunks s m args below meth c 0 0 (lk_qRZ D cI cZ cO de z0 o k gh A below args s 0 0) (gp_areHunks_344 gh A M x1 x2 x3 x4 x5 x6 x7 x8 x11 x12) 344 [some (.ref o), some (.int x1), some (.int x2), some (.int x3), some (.int x4), some (.int x5), some (.int x6), some (.int x7), some (.int (rv_i x8)), none, none, some (.int x11), some (.int (rv_i x12)), none, none] [] (gh, M, A) := by
  intro M x1 x2 x3 x4 x5 x6 x7 x8 x11 x12
  unfold gp_areHunks_344
  refine rv_iload (q := 346) E.x dL_areHunks_344 rfl rfl ?_
  refine rv_ifz_eq (q := 349) (tgt := 398) E.x dL_areHunks_346 (by decide) rfl ?_ ?_
  · refine rv_iload (q := 351) E.x dL_areHunks_349 rfl rfl ?_
    refine rv_ifz_eq (q := 354) (tgt := 379) E.x dL_areHunks_351 (by decide) rfl ?_ ?_
    · refine rv_iload (q := 356) E.x dL_areHunks_354 rfl rfl ?_
      refine rv_aload_n (q := 357) E.x dL_areHunks_356 rfl rfl ?_
      refine rv_iload (q := 359) E.x dL_areHunks_357 rfl rfl ?_
      refine rv_iload (q := 361) E.x dL_areHunks_359 rfl rfl ?_
      refine rv_iload (q := 363) E.x dL_areHunks_361 rfl rfl ?_
      refine rv_b2 (fun r2 M3 e1 => ?_)
      refine lk_cs0 (q := 366) (v := r2) (σ' := (gh, M3, A)) E (wP_most E.2.2.1 e1) gPs_214 hP_most ⟨rfl, rfl⟩ ⟨Nat.le_of_ble_eq_true rfl, Nat.le_of_ble_eq_true rfl⟩ ⟨Nat.le_of_ble_eq_true rfl, Nat.le_of_ble_eq_true rfl⟩ rfl rfl rfl (Nat.le_of_ble_eq_true rfl) dL_areHunks_363 rfl ?_
      refine rv_icmp_ne (q := 369) (tgt := 398) E.x dL_areHunks_366 (by decide) rfl ?_ ?_
      · refine rv_iload_n (q := 370) E.x dL_areHunks_369 rfl rfl ?_
        refine rv_iload_n (q := 371) E.x dL_areHunks_370 rfl rfl ?_
        refine rv_icmp_ne (q := 374) (tgt := 379) E.x dL_areHunks_371 (by decide) rfl ?_ ?_
        · refine rv_iload (q := 376) E.x dL_areHunks_374 rfl rfl ?_
          refine rv_if_ne (q := 379) (tgt := 398) E.x dL_areHunks_376 (by decide) rfl ?_ ?_
          · refine rv_wk [true, true, true, true, true, false, false, false, false, false, false, false, false, false, false] ?_
            exact bp_areHunks_379 E gh A M3 x1 x2 x3 x4
          · refine rv_iconst (q := 399) E.x dL_areHunks_398 rv_ki0 rfl ?_
            exact lk_zret E false rfl ⟨Nat.le_of_ble_eq_true rfl, Nat.le_of_ble_eq_true rfl⟩ dL_areHunks_399
        · refine rv_wk [true, true, true, true, true, false, false, false, false, false, false, false, false, false, false] ?_
          exact bp_areHunks_379 E gh A M3 x1 x2 x3 x4
      · refine rv_iconst (q := 399) E.x dL_areHunks_398 rv_ki0 rfl ?_
        exact lk_zret E false rfl ⟨Nat.le_of_ble_eq_true rfl, Nat.le_of_ble_eq_true rfl⟩ dL_areHunks_399
    · refine rv_wk [true, true, true, true, true, false, false, false, false, false, false, false, false, false, false] ?_
      exact bp_areHunks_379 E gh A M x1 x2 x3 x4
  · refine rv_iconst (q := 399) E.x dL_areHunks_398 rv_ki0 rfl ?_
    exact lk_zret E false rfl ⟨Nat.le_of_ble_eq_true rfl, Nat.le_of_ble_eq_true rfl⟩ dL_areHunks_399
set_option maxRecDepth 100000 in
theorem bp_areHunks_90_s {p : Program} {l : Launch} {e : Env} {s : State} {m : MethodId} {args : Array Value} {below : List Frame} {meth : Method} {c : Code} {D : va_G} {cI cZ cO : ClassId} {mi de z0 o b L : Nat} {k : Nat → Nat} {xs : Nat → Int32} (E : lk_E D cI cZ cO mi de z0 b L k xs cL_areHunks 15 (some .boolean) p l s m args meth c) (gh : rC_gh) (A : rv_Mem)   (k90 : rv_Mem → Int32 → Int32 → Int32 → Int32 → Int32 → Int32 → Int32 → Bool → Int32 → Int32 → Int32 → Bool → Int32 → Option (Bool × rv_Mem)) (h90 : ∀ (M : rv_Mem) (x1 : Int32) (x2 : Int32) (x3 : Int32) (x4 : Int32) (x5 : Int32) (x6 : Int32) (x7 : Int32) (x8 : Bool) (x9 : Int32) (x10 : Int32) (x11 : Int32) (x12 : Bool) (x13 : Int32), rv_M (lk_G D cI cZ cO de z0 o k) (fun q => z0 ≤ q) p l e rmp_areHunks s m args below meth c 0 0 (lk_qRZ D cI cZ cO de z0 o k gh A below args s 0 0) (k90 M x1 x2 x3 x4 x5 x6 x7 x8 x9 x10 x11 x12 x13) 90 [some (.ref o), some (.int x1), some (.int x2), some (.int x3), some (.int x4), some (.int x5), some (.int x6), some (.int x7), some (.int (rv_i x8)), some (.int x9), some (.int x10), some (.int x11), some (.int (rv_i x12)), some (.int x13), none] [] (gh, M, A)) : ∀ (M : rv_Mem) (x1 : Int32) (x2 : Int32) (x3 : Int32) (x4 : Int32) (x5 : Int32) (x6 : Int32) (x7 : Int32) (x8 : Bool) (x9 : Int32) (x10 : Int32) (x11 : Int32) (x12 : Bool) (x13 : Int32), rv_M (lk_G D cI cZ cO de z0 o k) (fun q => z0 ≤ q) p l e rmp_areHunks s m args below meth c 0 0 (lk_qRZ D cI cZ cO de z0 o k gh A below args s 0 0) (gp_areHunks_90_s gh A k90 M x1 x2 x3 x4 x5 x6 x7 x8 x9 x10 x11 x12 x13) 90 [some (.ref o), some (.int x1), some (.int x2), some (.int x3), some (.int x4), some (.int x5), some (.int x6), some (.int x7), some (.int (rv_i x8)), some (.int x9), some (.int x10), some (.int x11), some (.int (rv_i x12)), some (.int x13), none] [] (gh, M, A) := by
  intro M x1 x2 x3 x4 x5 x6 x7 x8 x9 x10 x11 x12 x13
  unfold gp_areHunks_90_s
  refine rv_iload (q := 92) E.x dL_areHunks_90 rfl rfl ?_
  refine rv_iload (q := 94) E.x dL_areHunks_92 rfl rfl ?_
  refine rv_icmp_gt (q := 97) (tgt := 344) E.x dL_areHunks_94 (by decide) rfl ?_ ?_
  · refine rv_iload (q := 99) E.x dL_areHunks_97 rfl rfl ?_
    refine rv_ifz_eq (q := 102) (tgt := 344) E.x dL_areHunks_99 (by decide) rfl ?_ ?_
    · refine rv_iload (q := 104) E.x dL_areHunks_102 rfl rfl ?_
      refine rv_ifz_eq (q := 107) (tgt := 344) E.x dL_areHunks_104 (by decide) rfl ?_ ?_
      · refine rv_iload (q := 109) E.x dL_areHunks_107 rfl rfl ?_
        refine rv_iload (q := 111) E.x dL_areHunks_109 rfl rfl ?_
        refine rv_icmp_ne (q := 114) (tgt := 140) E.x dL_areHunks_111 (by decide) rfl ?_ ?_
        · refine lk_ldc (q := 116) E wkL_213 dL_areHunks_114 rfl ?_
          refine rv_aload_n (q := 117) E.x dL_areHunks_116 rfl rfl ?_
          refine rv_iload (q := 119) E.x dL_areHunks_117 rfl rfl ?_
          refine rv_iload (q := 121) E.x dL_areHunks_119 rfl rfl ?_
          refine rv_b2 (fun r2 M3 e1 => ?_)
          refine lk_cs0 (q := 124) (v := r2) (σ' := (gh, M3, A)) E (wP_size E.2.2.1 e1) gPs_203 hP_size ⟨rfl, rfl⟩ ⟨Nat.le_of_ble_eq_true rfl, Nat.le_of_ble_eq_true rfl⟩ ⟨Nat.le_of_ble_eq_true rfl, Nat.le_of_ble_eq_true rfl⟩ rfl rfl rfl (Nat.le_of_ble_eq_true rfl) dL_areHunks_121 rfl ?_
          refine rv_imul (q := 125) E.x dL_areHunks_124 rfl ?_
          refine rv_bipush (q := 127) E.x dL_areHunks_125 rv_kb100 rfl ?_
          refine rv_aload_n (q := 128) E.x dL_areHunks_127 rfl rfl ?_
          refine rv_iload (q := 130) E.x dL_areHunks_128 rfl rfl ?_
          refine rv_iload (q := 132) E.x dL_areHunks_130 rfl rfl ?_
          refine rv_b2 (fun r5 M6 e4 => ?_)
          refine lk_cs0 (q := 135) (v := r5) (σ' := (gh, M6, A)) E (wP_size E.2.2.1 e4) gPs_203 hP_size ⟨rfl, rfl⟩ ⟨Nat.le_of_ble_eq_true rfl, Nat.le_of_ble_eq_true rfl⟩ ⟨Nat.le_of_ble_eq_true rfl, Nat.le_of_ble_eq_true rfl⟩ rfl rfl rfl (Nat.le_of_ble_eq_true rfl) dL_areHunks_132 rfl ?_
          refine rv_imul (q := 136) E.x dL_areHunks_135 rfl ?_
          refine rv_iadd (q := 137) E.x dL_areHunks_136 rfl ?_
          refine rv_goto (q := 152) E.x dL_areHunks_137 (by decide) ?_
          refine rv_wk [true, true, true, true, true, true, true, true, true, true, true, true, false, true, false] ?_
          exact bp_areHunks_152 E gh A k90 h90 M6 x1 x2 x3 x4 x5 x6 x7 x8 x9 x10 x11 x13 ((1000000 * r2) + (100 * r5))
        · refine rv_aload_n (q := 141) E.x dL_areHunks_140 rfl rfl ?_
          refine rv_iload_n (q := 142) E.x dL_areHunks_141 rfl rfl ?_
          refine rv_iload_n (q := 143) E.x dL_areHunks_142 rfl rfl ?_
          refine rv_iload_n (q := 144) E.x dL_areHunks_143 rfl rfl ?_
          refine rv_iload (q := 146) E.x dL_areHunks_144 rfl rfl ?_
          refine rv_iconst (q := 147) E.x dL_areHunks_146 rv_ki0 rfl ?_
          refine rv_iload (q := 149) E.x dL_areHunks_147 rfl rfl ?_
          refine lk_x3r (fun r8 M11 e7 => ?_) (fun w9 M12 e10 => rv_stuck)
          refine lk_ci (q := 152) (v := r8) (M1 := M11) E (fun u hI _ => c11_hunkAt E.2.2.1.1 hI e7) gP_177 hX11_hunkAt ⟨rfl, rfl⟩ ⟨Nat.le_of_ble_eq_true rfl, Nat.le_of_ble_eq_true rfl⟩ ⟨Nat.le_of_ble_eq_true rfl, Nat.le_of_ble_eq_true rfl⟩ rfl rfl rfl (Nat.le_of_ble_eq_true rfl) dL_areHunks_149 rfl ?_
          refine rv_wk [true, true, true, true, true, true, true, true, true, true, true, true, false, true, false] ?_
          exact bp_areHunks_152 E gh A k90 h90 M11 x1 x2 x3 x4 x5 x6 x7 x8 x9 x10 x11 x13 r8
      · refine rv_wk [true, true, true, true, true, true, true, true, true, false, false, true, true, false, false] ?_
        exact bp_areHunks_344 E gh A M x1 x2 x3 x4 x5 x6 x7 x8 x11 x12
    · refine rv_wk [true, true, true, true, true, true, true, true, true, false, false, true, true, false, false] ?_
      exact bp_areHunks_344 E gh A M x1 x2 x3 x4 x5 x6 x7 x8 x11 x12
  · refine rv_wk [true, true, true, true, true, true, true, true, true, false, false, true, true, false, false] ?_
    exact bp_areHunks_344 E gh A M x1 x2 x3 x4 x5 x6 x7 x8 x11 x12
theorem bp_areHunks_90 {p : Program} {l : Launch} {e : Env} {s : State} {m : MethodId} {args : Array Value} {below : List Frame} {meth : Method} {c : Code} {D : va_G} {cI cZ cO : ClassId} {mi de z0 o b L : Nat} {k : Nat → Nat} {xs : Nat → Int32} (E : lk_E D cI cZ cO mi de z0 b L k xs cL_areHunks 15 (some .boolean) p l s m args meth c) (gh : rC_gh) (A : rv_Mem)   : ∀ (n : Nat), ∀ (M : rv_Mem) (x1 : Int32) (x2 : Int32) (x3 : Int32) (x4 : Int32) (x5 : Int32) (x6 : Int32) (x7 : Int32) (x8 : Bool) (x9 : Int32) (x10 : Int32) (x11 : Int32) (x12 : Bool) (x13 : Int32), rv_M (lk_G D cI cZ cO de z0 o k) (fun q => z0 ≤ q) p l e rmp_areHunks s m args below meth c 0 0 (lk_qRZ D cI cZ cO de z0 o k gh A below args s 0 0) (gp_areHunks_90 gh A n M x1 x2 x3 x4 x5 x6 x7 x8 x9 x10 x11 x12 x13) 90 [some (.ref o), some (.int x1), some (.int x2), some (.int x3), some (.int x4), some (.int x5), some (.int x6), some (.int x7), some (.int (rv_i x8)), some (.int x9), some (.int x10), some (.int x11), some (.int (rv_i x12)), some (.int x13), none] [] (gh, M, A) := by
  intro n
  induction n with
  | zero => exact fun _ _ _ _ _ _ _ _ _ _ _ _ _ _ => rv_stuck
  | succ n ih => exact bp_areHunks_90_s E gh A (gp_areHunks_90 gh A n) ih
set_option maxRecDepth 100000 in
theorem bp_areHunks_85 {p : Program} {l : Launch} {e : Env} {s : State} {m : MethodId} {args : Array Value} {below : List Frame} {meth : Method} {c : Code} {D : va_G} {cI cZ cO : ClassId} {mi de z0 o b L : Nat} {k : Nat → Nat} {xs : Nat → Int32} (E : lk_E D cI cZ cO mi de z0 b L k xs cL_areHunks 15 (some .boolean) p l s m args meth c) (gh : rC_gh) (A : rv_Mem)   : ∀ (M : rv_Mem) (x1 : Int32) (x2 : Int32) (x3 : Int32) (x4 : Int32) (x5 : Int32) (x6 : Int32) (x7 : Int32) (x8 : Bool) (s0 : Bool), rv_M (lk_G D cI cZ cO de z0 o k) (fun q => z0 ≤ q) p l e rmp_areHunks s m args below meth c 0 0 (lk_qRZ D cI cZ cO de z0 o k gh A below args s 0 0) (gp_areHunks_85 gh A M x1 x2 x3 x4 x5 x6 x7 x8 s0) 85 [some (.ref o), some (.int x1), some (.int x2), some (.int x3), some (.int x4), some (.int x5), some (.int x6), some (.int x7), some (.int (rv_i x8)), some (.int 0), some (.int 0), some (.int 0), none, none, none] [.int (rv_i s0)] (gh, M, A) := by
  intro M x1 x2 x3 x4 x5 x6 x7 x8 s0
  unfold gp_areHunks_85
  refine rv_istore (q := 87) (lv' := [_, _, _, _, _, _, _, _, _, _, _, _, _, _, _]) E.x dL_areHunks_85 (Nat.le_of_ble_eq_true rfl) rfl rfl rfl ?_
  refine rv_iconst (q := 88) E.x dL_areHunks_87 rv_ki0 rfl ?_
  refine rv_istore (q := 90) (lv' := [_, _, _, _, _, _, _, _, _, _, _, _, _, _, _]) E.x dL_areHunks_88 (Nat.le_of_ble_eq_true rfl) rfl rfl rfl ?_
  refine rv_wk [true, true, true, true, true, true, true, true, true, true, true, true, true, true, false] ?_
  exact bp_areHunks_90 E gh A rv_FU M x1 x2 x3 x4 x5 x6 x7 x8 0 0 0 s0 0
set_option maxRecDepth 100000 in
theorem bp_areHunks_84 {p : Program} {l : Launch} {e : Env} {s : State} {m : MethodId} {args : Array Value} {below : List Frame} {meth : Method} {c : Code} {D : va_G} {cI cZ cO : ClassId} {mi de z0 o b L : Nat} {k : Nat → Nat} {xs : Nat → Int32} (E : lk_E D cI cZ cO mi de z0 b L k xs cL_areHunks 15 (some .boolean) p l s m args meth c) (gh : rC_gh) (A : rv_Mem)   : ∀ (M : rv_Mem) (x1 : Int32) (x2 : Int32) (x3 : Int32) (x4 : Int32) (x5 : Int32) (x6 : Int32) (x7 : Int32) (x8 : Bool), rv_M (lk_G D cI cZ cO de z0 o k) (fun q => z0 ≤ q) p l e rmp_areHunks s m args below meth c 0 0 (lk_qRZ D cI cZ cO de z0 o k gh A below args s 0 0) (gp_areHunks_84 gh A M x1 x2 x3 x4 x5 x6 x7 x8) 84 [some (.ref o), some (.int x1), some (.int x2), some (.int x3), some (.int x4), some (.int x5), some (.int x6), some (.int x7), some (.int (rv_i x8)), some (.int 0), some (.int 0), some (.int 0), none, none, none] [] (gh, M, A) := by
  intro M x1 x2 x3 x4 x5 x6 x7 x8
  unfold gp_areHunks_84
  refine rv_iconst (q := 85) E.x dL_areHunks_84 rv_ki0 rfl ?_
  refine rv_wk [true, true, true, true, true, true, true, true, true, true, true, true, false, false, false] ?_
  exact bp_areHunks_85 E gh A M x1 x2 x3 x4 x5 x6 x7 x8 false
set_option maxRecDepth 100000 in
theorem bp_areHunks_48 {p : Program} {l : Launch} {e : Env} {s : State} {m : MethodId} {args : Array Value} {below : List Frame} {meth : Method} {c : Code} {D : va_G} {cI cZ cO : ClassId} {mi de z0 o b L : Nat} {k : Nat → Nat} {xs : Nat → Int32} (E : lk_E D cI cZ cO mi de z0 b L k xs cL_areHunks 15 (some .boolean) p l s m args meth c) (gh : rC_gh) (A : rv_Mem)   : ∀ (M : rv_Mem) (x1 : Int32) (x2 : Int32) (x3 : Int32) (x4 : Int32) (x5 : Int32) (x6 : Int32) (x7 : Int32) (s0 : Bool), rv_M (lk_G D cI cZ cO de z0 o k) (fun q => z0 ≤ q) p l e rmp_areHunks s m args below meth c 0 0 (lk_qRZ D cI cZ cO de z0 o k gh A below args s 0 0) (gp_areHunks_48 gh A M x1 x2 x3 x4 x5 x6 x7 s0) 48 [some (.ref o), some (.int x1), some (.int x2), some (.int x3), some (.int x4), some (.int x5), some (.int x6), some (.int x7), none, none, none, none, none, none, none] [.int (rv_i s0)] (gh, M, A) := by
  intro M x1 x2 x3 x4 x5 x6 x7 s0
  unfold gp_areHunks_48
  refine rv_istore (q := 50) (lv' := [_, _, _, _, _, _, _, _, _, _, _, _, _, _, _]) E.x dL_areHunks_48 (Nat.le_of_ble_eq_true rfl) rfl rfl rfl ?_
  refine rv_iconst (q := 51) E.x dL_areHunks_50 rv_ki0 rfl ?_
  refine rv_istore (q := 53) (lv' := [_, _, _, _, _, _, _, _, _, _, _, _, _, _, _]) E.x dL_areHunks_51 (Nat.le_of_ble_eq_true rfl) rfl rfl rfl ?_
  refine rv_iconst (q := 54) E.x dL_areHunks_53 rv_ki0 rfl ?_
  refine rv_istore (q := 56) (lv' := [_, _, _, _, _, _, _, _, _, _, _, _, _, _, _]) E.x dL_areHunks_54 (Nat.le_of_ble_eq_true rfl) rfl rfl rfl ?_
  refine rv_iconst (q := 57) E.x dL_areHunks_56 rv_ki0 rfl ?_
  refine rv_istore (q := 59) (lv' := [_, _, _, _, _, _, _, _, _, _, _, _, _, _, _]) E.x dL_areHunks_57 (Nat.le_of_ble_eq_true rfl) rfl rfl rfl ?_
  refine rv_iload (q := 61) E.x dL_areHunks_59 rfl rfl ?_
  refine rv_if_lt (q := 64) (tgt := 84) E.x dL_areHunks_61 (by decide) rfl ?_ ?_
  · refine rv_aload_n (q := 65) E.x dL_areHunks_64 rfl rfl ?_
    refine rv_iload_n (q := 66) E.x dL_areHunks_65 rfl rfl ?_
    refine rv_iload_n (q := 67) E.x dL_areHunks_66 rfl rfl ?_
    refine rv_iload_n (q := 68) E.x dL_areHunks_67 rfl rfl ?_
    refine rv_iload (q := 70) E.x dL_areHunks_68 rfl rfl ?_
    refine rv_iconst (q := 71) E.x dL_areHunks_70 rv_ki0 rfl ?_
    refine rv_iload (q := 73) E.x dL_areHunks_71 rfl rfl ?_
    refine lk_x3r (fun r2 M5 e1 => ?_) (fun w3 M6 e4 => rv_stuck)
    refine lk_ci (q := 76) (v := r2) (M1 := M5) E (fun u hI _ => c11_hunkAt E.2.2.1.1 hI e1) gP_177 hX11_hunkAt ⟨rfl, rfl⟩ ⟨Nat.le_of_ble_eq_true rfl, Nat.le_of_ble_eq_true rfl⟩ ⟨Nat.le_of_ble_eq_true rfl, Nat.le_of_ble_eq_true rfl⟩ rfl rfl rfl (Nat.le_of_ble_eq_true rfl) dL_areHunks_73 rfl ?_
    refine rv_iconst (q := 77) E.x dL_areHunks_76 rv_kim1 rfl ?_
    refine rv_icmp_ne (q := 80) (tgt := 84) E.x dL_areHunks_77 (by decide) rfl ?_ ?_
    · refine rv_iconst (q := 81) E.x dL_areHunks_80 rv_ki1 rfl ?_
      refine rv_goto (q := 85) E.x dL_areHunks_81 (by decide) ?_
      refine rv_wk [true, true, true, true, true, true, true, true, true, true, true, true, false, false, false] ?_
      exact bp_areHunks_85 E gh A M5 x1 x2 x3 x4 x5 x6 x7 s0 true
    · refine rv_wk [true, true, true, true, true, true, true, true, true, true, true, true, false, false, false] ?_
      exact bp_areHunks_84 E gh A M5 x1 x2 x3 x4 x5 x6 x7 s0
  · refine rv_wk [true, true, true, true, true, true, true, true, true, true, true, true, false, false, false] ?_
    exact bp_areHunks_84 E gh A M x1 x2 x3 x4 x5 x6 x7 s0
set_option maxRecDepth 100000 in
theorem bp_areHunks {p : Program} {l : Launch} {e : Env} {s : State} {m : MethodId} {args : Array Value} {below : List Frame} {meth : Method} {c : Code} {D : va_G} {cI cZ cO : ClassId} {mi de z0 o b L : Nat} {k : Nat → Nat} {xs : Nat → Int32} (E : lk_E D cI cZ cO mi de z0 b L k xs cL_areHunks 15 (some .boolean) p l s m args meth c) (gh : rC_gh) (M A : rv_Mem) (a2 : Int32) (a3 : Int32) (a4 : Int32) (a5 : Int32) : rv_M (lk_G D cI cZ cO de z0 o k) (fun q => z0 ≤ q) p l e rmp_areHunks s m args below meth c 0 0 (lk_qRZ D cI cZ cO de z0 o k gh A below args s 0 0) (gp_areHunks gh M A a2 a3 a4 a5) 0 [some (.ref o), some (.int a2), some (.int a3), some (.int a4), some (.int a5), none, none, none, none, none, none, none, none, none, none] [] (gh, M, A) := by
  unfold gp_areHunks
  refine rv_aload_n (q := 1) E.x dL_areHunks_0 rfl rfl ?_
  refine rv_iload_n (q := 2) E.x dL_areHunks_1 rfl rfl ?_
  refine rv_iload_n (q := 3) E.x dL_areHunks_2 rfl rfl ?_
  refine lk_x1r (fun r2 e1 => ?_) (fun w3 e4 => rv_stuck)
  refine lk_ci (q := 6) (v := r2) (M1 := M) E (fun u hI _ => c11_commitOf E.2.2.1.1 hI e1) gP_130 hX11_commitOf ⟨rfl, rfl⟩ ⟨Nat.le_of_ble_eq_true rfl, Nat.le_of_ble_eq_true rfl⟩ ⟨Nat.le_of_ble_eq_true rfl, Nat.le_of_ble_eq_true rfl⟩ rfl rfl rfl (Nat.le_of_ble_eq_true rfl) dL_areHunks_3 rfl ?_
  refine rv_istore (q := 8) (lv' := [_, _, _, _, _, _, _, _, _, _, _, _, _, _, _]) E.x dL_areHunks_6 (Nat.le_of_ble_eq_true rfl) rfl rfl rfl ?_
  refine rv_aload_n (q := 9) E.x dL_areHunks_8 rfl rfl ?_
  refine rv_iload_n (q := 10) E.x dL_areHunks_9 rfl rfl ?_
  refine rv_iload_n (q := 11) E.x dL_areHunks_10 rfl rfl ?_
  refine lk_x1r (fun r6 e5 => ?_) (fun w7 e8 => rv_stuck)
  refine lk_ci (q := 14) (v := r6) (M1 := M) E (fun u hI _ => c11_commitOf E.2.2.1.1 hI e5) gP_130 hX11_commitOf ⟨rfl, rfl⟩ ⟨Nat.le_of_ble_eq_true rfl, Nat.le_of_ble_eq_true rfl⟩ ⟨Nat.le_of_ble_eq_true rfl, Nat.le_of_ble_eq_true rfl⟩ rfl rfl rfl (Nat.le_of_ble_eq_true rfl) dL_areHunks_11 rfl ?_
  refine rv_istore (q := 16) (lv' := [_, _, _, _, _, _, _, _, _, _, _, _, _, _, _]) E.x dL_areHunks_14 (Nat.le_of_ble_eq_true rfl) rfl rfl rfl ?_
  refine rv_aload_n (q := 17) E.x dL_areHunks_16 rfl rfl ?_
  refine rv_iload_n (q := 18) E.x dL_areHunks_17 rfl rfl ?_
  refine rv_iload_n (q := 19) E.x dL_areHunks_18 rfl rfl ?_
  refine rv_iload_n (q := 20) E.x dL_areHunks_19 rfl rfl ?_
  refine rv_iload (q := 22) E.x dL_areHunks_20 rfl rfl ?_
  refine rv_iconst (q := 23) E.x dL_areHunks_22 rv_ki0 rfl ?_
  refine lk_x3r (fun r10 M13 e9 => ?_) (fun w11 M14 e12 => rv_stuck)
  refine lk_ci (q := 26) (v := r10) (M1 := M13) E (fun u hI _ => c11_hunks E.2.2.1.1 hI e9) gP_173 hX11_hunks ⟨rfl, rfl⟩ ⟨Nat.le_of_ble_eq_true rfl, Nat.le_of_ble_eq_true rfl⟩ ⟨Nat.le_of_ble_eq_true rfl, Nat.le_of_ble_eq_true rfl⟩ rfl rfl rfl (Nat.le_of_ble_eq_true rfl) dL_areHunks_23 rfl ?_
  refine rv_istore (q := 28) (lv' := [_, _, _, _, _, _, _, _, _, _, _, _, _, _, _]) E.x dL_areHunks_26 (Nat.le_of_ble_eq_true rfl) rfl rfl rfl ?_
  refine rv_aload_n (q := 29) E.x dL_areHunks_28 rfl rfl ?_
  refine rv_iload (q := 31) E.x dL_areHunks_29 rfl rfl ?_
  refine lk_x1r (fun r16 e15 => ?_) (fun w17 e18 => rv_stuck)
  refine lk_ci (q := 34) (v := r16) (M1 := M13) E (fun u hI _ => c11_before E.2.2.1.1 hI e15) gP_115 hX11_before ⟨rfl, rfl⟩ ⟨Nat.le_of_ble_eq_true rfl, Nat.le_of_ble_eq_true rfl⟩ ⟨Nat.le_of_ble_eq_true rfl, Nat.le_of_ble_eq_true rfl⟩ rfl rfl rfl (Nat.le_of_ble_eq_true rfl) dL_areHunks_31 rfl ?_
  refine rv_aload_n (q := 35) E.x dL_areHunks_34 rfl rfl ?_
  refine rv_iload (q := 37) E.x dL_areHunks_35 rfl rfl ?_
  refine lk_x1r (fun r20 e19 => ?_) (fun w21 e22 => rv_stuck)
  refine lk_ci (q := 40) (v := r20) (M1 := M13) E (fun u hI _ => c11_before E.2.2.1.1 hI e19) gP_115 hX11_before ⟨rfl, rfl⟩ ⟨Nat.le_of_ble_eq_true rfl, Nat.le_of_ble_eq_true rfl⟩ ⟨Nat.le_of_ble_eq_true rfl, Nat.le_of_ble_eq_true rfl⟩ rfl rfl rfl (Nat.le_of_ble_eq_true rfl) dL_areHunks_37 rfl ?_
  refine rv_icmp_ne (q := 43) (tgt := 47) E.x dL_areHunks_40 (by decide) rfl ?_ ?_
  · refine rv_iconst (q := 44) E.x dL_areHunks_43 rv_ki1 rfl ?_
    refine rv_goto (q := 48) E.x dL_areHunks_44 (by decide) ?_
    refine rv_wk [true, true, true, true, true, true, true, true, false, false, false, false, false, false, false] ?_
    exact bp_areHunks_48 E gh A M13 a2 a3 a4 a5 r2 r6 r10 true
  · refine rv_iconst (q := 48) E.x dL_areHunks_47 rv_ki0 rfl ?_
    refine rv_wk [true, true, true, true, true, true, true, true, false, false, false, false, false, false, false] ?_
    exact bp_areHunks_48 E gh A M13 a2 a3 a4 a5 r2 r6 r10 false
theorem wP_areHunks {l : Launch} {D : va_G} {cI cZ cO : ClassId} {mi de z0 o b L : Nat} {k : Nat → Nat} {xs : Nat → Int32} (S : lk_S l de z0 b k) {gh : rC_gh} {M A : rv_Mem} {a2 : Int32} {a3 : Int32} {a4 : Int32} {a5 : Int32} {r : Bool} {M1 : rv_Mem} (h : gp_areHunks gh M A a2 a3 a4 a5 = some (r, M1)) : Met l yL_areHunks (rv_ws yL_areHunks cL_areHunks 15 (some .boolean)) rmp_areHunks (va_Pc [.ref o, .int a2, .int a3, .int a4, .int a5] (lk_P D cI cZ cO mi de z0 o b L k xs (gh, M, A))) (lk_qi D cI cZ cO de z0 o k (rv_i r) (gh, M1, A)) 0 0 (fun q => z0 ≤ q) := lk_met S rfl (Nat.le_of_ble_eq_true rfl) (fun p e s m args below meth c E => ⟨(lk_qRZ D cI cZ cO de z0 o k gh A below args s 0 0), rfl, bp_areHunks E gh M A a2 a3 a4 a5⟩) h
abbrev rmp_isShown : Room := { frames := 10, cells := 1, slots := 6, locals := 220 }
set_option maxRecDepth 100000 in
theorem bp_isShown_248 {p : Program} {l : Launch} {e : Env} {s : State} {m : MethodId} {args : Array Value} {below : List Frame} {meth : Method} {c : Code} {D : va_G} {cI cZ cO : ClassId} {mi de z0 o b L : Nat} {k : Nat → Nat} {xs : Nat → Int32} (E : lk_E D cI cZ cO mi de z0 b L k xs cL_isShown 16 (some .boolean) p l s m args meth c) (gh : rC_gh) (A : rv_Mem) (k97 : rv_Mem → Int32 → Int32 → Int32 → Int32 → Int32 → Int32 → Int32 → Bool → Int32 → Option (Bool × rv_Mem)) (k160 : rv_Mem → Int32 → Int32 → Int32 → Int32 → Int32 → Int32 → Int32 → Bool → Int32 → Int32 → Int32 → Int32 → Int32 → Int32 → Option (Bool × rv_Mem)) (h97 : ∀ (M : rv_Mem) (x2 : Int32) (x3 : Int32) (x4 : Int32) (x5 : Int32) (x6 : Int32) (x7 : Int32) (x8 : Int32) (x9 : Bool) (x10 : Int32), rv_M (lk_G D cI cZ cO de z0 o k) (fun q => z0 ≤ q) p l e rmp_isShown s m args below meth c 1 6 (lk_qRZ D cI cZ cO de z0 o k gh A below args s 1 6) (k97 M x2 x3 x4 x5 x6 x7 x8 x9 x10) 97 [some (.ref o), none, some (.int x2), some (.int x3), some (.int x4), some (.int x5), some (.int x6), some (.int x7), some (.int x8), some (.int (rv_i x9)), some (.int x10), none, none, none, none, none] [] (gh, M, A)) (h160 : ∀ (M : rv_Mem) (x2 : Int32) (x3 : Int32) (x4 : Int32) (x5 : Int32) (x6 : Int32) (x7 : Int32) (x8 : Int32) (x9 : Bool) (x10 : Int32) (x11 : Int32) (x12 : Int32) (x13 : Int32) (x14 : Int32) (x15 : Int32), rv_M (lk_G D cI cZ cO de z0 o k) (fun q => z0 ≤ q) p l e rmp_isShown s m args below meth c 1 6 (lk_qRZ D cI cZ cO de z0 o k gh A below args s 1 6) (k160 M x2 x3 x4 x5 x6 x7 x8 x9 x10 x11 x12 x13 x14 x15) 160 [some (.ref o), none, some (.int x2), some (.int x3), some (.int x4), some (.int x5), some (.int x6), some (.int x7), some (.int x8), some (.int (rv_i x9)), some (.int x10), some (.int x11), some (.int x12), some (.int x13), some (.int x14), some (.int x15)] [] (gh, M, A)) : ∀ (M : rv_Mem) (x2 : Int32) (x3 : Int32) (x4 : Int32) (x5 : Int32) (x6 : Int32) (x7 : Int32) (x8 : Int32) (x9 : Bool) (x10 : Int32) (x11 : Int32) (x12 : Int32) (x13 : Int32) (x14 : Int32) (x15 : Int32), rv_M (lk_G D cI cZ cO de z0 o k) (fun q => z0 ≤ q) p l e rmp_isShown s m args below meth c 1 6 (lk_qRZ D cI cZ cO de z0 o k gh A below args s 1 6) (gp_isShown_248 gh A k97 k160 M x2 x3 x4 x5 x6 x7 x8 x9 x10 x11 x12 x13 x14 x15) 248 [some (.ref o), none, some (.int x2), some (.int x3), some (.int x4), some (.int x5), some (.int x6), some (.int x7), some (.int x8), some (.int (rv_i x9)), some (.int x10), some (.int x11), some (.int x12), some (.int x13), some (.int x14), some (.int x15)] [] (gh, M, A) := by
  intro M x2 x3 x4 x5 x6 x7 x8 x9 x10 x11 x12 x13 x14 x15
  unfold gp_isShown_248
  refine rv_iinc (q := 251) (lv' := [_, _, _, _, _, _, _, _, _, _, _, _, _, _, _, _]) E.x dL_isShown_248 rv_ki1 rfl rfl rfl rfl ?_
  refine rv_goto (q := 160) E.x dL_isShown_251 (by decide) ?_
  refine rv_wk [true, false, true, true, true, true, true, true, true, true, true, true, true, true, true, true] ?_
  exact h160 M x2 x3 x4 x5 x6 x7 x8 x9 x10 x11 x12 x13 x14 (x15 + 1)
set_option maxRecDepth 100000 in
theorem bp_isShown_243 {p : Program} {l : Launch} {e : Env} {s : State} {m : MethodId} {args : Array Value} {below : List Frame} {meth : Method} {c : Code} {D : va_G} {cI cZ cO : ClassId} {mi de z0 o b L : Nat} {k : Nat → Nat} {xs : Nat → Int32} (E : lk_E D cI cZ cO mi de z0 b L k xs cL_isShown 16 (some .boolean) p l s m args meth c) (gh : rC_gh) (A : rv_Mem) (k97 : rv_Mem → Int32 → Int32 → Int32 → Int32 → Int32 → Int32 → Int32 → Bool → Int32 → Option (Bool × rv_Mem)) (k160 : rv_Mem → Int32 → Int32 → Int32 → Int32 → Int32 → Int32 → Int32 → Bool → Int32 → Int32 → Int32 → Int32 → Int32 → Int32 → Option (Bool × rv_Mem)) (h97 : ∀ (M : rv_Mem) (x2 : Int32) (x3 : Int32) (x4 : Int32) (x5 : Int32) (x6 : Int32) (x7 : Int32) (x8 : Int32) (x9 : Bool) (x10 : Int32), rv_M (lk_G D cI cZ cO de z0 o k) (fun q => z0 ≤ q) p l e rmp_isShown s m args below meth c 1 6 (lk_qRZ D cI cZ cO de z0 o k gh A below args s 1 6) (k97 M x2 x3 x4 x5 x6 x7 x8 x9 x10) 97 [some (.ref o), none, some (.int x2), some (.int x3), some (.int x4), some (.int x5), some (.int x6), some (.int x7), some (.int x8), some (.int (rv_i x9)), some (.int x10), none, none, none, none, none] [] (gh, M, A)) (h160 : ∀ (M : rv_Mem) (x2 : Int32) (x3 : Int32) (x4 : Int32) (x5 : Int32) (x6 : Int32) (x7 : Int32) (x8 : Int32) (x9 : Bool) (x10 : Int32) (x11 : Int32) (x12 : Int32) (x13 : Int32) (x14 : Int32) (x15 : Int32), rv_M (lk_G D cI cZ cO de z0 o k) (fun q => z0 ≤ q) p l e rmp_isShown s m args below meth c 1 6 (lk_qRZ D cI cZ cO de z0 o k gh A below args s 1 6) (k160 M x2 x3 x4 x5 x6 x7 x8 x9 x10 x11 x12 x13 x14 x15) 160 [some (.ref o), none, some (.int x2), some (.int x3), some (.int x4), some (.int x5), some (.int x6), some (.int x7), some (.int x8), some (.int (rv_i x9)), some (.int x10), some (.int x11), some (.int x12), some (.int x13), some (.int x14), some (.int x15)] [] (gh, M, A)) : ∀ (M : rv_Mem) (x2 : Int32) (x3 : Int32) (x4 : Int32) (x5 : Int32) (x6 : Int32) (x7 : Int32) (x8 : Int32) (x10 : Int32) (x11 : Int32) (x12 : Int32) (x13 : Int32) (x14 : Int32) (x15 : Int32) (s0 : Bool), rv_M (lk_G D cI cZ cO de z0 o k) (fun q => z0 ≤ q) p l e rmp_isShown s m args below meth c 1 6 (lk_qRZ D cI cZ cO de z0 o k gh A below args s 1 6) (gp_isShown_243 gh A k97 k160 M x2 x3 x4 x5 x6 x7 x8 x10 x11 x12 x13 x14 x15 s0) 243 [some (.ref o), none, some (.int x2), some (.int x3), some (.int x4), some (.int x5), some (.int x6), some (.int x7), some (.int x8), none, some (.int x10), some (.int x11), some (.int x12), some (.int x13), some (.int x14), some (.int x15)] [.int (rv_i s0)] (gh, M, A) := by
  intro M x2 x3 x4 x5 x6 x7 x8 x10 x11 x12 x13 x14 x15 s0
  unfold gp_isShown_243
  refine rv_istore (q := 245) (lv' := [_, _, _, _, _, _, _, _, _, _, _, _, _, _, _, _]) E.x dL_isShown_243 (Nat.le_of_ble_eq_true rfl) rfl rfl rfl ?_
  refine rv_iinc (q := 248) (lv' := [_, _, _, _, _, _, _, _, _, _, _, _, _, _, _, _]) E.x dL_isShown_245 rv_ki1 rfl rfl rfl rfl ?_
  refine rv_wk [true, false, true, true, true, true, true, true, true, true, true, true, true, true, true, true] ?_
  exact bp_isShown_248 E gh A k97 k160 h97 h160 M x2 x3 x4 x5 x6 x7 x8 s0 x10 x11 x12 x13 (x14 + 1) x15
set_option maxRecDepth 100000 in
theorem bp_isShown_228 {p : Program} {l : Launch} {e : Env} {s : State} {m : MethodId} {args : Array Value} {below : List Frame} {meth : Method} {c : Code} {D : va_G} {cI cZ cO : ClassId} {mi de z0 o b L : Nat} {k : Nat → Nat} {xs : Nat → Int32} (E : lk_E D cI cZ cO mi de z0 b L k xs cL_isShown 16 (some .boolean) p l s m args meth c) (gh : rC_gh) (A : rv_Mem) (k97 : rv_Mem → Int32 → Int32 → Int32 → Int32 → Int32 → Int32 → Int32 → Bool → Int32 → Option (Bool × rv_Mem)) (k160 : rv_Mem → Int32 → Int32 → Int32 → Int32 → Int32 → Int32 → Int32 → Bool → Int32 → Int32 → Int32 → Int32 → Int32 → Int32 → Option (Bool × rv_Mem)) (h97 : ∀ (M : rv_Mem) (x2 : Int32) (x3 : Int32) (x4 : Int32) (x5 : Int32) (x6 : Int32) (x7 : Int32) (x8 : Int32) (x9 : Bool) (x10 : Int32), rv_M (lk_G D cI cZ cO de z0 o k) (fun q => z0 ≤ q) p l e rmp_isShown s m args below meth c 1 6 (lk_qRZ D cI cZ cO de z0 o k gh A below args s 1 6) (k97 M x2 x3 x4 x5 x6 x7 x8 x9 x10) 97 [some (.ref o), none, some (.int x2), some (.int x3), some (.int x4), some (.int x5), some (.int x6), some (.int x7), some (.int x8), some (.int (rv_i x9)), some (.int x10), none, none, none, none, none] [] (gh, M, A)) (h160 : ∀ (M : rv_Mem) (x2 : Int32) (x3 : Int32) (x4 : Int32) (x5 : Int32) (x6 : Int32) (x7 : Int32) (x8 : Int32) (x9 : Bool) (x10 : Int32) (x11 : Int32) (x12 : Int32) (x13 : Int32) (x14 : Int32) (x15 : Int32), rv_M (lk_G D cI cZ cO de z0 o k) (fun q => z0 ≤ q) p l e rmp_isShown s m args below meth c 1 6 (lk_qRZ D cI cZ cO de z0 o k gh A below args s 1 6) (k160 M x2 x3 x4 x5 x6 x7 x8 x9 x10 x11 x12 x13 x14 x15) 160 [some (.ref o), none, some (.int x2), some (.int x3), some (.int x4), some (.int x5), some (.int x6), some (.int x7), some (.int x8), some (.int (rv_i x9)), some (.int x10), some (.int x11), some (.int x12), some (.int x13), some (.int x14), some (.int x15)] [] (gh, M, A)) : ∀ (M : rv_Mem) (x2 : Int32) (x3 : Int32) (x4 : Int32) (x5 : Int32) (x6 : Int32) (x7 : Int32) (x8 : Int32) (x10 : Int32) (x11 : Int32) (x12 : Int32) (x13 : Int32) (x14 : Int32) (x15 : Int32), rv_M (lk_G D cI cZ cO de z0 o k) (fun q => z0 ≤ q) p l e rmp_isShown s m args below meth c 1 6 (lk_qRZ D cI cZ cO de z0 o k gh A below args s 1 6) (gp_isShown_228 gh A k97 k160 M x2 x3 x4 x5 x6 x7 x8 x10 x11 x12 x13 x14 x15) 228 [some (.ref o), none, some (.int x2), some (.int x3), some (.int x4), some (.int x5), some (.int x6), some (.int x7), some (.int x8), none, some (.int x10), some (.int x11), some (.int x12), some (.int x13), some (.int x14), some (.int x15)] [] (gh, M, A) := by
  intro M x2 x3 x4 x5 x6 x7 x8 x10 x11 x12 x13 x14 x15
  unfold gp_isShown_228
  refine rv_iload (q := 230) E.x dL_isShown_228 rfl rfl ?_
  refine rv_iload (q := 232) E.x dL_isShown_230 rfl rfl ?_
  refine rv_iload (q := 234) E.x dL_isShown_232 rfl rfl ?_
  refine rv_iadd (q := 235) E.x dL_isShown_234 rfl ?_
  refine rv_icmp_ge (q := 238) (tgt := 242) E.x dL_isShown_235 (by decide) rfl ?_ ?_
  · refine rv_iconst (q := 239) E.x dL_isShown_238 rv_ki1 rfl ?_
    refine rv_goto (q := 243) E.x dL_isShown_239 (by decide) ?_
    refine rv_wk [true, false, true, true, true, true, true, true, true, false, true, true, true, true, true, true] ?_
    exact bp_isShown_243 E gh A k97 k160 h97 h160 M x2 x3 x4 x5 x6 x7 x8 x10 x11 x12 x13 x14 x15 true
  · refine rv_iconst (q := 243) E.x dL_isShown_242 rv_ki0 rfl ?_
    refine rv_wk [true, false, true, true, true, true, true, true, true, false, true, true, true, true, true, true] ?_
    exact bp_isShown_243 E gh A k97 k160 h97 h160 M x2 x3 x4 x5 x6 x7 x8 x10 x11 x12 x13 x14 x15 false
set_option maxRecDepth 100000 in
theorem bp_isShown_183_s {p : Program} {l : Launch} {e : Env} {s : State} {m : MethodId} {args : Array Value} {below : List Frame} {meth : Method} {c : Code} {D : va_G} {cI cZ cO : ClassId} {mi de z0 o b L : Nat} {k : Nat → Nat} {xs : Nat → Int32} (E : lk_E D cI cZ cO mi de z0 b L k xs cL_isShown 16 (some .boolean) p l s m args meth c) (gh : rC_gh) (A : rv_Mem) (k97 : rv_Mem → Int32 → Int32 → Int32 → Int32 → Int32 → Int32 → Int32 → Bool → Int32 → Option (Bool × rv_Mem)) (k160 : rv_Mem → Int32 → Int32 → Int32 → Int32 → Int32 → Int32 → Int32 → Bool → Int32 → Int32 → Int32 → Int32 → Int32 → Int32 → Option (Bool × rv_Mem)) (h97 : ∀ (M : rv_Mem) (x2 : Int32) (x3 : Int32) (x4 : Int32) (x5 : Int32) (x6 : Int32) (x7 : Int32) (x8 : Int32) (x9 : Bool) (x10 : Int32), rv_M (lk_G D cI cZ cO de z0 o k) (fun q => z0 ≤ q) p l e rmp_isShown s m args below meth c 1 6 (lk_qRZ D cI cZ cO de z0 o k gh A below args s 1 6) (k97 M x2 x3 x4 x5 x6 x7 x8 x9 x10) 97 [some (.ref o), none, some (.int x2), some (.int x3), some (.int x4), some (.int x5), some (.int x6), some (.int x7), some (.int x8), some (.int (rv_i x9)), some (.int x10), none, none, none, none, none] [] (gh, M, A)) (h160 : ∀ (M : rv_Mem) (x2 : Int32) (x3 : Int32) (x4 : Int32) (x5 : Int32) (x6 : Int32) (x7 : Int32) (x8 : Int32) (x9 : Bool) (x10 : Int32) (x11 : Int32) (x12 : Int32) (x13 : Int32) (x14 : Int32) (x15 : Int32), rv_M (lk_G D cI cZ cO de z0 o k) (fun q => z0 ≤ q) p l e rmp_isShown s m args below meth c 1 6 (lk_qRZ D cI cZ cO de z0 o k gh A below args s 1 6) (k160 M x2 x3 x4 x5 x6 x7 x8 x9 x10 x11 x12 x13 x14 x15) 160 [some (.ref o), none, some (.int x2), some (.int x3), some (.int x4), some (.int x5), some (.int x6), some (.int x7), some (.int x8), some (.int (rv_i x9)), some (.int x10), some (.int x11), some (.int x12), some (.int x13), some (.int x14), some (.int x15)] [] (gh, M, A)) (k183 : rv_Mem → Int32 → Int32 → Int32 → Int32 → Int32 → Int32 → Int32 → Int32 → Int32 → Int32 → Int32 → Int32 → Int32 → Option (Bool × rv_Mem)) (h183 : ∀ (M : rv_Mem) (x2 : Int32) (x3 : Int32) (x4 : Int32) (x5 : Int32) (x6 : Int32) (x7 : Int32) (x8 : Int32) (x10 : Int32) (x11 : Int32) (x12 : Int32) (x13 : Int32) (x14 : Int32) (x15 : Int32), rv_M (lk_G D cI cZ cO de z0 o k) (fun q => z0 ≤ q) p l e rmp_isShown s m args below meth c 1 6 (lk_qRZ D cI cZ cO de z0 o k gh A below args s 1 6) (k183 M x2 x3 x4 x5 x6 x7 x8 x10 x11 x12 x13 x14 x15) 183 [some (.ref o), none, some (.int x2), some (.int x3), some (.int x4), some (.int x5), some (.int x6), some (.int x7), some (.int x8), none, some (.int x10), some (.int x11), some (.int x12), some (.int x13), some (.int x14), some (.int x15)] [] (gh, M, A)) : ∀ (M : rv_Mem) (x2 : Int32) (x3 : Int32) (x4 : Int32) (x5 : Int32) (x6 : Int32) (x7 : Int32) (x8 : Int32) (x10 : Int32) (x11 : Int32) (x12 : Int32) (x13 : Int32) (x14 : Int32) (x15 : Int32), rv_M (lk_G D cI cZ cO de z0 o k) (fun q => z0 ≤ q) p l e rmp_isShown s m args below meth c 1 6 (lk_qRZ D cI cZ cO de z0 o k gh A below args s 1 6) (gp_isShown_183_s gh A k97 k160 k183 M x2 x3 x4 x5 x6 x7 x8 x10 x11 x12 x13 x14 x15) 183 [some (.ref o), none, some (.int x2), some (.int x3), some (.int x4), some (.int x5), some (.int x6), some (.int x7), some (.int x8), none, some (.int x10), some (.int x11), some (.int x12), some (.int x13), some (.int x14), some (.int x15)] [] (gh, M, A) := by
  intro M x2 x3 x4 x5 x6 x7 x8 x10 x11 x12 x13 x14 x15
  unfold gp_isShown_183_s
  refine rv_iload (q := 185) E.x dL_isShown_183 rfl rfl ?_
  refine rv_iload (q := 187) E.x dL_isShown_185 rfl rfl ?_
  refine rv_iload (q := 189) E.x dL_isShown_187 rfl rfl ?_
  refine rv_iadd (q := 190) E.x dL_isShown_189 rfl ?_
  refine rv_icmp_ge (q := 193) (tgt := 228) E.x dL_isShown_190 (by decide) rfl ?_ ?_
  · refine rv_aload_n (q := 194) E.x dL_isShown_193 rfl rfl ?_
    refine rv_aload_n (q := 195) E.x dL_isShown_194 rfl rfl ?_
    refine rv_iload (q := 197) E.x dL_isShown_195 rfl rfl ?_
    refine rv_iload (q := 199) E.x dL_isShown_197 rfl rfl ?_
    refine lk_x1r (fun r2 e1 => ?_) (fun w3 e4 => rv_stuck)
    refine lk_ci (q := 202) (v := r2) (M1 := M) E (fun u hI _ => c11_commitOf E.2.2.1.1 hI e1) gP_130 hX11_commitOf ⟨rfl, rfl⟩ ⟨Nat.le_of_ble_eq_true rfl, Nat.le_of_ble_eq_true rfl⟩ ⟨Nat.le_of_ble_eq_true rfl, Nat.le_of_ble_eq_true rfl⟩ rfl rfl rfl (Nat.le_of_ble_eq_true rfl) dL_isShown_199 rfl ?_
    refine rv_iload (q := 204) E.x dL_isShown_202 rfl rfl ?_
    refine rv_iload (q := 206) E.x dL_isShown_204 rfl rfl ?_
    refine lk_x1r (fun r6 e5 => ?_) (fun w7 e8 => rv_stuck)
    refine lk_ci (q := 209) (v := r6) (M1 := M) E (fun u hI _ => c11_line E.2.2.1.1 hI e5) gP_112 hX11_line ⟨rfl, rfl⟩ ⟨Nat.le_of_ble_eq_true rfl, Nat.le_of_ble_eq_true rfl⟩ ⟨Nat.le_of_ble_eq_true rfl, Nat.le_of_ble_eq_true rfl⟩ rfl rfl rfl (Nat.le_of_ble_eq_true rfl) dL_isShown_206 rfl ?_
    refine rv_aload_n (q := 210) E.x dL_isShown_209 rfl rfl ?_
    refine rv_iload (q := 212) E.x dL_isShown_210 rfl rfl ?_
    refine rv_iload (q := 214) E.x dL_isShown_212 rfl rfl ?_
    refine rv_iload (q := 216) E.x dL_isShown_214 rfl rfl ?_
    refine lk_x1r (fun r10 e9 => ?_) (fun w11 e12 => rv_stuck)
    refine lk_ci (q := 219) (v := r10) (M1 := M) E (fun u hI _ => c11_line E.2.2.1.1 hI e9) gP_112 hX11_line ⟨rfl, rfl⟩ ⟨Nat.le_of_ble_eq_true rfl, Nat.le_of_ble_eq_true rfl⟩ ⟨Nat.le_of_ble_eq_true rfl, Nat.le_of_ble_eq_true rfl⟩ rfl rfl rfl (Nat.le_of_ble_eq_true rfl) dL_isShown_216 rfl ?_
    refine rv_icmp_eq (q := 222) (tgt := 228) E.x dL_isShown_219 (by decide) rfl ?_ ?_
    · refine rv_iinc (q := 225) (lv' := [_, _, _, _, _, _, _, _, _, _, _, _, _, _, _, _]) E.x dL_isShown_222 rv_ki1 rfl rfl rfl rfl ?_
      refine rv_goto (q := 183) E.x dL_isShown_225 (by decide) ?_
      refine rv_wk [true, false, true, true, true, true, true, true, true, false, true, true, true, true, true, true] ?_
      exact h183 M x2 x3 x4 x5 x6 x7 x8 x10 x11 x12 x13 (x14 + 1) x15
    · refine rv_wk [true, false, true, true, true, true, true, true, true, false, true, true, true, true, true, true] ?_
      exact bp_isShown_228 E gh A k97 k160 h97 h160 M x2 x3 x4 x5 x6 x7 x8 x10 x11 x12 x13 x14 x15
  · refine rv_wk [true, false, true, true, true, true, true, true, true, false, true, true, true, true, true, true] ?_
    exact bp_isShown_228 E gh A k97 k160 h97 h160 M x2 x3 x4 x5 x6 x7 x8 x10 x11 x12 x13 x14 x15
theorem bp_isShown_183 {p : Program} {l : Launch} {e : Env} {s : State} {m : MethodId} {args : Array Value} {below : List Frame} {meth : Method} {c : Code} {D : va_G} {cI cZ cO : ClassId} {mi de z0 o b L : Nat} {k : Nat → Nat} {xs : Nat → Int32} (E : lk_E D cI cZ cO mi de z0 b L k xs cL_isShown 16 (some .boolean) p l s m args meth c) (gh : rC_gh) (A : rv_Mem) (k97 : rv_Mem → Int32 → Int32 → Int32 → Int32 → Int32 → Int32 → Int32 → Bool → Int32 → Option (Bool × rv_Mem)) (k160 : rv_Mem → Int32 → Int32 → Int32 → Int32 → Int32 → Int32 → Int32 → Bool → Int32 → Int32 → Int32 → Int32 → Int32 → Int32 → Option (Bool × rv_Mem)) (h97 : ∀ (M : rv_Mem) (x2 : Int32) (x3 : Int32) (x4 : Int32) (x5 : Int32) (x6 : Int32) (x7 : Int32) (x8 : Int32) (x9 : Bool) (x10 : Int32), rv_M (lk_G D cI cZ cO de z0 o k) (fun q => z0 ≤ q) p l e rmp_isShown s m args below meth c 1 6 (lk_qRZ D cI cZ cO de z0 o k gh A below args s 1 6) (k97 M x2 x3 x4 x5 x6 x7 x8 x9 x10) 97 [some (.ref o), none, some (.int x2), some (.int x3), some (.int x4), some (.int x5), some (.int x6), some (.int x7), some (.int x8), some (.int (rv_i x9)), some (.int x10), none, none, none, none, none] [] (gh, M, A)) (h160 : ∀ (M : rv_Mem) (x2 : Int32) (x3 : Int32) (x4 : Int32) (x5 : Int32) (x6 : Int32) (x7 : Int32) (x8 : Int32) (x9 : Bool) (x10 : Int32) (x11 : Int32) (x12 : Int32) (x13 : Int32) (x14 : Int32) (x15 : Int32), rv_M (lk_G D cI cZ cO de z0 o k) (fun q => z0 ≤ q) p l e rmp_isShown s m args below meth c 1 6 (lk_qRZ D cI cZ cO de z0 o k gh A below args s 1 6) (k160 M x2 x3 x4 x5 x6 x7 x8 x9 x10 x11 x12 x13 x14 x15) 160 [some (.ref o), none, some (.int x2), some (.int x3), some (.int x4), some (.int x5), some (.int x6), some (.int x7), some (.int x8), some (.int (rv_i x9)), some (.int x10), some (.int x11), some (.int x12), some (.int x13), some (.int x14), some (.int x15)] [] (gh, M, A)) : ∀ (n : Nat), ∀ (M : rv_Mem) (x2 : Int32) (x3 : Int32) (x4 : Int32) (x5 : Int32) (x6 : Int32) (x7 : Int32) (x8 : Int32) (x10 : Int32) (x11 : Int32) (x12 : Int32) (x13 : Int32) (x14 : Int32) (x15 : Int32), rv_M (lk_G D cI cZ cO de z0 o k) (fun q => z0 ≤ q) p l e rmp_isShown s m args below meth c 1 6 (lk_qRZ D cI cZ cO de z0 o k gh A below args s 1 6) (gp_isShown_183 gh A k97 k160 n M x2 x3 x4 x5 x6 x7 x8 x10 x11 x12 x13 x14 x15) 183 [some (.ref o), none, some (.int x2), some (.int x3), some (.int x4), some (.int x5), some (.int x6), some (.int x7), some (.int x8), none, some (.int x10), some (.int x11), some (.int x12), some (.int x13), some (.int x14), some (.int x15)] [] (gh, M, A) := by
  intro n
  induction n with
  | zero => exact fun _ _ _ _ _ _ _ _ _ _ _ _ _ _ => rv_stuck
  | succ n ih => exact bp_isShown_183_s E gh A k97 k160 h97 h160 (gp_isShown_183 gh A k97 k160 n) ih
set_option maxRecDepth 100000 in
theorem bp_isShown_276 {p : Program} {l : Launch} {e : Env} {s : State} {m : MethodId} {args : Array Value} {below : List Frame} {meth : Method} {c : Code} {D : va_G} {cI cZ cO : ClassId} {mi de z0 o b L : Nat} {k : Nat → Nat} {xs : Nat → Int32} (E : lk_E D cI cZ cO mi de z0 b L k xs cL_isShown 16 (some .boolean) p l s m args meth c) (gh : rC_gh) (A : rv_Mem) (k97 : rv_Mem → Int32 → Int32 → Int32 → Int32 → Int32 → Int32 → Int32 → Bool → Int32 → Option (Bool × rv_Mem)) (h97 : ∀ (M : rv_Mem) (x2 : Int32) (x3 : Int32) (x4 : Int32) (x5 : Int32) (x6 : Int32) (x7 : Int32) (x8 : Int32) (x9 : Bool) (x10 : Int32), rv_M (lk_G D cI cZ cO de z0 o k) (fun q => z0 ≤ q) p l e rmp_isShown s m args below meth c 1 6 (lk_qRZ D cI cZ cO de z0 o k gh A below args s 1 6) (k97 M x2 x3 x4 x5 x6 x7 x8 x9 x10) 97 [some (.ref o), none, some (.int x2), some (.int x3), some (.int x4), some (.int x5), some (.int x6), some (.int x7), some (.int x8), some (.int (rv_i x9)), some (.int x10), none, none, none, none, none] [] (gh, M, A)) : ∀ (M : rv_Mem) (x2 : Int32) (x3 : Int32) (x4 : Int32) (x5 : Int32) (x6 : Int32) (x7 : Int32) (x8 : Int32) (x10 : Int32) (s0 : Bool), rv_M (lk_G D cI cZ cO de z0 o k) (fun q => z0 ≤ q) p l e rmp_isShown s m args below meth c 1 6 (lk_qRZ D cI cZ cO de z0 o k gh A below args s 1 6) (gp_isShown_276 gh A k97 M x2 x3 x4 x5 x6 x7 x8 x10 s0) 276 [some (.ref o), none, some (.int x2), some (.int x3), some (.int x4), some (.int x5), some (.int x6), some (.int x7), some (.int x8), none, some (.int x10), none, none, none, none, none] [.int (rv_i s0)] (gh, M, A) := by
  intro M x2 x3 x4 x5 x6 x7 x8 x10 s0
  unfold gp_isShown_276
  refine rv_istore (q := 278) (lv' := [_, _, _, _, _, _, _, _, _, _, _, _, _, _, _, _]) E.x dL_isShown_276 (Nat.le_of_ble_eq_true rfl) rfl rfl rfl ?_
  refine rv_iinc (q := 281) (lv' := [_, _, _, _, _, _, _, _, _, _, _, _, _, _, _, _]) E.x dL_isShown_278 rv_ki1 rfl rfl rfl rfl ?_
  refine rv_goto (q := 97) E.x dL_isShown_281 (by decide) ?_
  refine rv_wk [true, false, true, true, true, true, true, true, true, true, true, false, false, false, false, false] ?_
  exact h97 M x2 x3 x4 x5 x6 x7 x8 s0 (x10 + 1)
set_option maxRecDepth 100000 in
theorem bp_isShown_271 {p : Program} {l : Launch} {e : Env} {s : State} {m : MethodId} {args : Array Value} {below : List Frame} {meth : Method} {c : Code} {D : va_G} {cI cZ cO : ClassId} {mi de z0 o b L : Nat} {k : Nat → Nat} {xs : Nat → Int32} (E : lk_E D cI cZ cO mi de z0 b L k xs cL_isShown 16 (some .boolean) p l s m args meth c) (gh : rC_gh) (A : rv_Mem) (k97 : rv_Mem → Int32 → Int32 → Int32 → Int32 → Int32 → Int32 → Int32 → Bool → Int32 → Option (Bool × rv_Mem)) (h97 : ∀ (M : rv_Mem) (x2 : Int32) (x3 : Int32) (x4 : Int32) (x5 : Int32) (x6 : Int32) (x7 : Int32) (x8 : Int32) (x9 : Bool) (x10 : Int32), rv_M (lk_G D cI cZ cO de z0 o k) (fun q => z0 ≤ q) p l e rmp_isShown s m args below meth c 1 6 (lk_qRZ D cI cZ cO de z0 o k gh A below args s 1 6) (k97 M x2 x3 x4 x5 x6 x7 x8 x9 x10) 97 [some (.ref o), none, some (.int x2), some (.int x3), some (.int x4), some (.int x5), some (.int x6), some (.int x7), some (.int x8), some (.int (rv_i x9)), some (.int x10), none, none, none, none, none] [] (gh, M, A)) : ∀ (M : rv_Mem) (x2 : Int32) (x3 : Int32) (x4 : Int32) (x5 : Int32) (x6 : Int32) (x7 : Int32) (x8 : Int32) (x10 : Int32), rv_M (lk_G D cI cZ cO de z0 o k) (fun q => z0 ≤ q) p l e rmp_isShown s m args below meth c 1 6 (lk_qRZ D cI cZ cO de z0 o k gh A below args s 1 6) (gp_isShown_271 gh A k97 M x2 x3 x4 x5 x6 x7 x8 x10) 271 [some (.ref o), none, some (.int x2), some (.int x3), some (.int x4), some (.int x5), some (.int x6), some (.int x7), some (.int x8), none, some (.int x10), none, none, none, none, none] [] (gh, M, A) := by
  intro M x2 x3 x4 x5 x6 x7 x8 x10
  unfold gp_isShown_271
  refine rv_iconst (q := 272) E.x dL_isShown_271 rv_ki1 rfl ?_
  refine rv_goto (q := 276) E.x dL_isShown_272 (by decide) ?_
  refine rv_wk [true, false, true, true, true, true, true, true, true, false, true, false, false, false, false, false] ?_
  exact bp_isShown_276 E gh A k97 h97 M x2 x3 x4 x5 x6 x7 x8 x10 true
set_option maxRecDepth 100000 in
theorem bp_isShown_275 {p : Program} {l : Launch} {e : Env} {s : State} {m : MethodId} {args : Array Value} {below : List Frame} {meth : Method} {c : Code} {D : va_G} {cI cZ cO : ClassId} {mi de z0 o b L : Nat} {k : Nat → Nat} {xs : Nat → Int32} (E : lk_E D cI cZ cO mi de z0 b L k xs cL_isShown 16 (some .boolean) p l s m args meth c) (gh : rC_gh) (A : rv_Mem) (k97 : rv_Mem → Int32 → Int32 → Int32 → Int32 → Int32 → Int32 → Int32 → Bool → Int32 → Option (Bool × rv_Mem)) (h97 : ∀ (M : rv_Mem) (x2 : Int32) (x3 : Int32) (x4 : Int32) (x5 : Int32) (x6 : Int32) (x7 : Int32) (x8 : Int32) (x9 : Bool) (x10 : Int32), rv_M (lk_G D cI cZ cO de z0 o k) (fun q => z0 ≤ q) p l e rmp_isShown s m args below meth c 1 6 (lk_qRZ D cI cZ cO de z0 o k gh A below args s 1 6) (k97 M x2 x3 x4 x5 x6 x7 x8 x9 x10) 97 [some (.ref o), none, some (.int x2), some (.int x3), some (.int x4), some (.int x5), some (.int x6), some (.int x7), some (.int x8), some (.int (rv_i x9)), some (.int x10), none, none, none, none, none] [] (gh, M, A)) : ∀ (M : rv_Mem) (x2 : Int32) (x3 : Int32) (x4 : Int32) (x5 : Int32) (x6 : Int32) (x7 : Int32) (x8 : Int32) (x10 : Int32), rv_M (lk_G D cI cZ cO de z0 o k) (fun q => z0 ≤ q) p l e rmp_isShown s m args below meth c 1 6 (lk_qRZ D cI cZ cO de z0 o k gh A below args s 1 6) (gp_isShown_275 gh A k97 M x2 x3 x4 x5 x6 x7 x8 x10) 275 [some (.ref o), none, some (.int x2), some (.int x3), some (.int x4), some (.int x5), some (.int x6), some (.int x7), some (.int x8), none, some (.int x10), none, none, none, none, none] [] (gh, M, A) := by
  intro M x2 x3 x4 x5 x6 x7 x8 x10
  unfold gp_isShown_275
  refine rv_iconst (q := 276) E.x dL_isShown_275 rv_ki0 rfl ?_
  refine rv_wk [true, false, true, true, true, true, true, true, true, false, true, false, false, false, false, false] ?_
  exact bp_isShown_276 E gh A k97 h97 M x2 x3 x4 x5 x6 x7 x8 x10 false
set_option maxRecDepth 100000 in
theorem bp_isShown_254 {p : Program} {l : Launch} {e : Env} {s : State} {m : MethodId} {args : Array Value} {below : List Frame} {meth : Method} {c : Code} {D : va_G} {cI cZ cO : ClassId} {mi de z0 o b L : Nat} {k : Nat → Nat} {xs : Nat → Int32} (E : lk_E D cI cZ cO mi de z0 b L k xs cL_isShown 16 (some .boolean) p l s m args meth c) (gh : rC_gh) (A : rv_Mem) (k97 : rv_Mem → Int32 → Int32 → Int32 → Int32 → Int32 → Int32 → Int32 → Bool → Int32 → Option (Bool × rv_Mem)) (h97 : ∀ (M : rv_Mem) (x2 : Int32) (x3 : Int32) (x4 : Int32) (x5 : Int32) (x6 : Int32) (x7 : Int32) (x8 : Int32) (x9 : Bool) (x10 : Int32), rv_M (lk_G D cI cZ cO de z0 o k) (fun q => z0 ≤ q) p l e rmp_isShown s m args below meth c 1 6 (lk_qRZ D cI cZ cO de z0 o k gh A below args s 1 6) (k97 M x2 x3 x4 x5 x6 x7 x8 x9 x10) 97 [some (.ref o), none, some (.int x2), some (.int x3), some (.int x4), some (.int x5), some (.int x6), some (.int x7), some (.int x8), some (.int (rv_i x9)), some (.int x10), none, none, none, none, none] [] (gh, M, A)) : ∀ (M : rv_Mem) (x2 : Int32) (x3 : Int32) (x4 : Int32) (x5 : Int32) (x6 : Int32) (x7 : Int32) (x8 : Int32) (x9 : Bool) (x10 : Int32) (x11 : Int32) (x12 : Int32), rv_M (lk_G D cI cZ cO de z0 o k) (fun q => z0 ≤ q) p l e rmp_isShown s m args below meth c 1 6 (lk_qRZ D cI cZ cO de z0 o k gh A below args s 1 6) (gp_isShown_254 gh A k97 M x2 x3 x4 x5 x6 x7 x8 x9 x10 x11 x12) 254 [some (.ref o), none, some (.int x2), some (.int x3), some (.int x4), some (.int x5), some (.int x6), some (.int x7), some (.int x8), some (.int (rv_i x9)), some (.int x10), some (.int x11), some (.int x12), none, none, none] [] (gh, M, A) := by
  intro M x2 x3 x4 x5 x6 x7 x8 x9 x10 x11 x12
  unfold gp_isShown_254
  refine rv_iload (q := 256) E.x dL_isShown_254 rfl rfl ?_
  refine rv_ifz_eq (q := 259) (tgt := 275) E.x dL_isShown_256 (by decide) rfl ?_ ?_
  · refine rv_iload (q := 261) E.x dL_isShown_259 rfl rfl ?_
    refine rv_iload (q := 263) E.x dL_isShown_261 rfl rfl ?_
    refine rv_icmp_ge (q := 266) (tgt := 271) E.x dL_isShown_263 (by decide) rfl ?_ ?_
    · refine rv_iload (q := 268) E.x dL_isShown_266 rfl rfl ?_
      refine rv_if_ne (q := 271) (tgt := 275) E.x dL_isShown_268 (by decide) rfl ?_ ?_
      · refine rv_wk [true, false, true, true, true, true, true, true, true, false, true, false, false, false, false, false] ?_
        exact bp_isShown_271 E gh A k97 h97 M x2 x3 x4 x5 x6 x7 x8 x10
      · refine rv_wk [true, false, true, true, true, true, true, true, true, false, true, false, false, false, false, false] ?_
        exact bp_isShown_275 E gh A k97 h97 M x2 x3 x4 x5 x6 x7 x8 x10
    · refine rv_wk [true, false, true, true, true, true, true, true, true, false, true, false, false, false, false, false] ?_
      exact bp_isShown_271 E gh A k97 h97 M x2 x3 x4 x5 x6 x7 x8 x10
  · refine rv_wk [true, false, true, true, true, true, true, true, true, false, true, false, false, false, false, false] ?_
    exact bp_isShown_275 E gh A k97 h97 M x2 x3 x4 x5 x6 x7 x8 x10
set_option maxRecDepth 100000 in
theorem bp_isShown_160_s {p : Program} {l : Launch} {e : Env} {s : State} {m : MethodId} {args : Array Value} {below : List Frame} {meth : Method} {c : Code} {D : va_G} {cI cZ cO : ClassId} {mi de z0 o b L : Nat} {k : Nat → Nat} {xs : Nat → Int32} (E : lk_E D cI cZ cO mi de z0 b L k xs cL_isShown 16 (some .boolean) p l s m args meth c) (gh : rC_gh) (A : rv_Mem) (k97 : rv_Mem → Int32 → Int32 → Int32 → Int32 → Int32 → Int32 → Int32 → Bool → Int32 → Option (Bool × rv_Mem)) (h97 : ∀ (M : rv_Mem) (x2 : Int32) (x3 : Int32) (x4 : Int32) (x5 : Int32) (x6 : Int32) (x7 : Int32) (x8 : Int32) (x9 : Bool) (x10 : Int32), rv_M (lk_G D cI cZ cO de z0 o k) (fun q => z0 ≤ q) p l e rmp_isShown s m args below meth c 1 6 (lk_qRZ D cI cZ cO de z0 o k gh A below args s 1 6) (k97 M x2 x3 x4 x5 x6 x7 x8 x9 x10) 97 [some (.ref o), none, some (.int x2), some (.int x3), some (.int x4), some (.int x5), some (.int x6), some (.int x7), some (.int x8), some (.int (rv_i x9)), some (.int x10), none, none, none, none, none] [] (gh, M, A)) (k160 : rv_Mem → Int32 → Int32 → Int32 → Int32 → Int32 → Int32 → Int32 → Bool → Int32 → Int32 → Int32 → Int32 → Int32 → Int32 → Option (Bool × rv_Mem)) (h160 : ∀ (M : rv_Mem) (x2 : Int32) (x3 : Int32) (x4 : Int32) (x5 : Int32) (x6 : Int32) (x7 : Int32) (x8 : Int32) (x9 : Bool) (x10 : Int32) (x11 : Int32) (x12 : Int32) (x13 : Int32) (x14 : Int32) (x15 : Int32), rv_M (lk_G D cI cZ cO de z0 o k) (fun q => z0 ≤ q) p l e rmp_isShown s m args below meth c 1 6 (lk_qRZ D cI cZ cO de z0 o k gh A below args s 1 6) (k160 M x2 x3 x4 x5 x6 x7 x8 x9 x10 x11 x12 x13 x14 x15) 160 [some (.ref o), none, some (.int x2), some (.int x3), some (.int x4), some (.int x5), some (.int x6), some (.int x7), some (.int x8), some (.int (rv_i x9)), some (.int x10), some (.int x11), some (.int x12), some (.int x13), some (.int x14), some (.int x15)] [] (gh, M, A)) : ∀ (M : rv_Mem) (x2 : Int32) (x3 : Int32) (x4 : Int32) (x5 : Int32) (x6 : Int32) (x7 : Int32) (x8 : Int32) (x9 : Bool) (x10 : Int32) (x11 : Int32) (x12 : Int32) (x13 : Int32) (x14 : Int32) (x15 : Int32), rv_M (lk_G D cI cZ cO de z0 o k) (fun q => z0 ≤ q) p l e rmp_isShown s m args below meth c 1 6 (lk_qRZ D cI cZ cO de z0 o k gh A below args s 1 6) (gp_isShown_160_s gh A k97 k160 M x2 x3 x4 x5 x6 x7 x8 x9 x10 x11 x12 x13 x14 x15) 160 [some (.ref o), none, some (.int x2), some (.int x3), some (.int x4), some (.int x5), some (.int x6), some (.int x7), some (.int x8), some (.int (rv_i x9)), some (.int x10), some (.int x11), some (.int x12), some (.int x13), some (.int x14), some (.int x15)] [] (gh, M, A) := by
  intro M x2 x3 x4 x5 x6 x7 x8 x9 x10 x11 x12 x13 x14 x15
  unfold gp_isShown_160_s
  refine rv_iload (q := 162) E.x dL_isShown_160 rfl rfl ?_
  refine rv_bipush (q := 164) E.x dL_isShown_162 rv_kb10 rfl ?_
  refine rv_icmp_ge (q := 167) (tgt := 254) E.x dL_isShown_164 (by decide) rfl ?_ ?_
  · refine rv_iload (q := 169) E.x dL_isShown_167 rfl rfl ?_
    refine rv_ifz_eq (q := 172) (tgt := 254) E.x dL_isShown_169 (by decide) rfl ?_ ?_
    · refine rv_iload (q := 174) E.x dL_isShown_172 rfl rfl ?_
      refine rv_iload (q := 176) E.x dL_isShown_174 rfl rfl ?_
      refine rv_ishr (q := 177) E.x dL_isShown_176 rfl ?_
      refine rv_iconst (q := 178) E.x dL_isShown_177 rv_ki1 rfl ?_
      refine rv_iand (q := 179) E.x dL_isShown_178 rfl ?_
      refine rv_iconst (q := 180) E.x dL_isShown_179 rv_ki1 rfl ?_
      refine rv_icmp_ne (q := 183) (tgt := 248) E.x dL_isShown_180 (by decide) rfl ?_ ?_
      · refine rv_wk [true, false, true, true, true, true, true, true, true, false, true, true, true, true, true, true] ?_
        exact bp_isShown_183 E gh A k97 k160 h97 h160 rv_FU M x2 x3 x4 x5 x6 x7 x8 x10 x11 x12 x13 x14 x15
      · refine rv_wk [true, false, true, true, true, true, true, true, true, true, true, true, true, true, true, true] ?_
        exact bp_isShown_248 E gh A k97 k160 h97 h160 M x2 x3 x4 x5 x6 x7 x8 x9 x10 x11 x12 x13 x14 x15
    · refine rv_wk [true, false, true, true, true, true, true, true, true, true, true, true, true, false, false, false] ?_
      exact bp_isShown_254 E gh A k97 h97 M x2 x3 x4 x5 x6 x7 x8 x9 x10 x11 x12
  · refine rv_wk [true, false, true, true, true, true, true, true, true, true, true, true, true, false, false, false] ?_
    exact bp_isShown_254 E gh A k97 h97 M x2 x3 x4 x5 x6 x7 x8 x9 x10 x11 x12
theorem bp_isShown_160 {p : Program} {l : Launch} {e : Env} {s : State} {m : MethodId} {args : Array Value} {below : List Frame} {meth : Method} {c : Code} {D : va_G} {cI cZ cO : ClassId} {mi de z0 o b L : Nat} {k : Nat → Nat} {xs : Nat → Int32} (E : lk_E D cI cZ cO mi de z0 b L k xs cL_isShown 16 (some .boolean) p l s m args meth c) (gh : rC_gh) (A : rv_Mem) (k97 : rv_Mem → Int32 → Int32 → Int32 → Int32 → Int32 → Int32 → Int32 → Bool → Int32 → Option (Bool × rv_Mem)) (h97 : ∀ (M : rv_Mem) (x2 : Int32) (x3 : Int32) (x4 : Int32) (x5 : Int32) (x6 : Int32) (x7 : Int32) (x8 : Int32) (x9 : Bool) (x10 : Int32), rv_M (lk_G D cI cZ cO de z0 o k) (fun q => z0 ≤ q) p l e rmp_isShown s m args below meth c 1 6 (lk_qRZ D cI cZ cO de z0 o k gh A below args s 1 6) (k97 M x2 x3 x4 x5 x6 x7 x8 x9 x10) 97 [some (.ref o), none, some (.int x2), some (.int x3), some (.int x4), some (.int x5), some (.int x6), some (.int x7), some (.int x8), some (.int (rv_i x9)), some (.int x10), none, none, none, none, none] [] (gh, M, A)) : ∀ (n : Nat), ∀ (M : rv_Mem) (x2 : Int32) (x3 : Int32) (x4 : Int32) (x5 : Int32) (x6 : Int32) (x7 : Int32) (x8 : Int32) (x9 : Bool) (x10 : Int32) (x11 : Int32) (x12 : Int32) (x13 : Int32) (x14 : Int32) (x15 : Int32), rv_M (lk_G D cI cZ cO de z0 o k) (fun q => z0 ≤ q) p l e rmp_isShown s m args below meth c 1 6 (lk_qRZ D cI cZ cO de z0 o k gh A below args s 1 6) (gp_isShown_160 gh A k97 n M x2 x3 x4 x5 x6 x7 x8 x9 x10 x11 x12 x13 x14 x15) 160 [some (.ref o), none, some (.int x2), some (.int x3), some (.int x4), some (.int x5), some (.int x6), some (.int x7), some (.int x8), some (.int (rv_i x9)), some (.int x10), some (.int x11), some (.int x12), some (.int x13), some (.int x14), some (.int x15)] [] (gh, M, A) := by
  intro n
  induction n with
  | zero => exact fun _ _ _ _ _ _ _ _ _ _ _ _ _ _ _ => rv_stuck
  | succ n ih => exact bp_isShown_160_s E gh A k97 h97 (gp_isShown_160 gh A k97 n) ih
set_option maxRecDepth 100000 in
theorem bp_isShown_132 {p : Program} {l : Launch} {e : Env} {s : State} {m : MethodId} {args : Array Value} {below : List Frame} {meth : Method} {c : Code} {D : va_G} {cI cZ cO : ClassId} {mi de z0 o b L : Nat} {k : Nat → Nat} {xs : Nat → Int32} (E : lk_E D cI cZ cO mi de z0 b L k xs cL_isShown 16 (some .boolean) p l s m args meth c) (gh : rC_gh) (A : rv_Mem) (k97 : rv_Mem → Int32 → Int32 → Int32 → Int32 → Int32 → Int32 → Int32 → Bool → Int32 → Option (Bool × rv_Mem)) (h97 : ∀ (M : rv_Mem) (x2 : Int32) (x3 : Int32) (x4 : Int32) (x5 : Int32) (x6 : Int32) (x7 : Int32) (x8 : Int32) (x9 : Bool) (x10 : Int32), rv_M (lk_G D cI cZ cO de z0 o k) (fun q => z0 ≤ q) p l e rmp_isShown s m args below meth c 1 6 (lk_qRZ D cI cZ cO de z0 o k gh A below args s 1 6) (k97 M x2 x3 x4 x5 x6 x7 x8 x9 x10) 97 [some (.ref o), none, some (.int x2), some (.int x3), some (.int x4), some (.int x5), some (.int x6), some (.int x7), some (.int x8), some (.int (rv_i x9)), some (.int x10), none, none, none, none, none] [] (gh, M, A)) : ∀ (M : rv_Mem) (x2 : Int32) (x3 : Int32) (x4 : Int32) (x5 : Int32) (x6 : Int32) (x7 : Int32) (x8 : Int32) (x9 : Bool) (x10 : Int32) (s0 : Int32), rv_M (lk_G D cI cZ cO de z0 o k) (fun q => z0 ≤ q) p l e rmp_isShown s m args below meth c 1 6 (lk_qRZ D cI cZ cO de z0 o k gh A below args s 1 6) (gp_isShown_132 gh A k97 M x2 x3 x4 x5 x6 x7 x8 x9 x10 s0) 132 [some (.ref o), none, some (.int x2), some (.int x3), some (.int x4), some (.int x5), some (.int x6), some (.int x7), some (.int x8), some (.int (rv_i x9)), some (.int x10), none, none, none, none, none] [.int s0] (gh, M, A) := by
  intro M x2 x3 x4 x5 x6 x7 x8 x9 x10 s0
  unfold gp_isShown_132
  refine rv_istore (q := 134) (lv' := [_, _, _, _, _, _, _, _, _, _, _, _, _, _, _, _]) E.x dL_isShown_132 (Nat.le_of_ble_eq_true rfl) rfl rfl rfl ?_
  refine rv_aload_n (q := 135) E.x dL_isShown_134 rfl rfl ?_
  refine rv_iload_n (q := 136) E.x dL_isShown_135 rfl rfl ?_
  refine rv_iload (q := 138) E.x dL_isShown_136 rfl rfl ?_
  refine lk_x3r (fun r2 M5 e1 => ?_) (fun w3 M6 e4 => rv_stuck)
  refine lk_ci (q := 141) (v := r2) (M1 := M5) E (fun u hI _ => c11_shown E.2.2.1.1 hI e1) gP_170 hX11_shown ⟨rfl, rfl⟩ ⟨Nat.le_of_ble_eq_true rfl, Nat.le_of_ble_eq_true rfl⟩ ⟨Nat.le_of_ble_eq_true rfl, Nat.le_of_ble_eq_true rfl⟩ rfl rfl rfl (Nat.le_of_ble_eq_true rfl) dL_isShown_138 rfl ?_
  refine rv_istore (q := 143) (lv' := [_, _, _, _, _, _, _, _, _, _, _, _, _, _, _, _]) E.x dL_isShown_141 (Nat.le_of_ble_eq_true rfl) rfl rfl rfl ?_
  refine rv_aload_n (q := 144) E.x dL_isShown_143 rfl rfl ?_
  refine rv_iload (q := 146) E.x dL_isShown_144 rfl rfl ?_
  refine rv_iload (q := 148) E.x dL_isShown_146 rfl rfl ?_
  refine lk_x1r (fun r8 e7 => ?_) (fun w9 e10 => rv_stuck)
  refine lk_ci (q := 151) (v := r8) (M1 := M5) E (fun u hI _ => c11_commitOf E.2.2.1.1 hI e7) gP_130 hX11_commitOf ⟨rfl, rfl⟩ ⟨Nat.le_of_ble_eq_true rfl, Nat.le_of_ble_eq_true rfl⟩ ⟨Nat.le_of_ble_eq_true rfl, Nat.le_of_ble_eq_true rfl⟩ rfl rfl rfl (Nat.le_of_ble_eq_true rfl) dL_isShown_148 rfl ?_
  refine rv_istore (q := 153) (lv' := [_, _, _, _, _, _, _, _, _, _, _, _, _, _, _, _]) E.x dL_isShown_151 (Nat.le_of_ble_eq_true rfl) rfl rfl rfl ?_
  refine rv_iload (q := 155) E.x dL_isShown_153 rfl rfl ?_
  refine rv_istore (q := 157) (lv' := [_, _, _, _, _, _, _, _, _, _, _, _, _, _, _, _]) E.x dL_isShown_155 (Nat.le_of_ble_eq_true rfl) rfl rfl rfl ?_
  refine rv_iconst (q := 158) E.x dL_isShown_157 rv_ki0 rfl ?_
  refine rv_istore (q := 160) (lv' := [_, _, _, _, _, _, _, _, _, _, _, _, _, _, _, _]) E.x dL_isShown_158 (Nat.le_of_ble_eq_true rfl) rfl rfl rfl ?_
  refine rv_wk [true, false, true, true, true, true, true, true, true, true, true, true, true, true, true, true] ?_
  exact bp_isShown_160 E gh A k97 h97 rv_FU M5 x2 x3 x4 x5 x6 x7 x8 x9 x10 s0 r2 r8 x7 0
set_option maxRecDepth 100000 in
theorem bp_isShown_97_s {p : Program} {l : Launch} {e : Env} {s : State} {m : MethodId} {args : Array Value} {below : List Frame} {meth : Method} {c : Code} {D : va_G} {cI cZ cO : ClassId} {mi de z0 o b L : Nat} {k : Nat → Nat} {xs : Nat → Int32} (E : lk_E D cI cZ cO mi de z0 b L k xs cL_isShown 16 (some .boolean) p l s m args meth c) (gh : rC_gh) (A : rv_Mem)   (k97 : rv_Mem → Int32 → Int32 → Int32 → Int32 → Int32 → Int32 → Int32 → Bool → Int32 → Option (Bool × rv_Mem)) (h97 : ∀ (M : rv_Mem) (x2 : Int32) (x3 : Int32) (x4 : Int32) (x5 : Int32) (x6 : Int32) (x7 : Int32) (x8 : Int32) (x9 : Bool) (x10 : Int32), rv_M (lk_G D cI cZ cO de z0 o k) (fun q => z0 ≤ q) p l e rmp_isShown s m args below meth c 1 6 (lk_qRZ D cI cZ cO de z0 o k gh A below args s 1 6) (k97 M x2 x3 x4 x5 x6 x7 x8 x9 x10) 97 [some (.ref o), none, some (.int x2), some (.int x3), some (.int x4), some (.int x5), some (.int x6), some (.int x7), some (.int x8), some (.int (rv_i x9)), some (.int x10), none, none, none, none, none] [] (gh, M, A)) : ∀ (M : rv_Mem) (x2 : Int32) (x3 : Int32) (x4 : Int32) (x5 : Int32) (x6 : Int32) (x7 : Int32) (x8 : Int32) (x9 : Bool) (x10 : Int32), rv_M (lk_G D cI cZ cO de z0 o k) (fun q => z0 ≤ q) p l e rmp_isShown s m args below meth c 1 6 (lk_qRZ D cI cZ cO de z0 o k gh A below args s 1 6) (gp_isShown_97_s gh A k97 M x2 x3 x4 x5 x6 x7 x8 x9 x10) 97 [some (.ref o), none, some (.int x2), some (.int x3), some (.int x4), some (.int x5), some (.int x6), some (.int x7), some (.int x8), some (.int (rv_i x9)), some (.int x10), none, none, none, none, none] [] (gh, M, A) := by
  intro M x2 x3 x4 x5 x6 x7 x8 x9 x10
  unfold gp_isShown_97_s
  refine rv_iload (q := 99) E.x dL_isShown_97 rfl rfl ?_
  refine rv_iconst (q := 100) E.x dL_isShown_99 rv_ki2 rfl ?_
  refine rv_icmp_ge (q := 103) (tgt := 284) E.x dL_isShown_100 (by decide) rfl ?_ ?_
  · refine rv_iload (q := 105) E.x dL_isShown_103 rfl rfl ?_
    refine rv_ifz_eq (q := 108) (tgt := 284) E.x dL_isShown_105 (by decide) rfl ?_ ?_
    · refine rv_iload (q := 110) E.x dL_isShown_108 rfl rfl ?_
      refine rv_if_ne (q := 113) (tgt := 124) E.x dL_isShown_110 (by decide) rfl ?_ ?_
      · refine rv_iload_n (q := 114) E.x dL_isShown_113 rfl rfl ?_
        refine rv_aload_n (q := 115) E.x dL_isShown_114 rfl rfl ?_
        refine rv_iload (q := 117) E.x dL_isShown_115 rfl rfl ?_
        refine lk_x1r (fun r2 e1 => ?_) (fun w3 e4 => rv_stuck)
        refine lk_ci (q := 120) (v := r2) (M1 := M) E (fun u hI _ => c11_sets E.2.2.1.1 hI e1) gP_127 hX11_sets ⟨rfl, rfl⟩ ⟨Nat.le_of_ble_eq_true rfl, Nat.le_of_ble_eq_true rfl⟩ ⟨Nat.le_of_ble_eq_true rfl, Nat.le_of_ble_eq_true rfl⟩ rfl rfl rfl (Nat.le_of_ble_eq_true rfl) dL_isShown_117 rfl ?_
        refine rv_iremg (q := 121) E.x dL_isShown_120 rfl ?_
        refine rv_goto (q := 132) E.x dL_isShown_121 (by decide) ?_
        refine rv_wk [true, false, true, true, true, true, true, true, true, true, true, false, false, false, false, false] ?_
        exact bp_isShown_132 E gh A k97 h97 M x2 x3 x4 x5 x6 x7 x8 x9 x10 (x3 - x3 / r2 * r2)
      · refine rv_aload_n (q := 125) E.x dL_isShown_124 rfl rfl ?_
        refine rv_iload (q := 127) E.x dL_isShown_125 rfl rfl ?_
        refine lk_x1r (fun r6 e5 => ?_) (fun w7 e8 => rv_stuck)
        refine lk_ci (q := 130) (v := r6) (M1 := M) E (fun u hI _ => c11_sets E.2.2.1.1 hI e5) gP_127 hX11_sets ⟨rfl, rfl⟩ ⟨Nat.le_of_ble_eq_true rfl, Nat.le_of_ble_eq_true rfl⟩ ⟨Nat.le_of_ble_eq_true rfl, Nat.le_of_ble_eq_true rfl⟩ rfl rfl rfl (Nat.le_of_ble_eq_true rfl) dL_isShown_127 rfl ?_
        refine rv_iconst (q := 131) E.x dL_isShown_130 rv_ki1 rfl ?_
        refine rv_isub (q := 132) E.x dL_isShown_131 rfl ?_
        refine rv_wk [true, false, true, true, true, true, true, true, true, true, true, false, false, false, false, false] ?_
        exact bp_isShown_132 E gh A k97 h97 M x2 x3 x4 x5 x6 x7 x8 x9 x10 (r6 - 1)
    · refine rv_iload (q := 286) E.x dL_isShown_284 rfl rfl ?_
      exact lk_zret E x9 rfl ⟨Nat.le_of_ble_eq_true rfl, Nat.le_of_ble_eq_true rfl⟩ dL_isShown_286
  · refine rv_iload (q := 286) E.x dL_isShown_284 rfl rfl ?_
    exact lk_zret E x9 rfl ⟨Nat.le_of_ble_eq_true rfl, Nat.le_of_ble_eq_true rfl⟩ dL_isShown_286
theorem bp_isShown_97 {p : Program} {l : Launch} {e : Env} {s : State} {m : MethodId} {args : Array Value} {below : List Frame} {meth : Method} {c : Code} {D : va_G} {cI cZ cO : ClassId} {mi de z0 o b L : Nat} {k : Nat → Nat} {xs : Nat → Int32} (E : lk_E D cI cZ cO mi de z0 b L k xs cL_isShown 16 (some .boolean) p l s m args meth c) (gh : rC_gh) (A : rv_Mem)   : ∀ (n : Nat), ∀ (M : rv_Mem) (x2 : Int32) (x3 : Int32) (x4 : Int32) (x5 : Int32) (x6 : Int32) (x7 : Int32) (x8 : Int32) (x9 : Bool) (x10 : Int32), rv_M (lk_G D cI cZ cO de z0 o k) (fun q => z0 ≤ q) p l e rmp_isShown s m args below meth c 1 6 (lk_qRZ D cI cZ cO de z0 o k gh A below args s 1 6) (gp_isShown_97 gh A n M x2 x3 x4 x5 x6 x7 x8 x9 x10) 97 [some (.ref o), none, some (.int x2), some (.int x3), some (.int x4), some (.int x5), some (.int x6), some (.int x7), some (.int x8), some (.int (rv_i x9)), some (.int x10), none, none, none, none, none] [] (gh, M, A) := by
  intro n
  induction n with
  | zero => exact fun _ _ _ _ _ _ _ _ _ _ => rv_stuck
  | succ n ih => exact bp_isShown_97_s E gh A (gp_isShown_97 gh A n) ih
set_option maxRecDepth 100000 in
theorem bp_isShown_92 {p : Program} {l : Launch} {e : Env} {s : State} {m : MethodId} {args : Array Value} {below : List Frame} {meth : Method} {c : Code} {D : va_G} {cI cZ cO : ClassId} {mi de z0 o b L : Nat} {k : Nat → Nat} {xs : Nat → Int32} (E : lk_E D cI cZ cO mi de z0 b L k xs cL_isShown 16 (some .boolean) p l s m args meth c) (gh : rC_gh) (A : rv_Mem)   : ∀ (M : rv_Mem) (x2 : Int32) (x3 : Int32) (x4 : Int32) (x5 : Int32) (x6 : Int32) (x7 : Int32) (x8 : Int32) (s0 : Bool), rv_M (lk_G D cI cZ cO de z0 o k) (fun q => z0 ≤ q) p l e rmp_isShown s m args below meth c 1 6 (lk_qRZ D cI cZ cO de z0 o k gh A below args s 1 6) (gp_isShown_92 gh A M x2 x3 x4 x5 x6 x7 x8 s0) 92 [some (.ref o), none, some (.int x2), some (.int x3), some (.int x4), some (.int x5), some (.int x6), some (.int x7), some (.int x8), none, none, none, none, none, none, none] [.int (rv_i s0)] (gh, M, A) := by
  intro M x2 x3 x4 x5 x6 x7 x8 s0
  unfold gp_isShown_92
  refine rv_istore (q := 94) (lv' := [_, _, _, _, _, _, _, _, _, _, _, _, _, _, _, _]) E.x dL_isShown_92 (Nat.le_of_ble_eq_true rfl) rfl rfl rfl ?_
  refine rv_iconst (q := 95) E.x dL_isShown_94 rv_ki0 rfl ?_
  refine rv_istore (q := 97) (lv' := [_, _, _, _, _, _, _, _, _, _, _, _, _, _, _, _]) E.x dL_isShown_95 (Nat.le_of_ble_eq_true rfl) rfl rfl rfl ?_
  refine rv_wk [true, false, true, true, true, true, true, true, true, true, true, false, false, false, false, false] ?_
  exact bp_isShown_97 E gh A rv_FU M x2 x3 x4 x5 x6 x7 x8 s0 0
set_option maxRecDepth 100000 in
theorem bp_isShown_91 {p : Program} {l : Launch} {e : Env} {s : State} {m : MethodId} {args : Array Value} {below : List Frame} {meth : Method} {c : Code} {D : va_G} {cI cZ cO : ClassId} {mi de z0 o b L : Nat} {k : Nat → Nat} {xs : Nat → Int32} (E : lk_E D cI cZ cO mi de z0 b L k xs cL_isShown 16 (some .boolean) p l s m args meth c) (gh : rC_gh) (A : rv_Mem)   : ∀ (M : rv_Mem) (x2 : Int32) (x3 : Int32) (x4 : Int32) (x5 : Int32) (x6 : Int32) (x7 : Int32) (x8 : Int32), rv_M (lk_G D cI cZ cO de z0 o k) (fun q => z0 ≤ q) p l e rmp_isShown s m args below meth c 1 6 (lk_qRZ D cI cZ cO de z0 o k gh A below args s 1 6) (gp_isShown_91 gh A M x2 x3 x4 x5 x6 x7 x8) 91 [some (.ref o), none, some (.int x2), some (.int x3), some (.int x4), some (.int x5), some (.int x6), some (.int x7), some (.int x8), none, none, none, none, none, none, none] [] (gh, M, A) := by
  intro M x2 x3 x4 x5 x6 x7 x8
  unfold gp_isShown_91
  refine rv_iconst (q := 92) E.x dL_isShown_91 rv_ki0 rfl ?_
  refine rv_wk [true, false, true, true, true, true, true, true, true, false, false, false, false, false, false, false] ?_
  exact bp_isShown_92 E gh A M x2 x3 x4 x5 x6 x7 x8 false
set_option maxRecDepth 100000 in
theorem bp_isShown {p : Program} {l : Launch} {e : Env} {s : State} {m : MethodId} {args : Array Value} {below : List Frame} {meth : Method} {c : Code} {D : va_G} {cI cZ cO : ClassId} {mi de z0 o b L : Nat} {k : Nat → Nat} {xs : Nat → Int32} (E : lk_E D cI cZ cO mi de z0 b L k xs cL_isShown 16 (some .boolean) p l s m args meth c) (gh : rC_gh) (M A : rv_Mem) (a3 : Int32) (a4 : Int32) : rv_M (lk_G D cI cZ cO de z0 o k) (fun q => z0 ≤ q) p l e rmp_isShown s m args below meth c 0 0 (lk_qRZ D cI cZ cO de z0 o k gh A below args s 1 6) (gp_isShown gh M A a3 a4) 0 [some (.ref o), some (.ref (k 1)), some (.int a3), some (.int a4), none, none, none, none, none, none, none, none, none, none, none, none] [] (gh, M, A) := by
  unfold gp_isShown
  refine rv_aload_n (q := 1) E.x dL_isShown_0 rfl rfl ?_
  refine rv_iload_n (q := 2) E.x dL_isShown_1 rfl rfl ?_
  refine lk_ald (q := 3) E 1 (by decide) dL_isShown_2 rfl ?_
  refine rv_bipush (q := 5) E.x dL_isShown_3 rv_kb31 rfl ?_
  refine rv_iand (q := 6) E.x dL_isShown_5 rfl ?_
  refine rv_istore (q := 8) (lv' := [_, _, _, _, _, _, _, _, _, _, _, _, _, _, _, _]) E.x dL_isShown_6 (Nat.le_of_ble_eq_true rfl) rfl rfl rfl ?_
  refine rv_aload_n (q := 9) E.x dL_isShown_8 rfl rfl ?_
  refine rv_iload_n (q := 10) E.x dL_isShown_9 rfl rfl ?_
  refine lk_ald (q := 11) E 1 (by decide) dL_isShown_10 rfl ?_
  refine rv_iconst (q := 12) E.x dL_isShown_11 rv_ki5 rfl ?_
  refine rv_ishr (q := 13) E.x dL_isShown_12 rfl ?_
  refine rv_bipush (q := 15) E.x dL_isShown_13 rv_kb127 rfl ?_
  refine rv_iand (q := 16) E.x dL_isShown_15 rfl ?_
  refine rv_istore (q := 18) (lv' := [_, _, _, _, _, _, _, _, _, _, _, _, _, _, _, _]) E.x dL_isShown_16 (Nat.le_of_ble_eq_true rfl) rfl rfl rfl ?_
  refine rv_aload_n (q := 19) E.x dL_isShown_18 rfl rfl ?_
  refine rv_iload_n (q := 20) E.x dL_isShown_19 rfl rfl ?_
  refine lk_ald (q := 21) E 1 (by decide) dL_isShown_20 rfl ?_
  refine rv_bipush (q := 23) E.x dL_isShown_21 rv_kb12 rfl ?_
  refine rv_ishr (q := 24) E.x dL_isShown_23 rfl ?_
  refine rv_iconst (q := 25) E.x dL_isShown_24 rv_ki3 rfl ?_
  refine rv_iand (q := 26) E.x dL_isShown_25 rfl ?_
  refine rv_istore (q := 28) (lv' := [_, _, _, _, _, _, _, _, _, _, _, _, _, _, _, _]) E.x dL_isShown_26 (Nat.le_of_ble_eq_true rfl) rfl rfl rfl ?_
  refine rv_aload_n (q := 29) E.x dL_isShown_28 rfl rfl ?_
  refine rv_iload_n (q := 30) E.x dL_isShown_29 rfl rfl ?_
  refine lk_ald (q := 31) E 1 (by decide) dL_isShown_30 rfl ?_
  refine rv_bipush (q := 33) E.x dL_isShown_31 rv_kb14 rfl ?_
  refine rv_ishr (q := 34) E.x dL_isShown_33 rfl ?_
  refine rv_bipush (q := 36) E.x dL_isShown_34 rv_kb15 rfl ?_
  refine rv_iand (q := 37) E.x dL_isShown_36 rfl ?_
  refine rv_istore (q := 39) (lv' := [_, _, _, _, _, _, _, _, _, _, _, _, _, _, _, _]) E.x dL_isShown_37 (Nat.le_of_ble_eq_true rfl) rfl rfl rfl ?_
  refine rv_aload_n (q := 40) E.x dL_isShown_39 rfl rfl ?_
  refine rv_iload_n (q := 41) E.x dL_isShown_40 rfl rfl ?_
  refine lk_ald (q := 42) E 1 (by decide) dL_isShown_41 rfl ?_
  refine rv_bipush (q := 44) E.x dL_isShown_42 rv_kb18 rfl ?_
  refine rv_ishr (q := 45) E.x dL_isShown_44 rfl ?_
  refine rv_istore (q := 47) (lv' := [_, _, _, _, _, _, _, _, _, _, _, _, _, _, _, _]) E.x dL_isShown_45 (Nat.le_of_ble_eq_true rfl) rfl rfl rfl ?_
  refine rv_aload_n (q := 48) E.x dL_isShown_47 rfl rfl ?_
  refine rv_iload_n (q := 49) E.x dL_isShown_48 rfl rfl ?_
  refine rv_iload (q := 51) E.x dL_isShown_49 rfl rfl ?_
  refine lk_x3r (fun r2 M5 e1 => ?_) (fun w3 M6 e4 => rv_stuck)
  refine lk_ci (q := 54) (v := r2) (M1 := M5) E (fun u hI _ => c11_shown E.2.2.1.1 hI e1) gP_170 hX11_shown ⟨rfl, rfl⟩ ⟨Nat.le_of_ble_eq_true rfl, Nat.le_of_ble_eq_true rfl⟩ ⟨Nat.le_of_ble_eq_true rfl, Nat.le_of_ble_eq_true rfl⟩ rfl rfl rfl (Nat.le_of_ble_eq_true rfl) dL_isShown_51 rfl ?_
  refine rv_iconst (q := 55) E.x dL_isShown_54 rv_ki1 rfl ?_
  refine rv_iload (q := 57) E.x dL_isShown_55 rfl rfl ?_
  refine rv_ishl (q := 58) E.x dL_isShown_57 rfl ?_
  refine rv_iconst (q := 59) E.x dL_isShown_58 rv_ki1 rfl ?_
  refine rv_isub (q := 60) E.x dL_isShown_59 rfl ?_
  refine rv_iload (q := 62) E.x dL_isShown_60 rfl rfl ?_
  refine rv_ishl (q := 63) E.x dL_isShown_62 rfl ?_
  refine rv_icmp_ne (q := 66) (tgt := 91) E.x dL_isShown_63 (by decide) rfl ?_ ?_
  · refine rv_aload_n (q := 67) E.x dL_isShown_66 rfl rfl ?_
    refine rv_bipush (q := 69) E.x dL_isShown_67 rv_kb19 rfl ?_
    refine rv_iload_n (q := 70) E.x dL_isShown_69 rfl rfl ?_
    refine rv_aload_n (q := 71) E.x dL_isShown_70 rfl rfl ?_
    refine rv_iload (q := 73) E.x dL_isShown_71 rfl rfl ?_
    refine lk_x1r (fun r8 e7 => ?_) (fun w9 e10 => rv_stuck)
    refine lk_ci (q := 76) (v := r8) (M1 := M5) E (fun u hI _ => c11_sets E.2.2.1.1 hI e7) gP_127 hX11_sets ⟨rfl, rfl⟩ ⟨Nat.le_of_ble_eq_true rfl, Nat.le_of_ble_eq_true rfl⟩ ⟨Nat.le_of_ble_eq_true rfl, Nat.le_of_ble_eq_true rfl⟩ rfl rfl rfl (Nat.le_of_ble_eq_true rfl) dL_isShown_73 rfl ?_
    refine rv_iconst (q := 77) E.x dL_isShown_76 rv_ki0 rfl ?_
    refine rv_iconst (q := 78) E.x dL_isShown_77 rv_ki0 rfl ?_
    refine rv_b2 (fun r12 M13 e11 => ?_)
    refine lk_csW (q := 81) (v := r12) (σ' := (gh, M13, A)) E (wP_of E.2.2.1 e11) gPs_218 hP_of ⟨rfl, rfl⟩ ⟨Nat.le_of_ble_eq_true rfl, Nat.le_of_ble_eq_true rfl⟩ ⟨Nat.le_of_ble_eq_true rfl, Nat.le_of_ble_eq_true rfl⟩ rfl rfl rfl (Nat.le_of_ble_eq_true rfl) dL_isShown_78 rfl ?_
    refine rv_sipush (q := 84) E.x dL_isShown_81 rv_ksm1261 rfl ?_
    refine rv_icmp_ne (q := 87) (tgt := 91) E.x dL_isShown_84 (by decide) rfl ?_ ?_
    · refine rv_iconst (q := 88) E.x dL_isShown_87 rv_ki1 rfl ?_
      refine rv_goto (q := 92) E.x dL_isShown_88 (by decide) ?_
      refine rv_wk [true, false, true, true, true, true, true, true, true, false, false, false, false, false, false, false] ?_
      exact bp_isShown_92 E gh A M13 a3 a4 ((A 1 (a3).toNatClampNeg) &&& 31) (((A 1 (a3).toNatClampNeg) >>> ((5 : Int32) &&& 31)) &&& 127) (((A 1 (a3).toNatClampNeg) >>> ((12 : Int32) &&& 31)) &&& 3) (((A 1 (a3).toNatClampNeg) >>> ((14 : Int32) &&& 31)) &&& 15) ((A 1 (a3).toNatClampNeg) >>> ((18 : Int32) &&& 31)) true
    · refine rv_wk [true, false, true, true, true, true, true, true, true, false, false, false, false, false, false, false] ?_
      exact bp_isShown_91 E gh A M13 a3 a4 ((A 1 (a3).toNatClampNeg) &&& 31) (((A 1 (a3).toNatClampNeg) >>> ((5 : Int32) &&& 31)) &&& 127) (((A 1 (a3).toNatClampNeg) >>> ((12 : Int32) &&& 31)) &&& 3) (((A 1 (a3).toNatClampNeg) >>> ((14 : Int32) &&& 31)) &&& 15) ((A 1 (a3).toNatClampNeg) >>> ((18 : Int32) &&& 31))
  · refine rv_wk [true, false, true, true, true, true, true, true, true, false, false, false, false, false, false, false] ?_
    refine rv_wd 1 6 (Nat.le_of_ble_eq_true rfl) (Nat.le_of_ble_eq_true rfl) ?_
    exact bp_isShown_91 E gh A M5 a3 a4 ((A 1 (a3).toNatClampNeg) &&& 31) (((A 1 (a3).toNatClampNeg) >>> ((5 : Int32) &&& 31)) &&& 127) (((A 1 (a3).toNatClampNeg) >>> ((12 : Int32) &&& 31)) &&& 3) (((A 1 (a3).toNatClampNeg) >>> ((14 : Int32) &&& 31)) &&& 15) ((A 1 (a3).toNatClampNeg) >>> ((18 : Int32) &&& 31))
theorem wP_isShown {l : Launch} {D : va_G} {cI cZ cO : ClassId} {mi de z0 o b L : Nat} {k : Nat → Nat} {xs : Nat → Int32} (S : lk_S l de z0 b k) {gh : rC_gh} {M A : rv_Mem} {a3 : Int32} {a4 : Int32} {r : Bool} {M1 : rv_Mem} (h : gp_isShown gh M A a3 a4 = some (r, M1)) : Met l yL_isShown (rv_ws yL_isShown cL_isShown 16 (some .boolean)) rmp_isShown (va_Pc [.ref o, .ref (k 1), .int a3, .int a4] (lk_P D cI cZ cO mi de z0 o b L k xs (gh, M, A))) (lk_qi D cI cZ cO de z0 o k (rv_i r) (gh, M1, A)) 1 6 (fun q => z0 ≤ q) := lk_met S rfl (Nat.le_of_ble_eq_true rfl) (fun p e s m args below meth c E => ⟨(lk_qRZ D cI cZ cO de z0 o k gh A below args s 1 6), rfl, bp_isShown E gh M A a3 a4⟩) h
abbrev rmp_isChanged : Room := { frames := 9, cells := 0, slots := 0, locals := 166 }
set_option maxRecDepth 100000 in
theorem bp_isChanged_56 {p : Program} {l : Launch} {e : Env} {s : State} {m : MethodId} {args : Array Value} {below : List Frame} {meth : Method} {c : Code} {D : va_G} {cI cZ cO : ClassId} {mi de z0 o b L : Nat} {k : Nat → Nat} {xs : Nat → Int32} (E : lk_E D cI cZ cO mi de z0 b L k xs cL_isChanged 7 (some .boolean) p l s m args meth c) (gh : rC_gh) (A : rv_Mem) (k19 : rv_Mem → Int32 → Int32 → Int32 → Bool → Int32 → Option (Bool × rv_Mem)) (h19 : ∀ (M : rv_Mem) (x2 : Int32) (x3 : Int32) (x4 : Int32) (x5 : Bool) (x6 : Int32), rv_M (lk_G D cI cZ cO de z0 o k) (fun q => z0 ≤ q) p l e rmp_isChanged s m args below meth c 0 0 (lk_qRZ D cI cZ cO de z0 o k gh A below args s 0 0) (k19 M x2 x3 x4 x5 x6) 19 [some (.ref o), none, some (.int x2), some (.int x3), some (.int x4), some (.int (rv_i x5)), some (.int x6)] [] (gh, M, A)) : ∀ (M : rv_Mem) (x2 : Int32) (x3 : Int32) (x4 : Int32) (x6 : Int32) (s0 : Bool), rv_M (lk_G D cI cZ cO de z0 o k) (fun q => z0 ≤ q) p l e rmp_isChanged s m args below meth c 0 0 (lk_qRZ D cI cZ cO de z0 o k gh A below args s 0 0) (gp_isChanged_56 gh A k19 M x2 x3 x4 x6 s0) 56 [some (.ref o), none, some (.int x2), some (.int x3), some (.int x4), none, some (.int x6)] [.int (rv_i s0)] (gh, M, A) := by
  intro M x2 x3 x4 x6 s0
  unfold gp_isChanged_56
  refine rv_istore (q := 58) (lv' := [_, _, _, _, _, _, _]) E.x dL_isChanged_56 (Nat.le_of_ble_eq_true rfl) rfl rfl rfl ?_
  refine rv_iinc (q := 61) (lv' := [_, _, _, _, _, _, _]) E.x dL_isChanged_58 rv_ki1 rfl rfl rfl rfl ?_
  refine rv_goto (q := 19) E.x dL_isChanged_61 (by decide) ?_
  refine rv_wk [true, false, true, true, true, true, true] ?_
  exact h19 M x2 x3 x4 s0 (x6 + 1)
set_option maxRecDepth 100000 in
theorem bp_isChanged_51 {p : Program} {l : Launch} {e : Env} {s : State} {m : MethodId} {args : Array Value} {below : List Frame} {meth : Method} {c : Code} {D : va_G} {cI cZ cO : ClassId} {mi de z0 o b L : Nat} {k : Nat → Nat} {xs : Nat → Int32} (E : lk_E D cI cZ cO mi de z0 b L k xs cL_isChanged 7 (some .boolean) p l s m args meth c) (gh : rC_gh) (A : rv_Mem) (k19 : rv_Mem → Int32 → Int32 → Int32 → Bool → Int32 → Option (Bool × rv_Mem)) (h19 : ∀ (M : rv_Mem) (x2 : Int32) (x3 : Int32) (x4 : Int32) (x5 : Bool) (x6 : Int32), rv_M (lk_G D cI cZ cO de z0 o k) (fun q => z0 ≤ q) p l e rmp_isChanged s m args below meth c 0 0 (lk_qRZ D cI cZ cO de z0 o k gh A below args s 0 0) (k19 M x2 x3 x4 x5 x6) 19 [some (.ref o), none, some (.int x2), some (.int x3), some (.int x4), some (.int (rv_i x5)), some (.int x6)] [] (gh, M, A)) : ∀ (M : rv_Mem) (x2 : Int32) (x3 : Int32) (x4 : Int32) (x6 : Int32), rv_M (lk_G D cI cZ cO de z0 o k) (fun q => z0 ≤ q) p l e rmp_isChanged s m args below meth c 0 0 (lk_qRZ D cI cZ cO de z0 o k gh A below args s 0 0) (gp_isChanged_51 gh A k19 M x2 x3 x4 x6) 51 [some (.ref o), none, some (.int x2), some (.int x3), some (.int x4), none, some (.int x6)] [] (gh, M, A) := by
  intro M x2 x3 x4 x6
  unfold gp_isChanged_51
  refine rv_iconst (q := 52) E.x dL_isChanged_51 rv_ki1 rfl ?_
  refine rv_goto (q := 56) E.x dL_isChanged_52 (by decide) ?_
  refine rv_wk [true, false, true, true, true, false, true] ?_
  exact bp_isChanged_56 E gh A k19 h19 M x2 x3 x4 x6 true
set_option maxRecDepth 100000 in
theorem bp_isChanged_19_s {p : Program} {l : Launch} {e : Env} {s : State} {m : MethodId} {args : Array Value} {below : List Frame} {meth : Method} {c : Code} {D : va_G} {cI cZ cO : ClassId} {mi de z0 o b L : Nat} {k : Nat → Nat} {xs : Nat → Int32} (E : lk_E D cI cZ cO mi de z0 b L k xs cL_isChanged 7 (some .boolean) p l s m args meth c) (gh : rC_gh) (A : rv_Mem)   (k19 : rv_Mem → Int32 → Int32 → Int32 → Bool → Int32 → Option (Bool × rv_Mem)) (h19 : ∀ (M : rv_Mem) (x2 : Int32) (x3 : Int32) (x4 : Int32) (x5 : Bool) (x6 : Int32), rv_M (lk_G D cI cZ cO de z0 o k) (fun q => z0 ≤ q) p l e rmp_isChanged s m args below meth c 0 0 (lk_qRZ D cI cZ cO de z0 o k gh A below args s 0 0) (k19 M x2 x3 x4 x5 x6) 19 [some (.ref o), none, some (.int x2), some (.int x3), some (.int x4), some (.int (rv_i x5)), some (.int x6)] [] (gh, M, A)) : ∀ (M : rv_Mem) (x2 : Int32) (x3 : Int32) (x4 : Int32) (x5 : Bool) (x6 : Int32), rv_M (lk_G D cI cZ cO de z0 o k) (fun q => z0 ≤ q) p l e rmp_isChanged s m args below meth c 0 0 (lk_qRZ D cI cZ cO de z0 o k gh A below args s 0 0) (gp_isChanged_19_s gh A k19 M x2 x3 x4 x5 x6) 19 [some (.ref o), none, some (.int x2), some (.int x3), some (.int x4), some (.int (rv_i x5)), some (.int x6)] [] (gh, M, A) := by
  intro M x2 x3 x4 x5 x6
  unfold gp_isChanged_19_s
  refine rv_iload (q := 21) E.x dL_isChanged_19 rfl rfl ?_
  refine rv_bipush (q := 23) E.x dL_isChanged_21 rv_kb10 rfl ?_
  refine rv_icmp_ge (q := 26) (tgt := 64) E.x dL_isChanged_23 (by decide) rfl ?_ ?_
  · refine rv_iload (q := 28) E.x dL_isChanged_26 rfl rfl ?_
    refine rv_ifz_ne (q := 31) (tgt := 51) E.x dL_isChanged_28 (by decide) rfl ?_ ?_
    · refine rv_aload_n (q := 32) E.x dL_isChanged_31 rfl rfl ?_
      refine rv_iload_n (q := 33) E.x dL_isChanged_32 rfl rfl ?_
      refine rv_iload_n (q := 34) E.x dL_isChanged_33 rfl rfl ?_
      refine rv_iload (q := 36) E.x dL_isChanged_34 rfl rfl ?_
      refine lk_x1r (fun r2 e1 => ?_) (fun w3 e4 => rv_stuck)
      refine lk_ci (q := 39) (v := r2) (M1 := M) E (fun u hI _ => c11_line E.2.2.1.1 hI e1) gP_112 hX11_line ⟨rfl, rfl⟩ ⟨Nat.le_of_ble_eq_true rfl, Nat.le_of_ble_eq_true rfl⟩ ⟨Nat.le_of_ble_eq_true rfl, Nat.le_of_ble_eq_true rfl⟩ rfl rfl rfl (Nat.le_of_ble_eq_true rfl) dL_isChanged_36 rfl ?_
      refine rv_aload_n (q := 40) E.x dL_isChanged_39 rfl rfl ?_
      refine rv_iload (q := 42) E.x dL_isChanged_40 rfl rfl ?_
      refine rv_iload_n (q := 43) E.x dL_isChanged_42 rfl rfl ?_
      refine rv_iload (q := 45) E.x dL_isChanged_43 rfl rfl ?_
      refine lk_x1r (fun r6 e5 => ?_) (fun w7 e8 => rv_stuck)
      refine lk_ci (q := 48) (v := r6) (M1 := M) E (fun u hI _ => c11_line E.2.2.1.1 hI e5) gP_112 hX11_line ⟨rfl, rfl⟩ ⟨Nat.le_of_ble_eq_true rfl, Nat.le_of_ble_eq_true rfl⟩ ⟨Nat.le_of_ble_eq_true rfl, Nat.le_of_ble_eq_true rfl⟩ rfl rfl rfl (Nat.le_of_ble_eq_true rfl) dL_isChanged_45 rfl ?_
      refine rv_icmp_eq (q := 51) (tgt := 55) E.x dL_isChanged_48 (by decide) rfl ?_ ?_
      · refine rv_wk [true, false, true, true, true, false, true] ?_
        exact bp_isChanged_51 E gh A k19 h19 M x2 x3 x4 x6
      · refine rv_iconst (q := 56) E.x dL_isChanged_55 rv_ki0 rfl ?_
        refine rv_wk [true, false, true, true, true, false, true] ?_
        exact bp_isChanged_56 E gh A k19 h19 M x2 x3 x4 x6 false
    · refine rv_wk [true, false, true, true, true, false, true] ?_
      exact bp_isChanged_51 E gh A k19 h19 M x2 x3 x4 x6
  · refine rv_iload (q := 66) E.x dL_isChanged_64 rfl rfl ?_
    exact lk_zret E x5 rfl ⟨Nat.le_of_ble_eq_true rfl, Nat.le_of_ble_eq_true rfl⟩ dL_isChanged_66
theorem bp_isChanged_19 {p : Program} {l : Launch} {e : Env} {s : State} {m : MethodId} {args : Array Value} {below : List Frame} {meth : Method} {c : Code} {D : va_G} {cI cZ cO : ClassId} {mi de z0 o b L : Nat} {k : Nat → Nat} {xs : Nat → Int32} (E : lk_E D cI cZ cO mi de z0 b L k xs cL_isChanged 7 (some .boolean) p l s m args meth c) (gh : rC_gh) (A : rv_Mem)   : ∀ (n : Nat), ∀ (M : rv_Mem) (x2 : Int32) (x3 : Int32) (x4 : Int32) (x5 : Bool) (x6 : Int32), rv_M (lk_G D cI cZ cO de z0 o k) (fun q => z0 ≤ q) p l e rmp_isChanged s m args below meth c 0 0 (lk_qRZ D cI cZ cO de z0 o k gh A below args s 0 0) (gp_isChanged_19 gh A n M x2 x3 x4 x5 x6) 19 [some (.ref o), none, some (.int x2), some (.int x3), some (.int x4), some (.int (rv_i x5)), some (.int x6)] [] (gh, M, A) := by
  intro n
  induction n with
  | zero => exact fun _ _ _ _ _ _ => rv_stuck
  | succ n ih => exact bp_isChanged_19_s E gh A (gp_isChanged_19 gh A n) ih
set_option maxRecDepth 100000 in
theorem bp_isChanged {p : Program} {l : Launch} {e : Env} {s : State} {m : MethodId} {args : Array Value} {below : List Frame} {meth : Method} {c : Code} {D : va_G} {cI cZ cO : ClassId} {mi de z0 o b L : Nat} {k : Nat → Nat} {xs : Nat → Int32} (E : lk_E D cI cZ cO mi de z0 b L k xs cL_isChanged 7 (some .boolean) p l s m args meth c) (gh : rC_gh) (M A : rv_Mem) (a2 : Int32) (a3 : Int32) : rv_M (lk_G D cI cZ cO de z0 o k) (fun q => z0 ≤ q) p l e rmp_isChanged s m args below meth c 0 0 (lk_qRZ D cI cZ cO de z0 o k gh A below args s 0 0) (gp_isChanged gh M A a2 a3) 0 [some (.ref o), some (.int a2), some (.int a3), none, none, none, none] [] (gh, M, A) := by
  unfold gp_isChanged
  refine rv_aload_n (q := 1) E.x dL_isChanged_0 rfl rfl ?_
  refine rv_iload_n (q := 2) E.x dL_isChanged_1 rfl rfl ?_
  refine rv_b2 (fun r2 M3 e1 => ?_)
  refine lk_cs0 (q := 5) (v := r2) (σ' := (gh, M3, A)) E (wP_now E.2.2.1 e1) gPs_222 hP_now ⟨rfl, rfl⟩ ⟨Nat.le_of_ble_eq_true rfl, Nat.le_of_ble_eq_true rfl⟩ ⟨Nat.le_of_ble_eq_true rfl, Nat.le_of_ble_eq_true rfl⟩ rfl rfl rfl (Nat.le_of_ble_eq_true rfl) dL_isChanged_2 rfl ?_
  refine rv_istore_n (q := 6) (lv' := [_, _, _, _, _, _, _]) E.x dL_isChanged_5 (Nat.le_of_ble_eq_true rfl) rfl rfl rfl ?_
  refine rv_aload_n (q := 7) E.x dL_isChanged_6 rfl rfl ?_
  refine rv_iload_n (q := 8) E.x dL_isChanged_7 rfl rfl ?_
  refine lk_x1r (fun r5 e4 => ?_) (fun w6 e7 => rv_stuck)
  refine lk_ci (q := 11) (v := r5) (M1 := M3) E (fun u hI _ => c11_before E.2.2.1.1 hI e4) gP_115 hX11_before ⟨rfl, rfl⟩ ⟨Nat.le_of_ble_eq_true rfl, Nat.le_of_ble_eq_true rfl⟩ ⟨Nat.le_of_ble_eq_true rfl, Nat.le_of_ble_eq_true rfl⟩ rfl rfl rfl (Nat.le_of_ble_eq_true rfl) dL_isChanged_8 rfl ?_
  refine rv_istore (q := 13) (lv' := [_, _, _, _, _, _, _]) E.x dL_isChanged_11 (Nat.le_of_ble_eq_true rfl) rfl rfl rfl ?_
  refine rv_iconst (q := 14) E.x dL_isChanged_13 rv_ki0 rfl ?_
  refine rv_istore (q := 16) (lv' := [_, _, _, _, _, _, _]) E.x dL_isChanged_14 (Nat.le_of_ble_eq_true rfl) rfl rfl rfl ?_
  refine rv_iconst (q := 17) E.x dL_isChanged_16 rv_ki0 rfl ?_
  refine rv_istore (q := 19) (lv' := [_, _, _, _, _, _, _]) E.x dL_isChanged_17 (Nat.le_of_ble_eq_true rfl) rfl rfl rfl ?_
  refine rv_wk [true, false, true, true, true, true, true] ?_
  exact bp_isChanged_19 E gh A rv_FU M3 a3 r2 r5 false 0
theorem wP_isChanged {l : Launch} {D : va_G} {cI cZ cO : ClassId} {mi de z0 o b L : Nat} {k : Nat → Nat} {xs : Nat → Int32} (S : lk_S l de z0 b k) {gh : rC_gh} {M A : rv_Mem} {a2 : Int32} {a3 : Int32} {r : Bool} {M1 : rv_Mem} (h : gp_isChanged gh M A a2 a3 = some (r, M1)) : Met l yL_isChanged (rv_ws yL_isChanged cL_isChanged 7 (some .boolean)) rmp_isChanged (va_Pc [.ref o, .int a2, .int a3] (lk_P D cI cZ cO mi de z0 o b L k xs (gh, M, A))) (lk_qi D cI cZ cO de z0 o k (rv_i r) (gh, M1, A)) 0 0 (fun q => z0 ≤ q) := lk_met S rfl (Nat.le_of_ble_eq_true rfl) (fun p e s m args below meth c E => ⟨(lk_qRZ D cI cZ cO de z0 o k gh A below args s 0 0), rfl, bp_isChanged E gh M A a2 a3⟩) h
abbrev rmp_repo : Room := { frames := 9, cells := 0, slots := 0, locals := 163 }
set_option maxRecDepth 100000 in
theorem bp_repo_2_s {p : Program} {l : Launch} {e : Env} {s : State} {m : MethodId} {args : Array Value} {below : List Frame} {meth : Method} {c : Code} {D : va_G} {cI cZ cO : ClassId} {mi de z0 o b L : Nat} {k : Nat → Nat} {xs : Nat → Int32} (E : lk_E D cI cZ cO mi de z0 b L k xs cL_repo 3 (some .int) p l s m args meth c) (gh : rC_gh) (A : rv_Mem)   (k2 : rv_Mem → Int32 → Option (Int32 × rv_Mem)) (h2 : ∀ (M : rv_Mem) (x2 : Int32), rv_M (lk_G D cI cZ cO de z0 o k) (fun q => z0 ≤ q) p l e rmp_repo s m args below meth c 0 0 (lk_qRI D cI cZ cO de z0 o k gh A below args s 0 0) (k2 M x2) 2 [some (.ref o), none, some (.int x2)] [] (gh, M, A)) : ∀ (M : rv_Mem) (x2 : Int32), rv_M (lk_G D cI cZ cO de z0 o k) (fun q => z0 ≤ q) p l e rmp_repo s m args below meth c 0 0 (lk_qRI D cI cZ cO de z0 o k gh A below args s 0 0) (gp_repo_2_s gh A k2 M x2) 2 [some (.ref o), none, some (.int x2)] [] (gh, M, A) := by
  intro M x2
  unfold gp_repo_2_s
  refine rv_aload_n (q := 3) E.x dL_repo_2 rfl rfl ?_
  refine rv_iload_n (q := 4) E.x dL_repo_3 rfl rfl ?_
  refine lk_x1r (fun r2 e1 => ?_) (fun w3 e4 => rv_stuck)
  refine lk_ci (q := 7) (v := r2) (M1 := M) E (fun u hI _ => c11_before E.2.2.1.1 hI e1) gP_115 hX11_before ⟨rfl, rfl⟩ ⟨Nat.le_of_ble_eq_true rfl, Nat.le_of_ble_eq_true rfl⟩ ⟨Nat.le_of_ble_eq_true rfl, Nat.le_of_ble_eq_true rfl⟩ rfl rfl rfl (Nat.le_of_ble_eq_true rfl) dL_repo_4 rfl ?_
  refine rv_if_lt (q := 10) (tgt := 19) E.x dL_repo_7 (by decide) rfl ?_ ?_
  · refine rv_aload_n (q := 11) E.x dL_repo_10 rfl rfl ?_
    refine rv_iload_n (q := 12) E.x dL_repo_11 rfl rfl ?_
    refine lk_x1r (fun r6 e5 => ?_) (fun w7 e8 => rv_stuck)
    refine lk_ci (q := 15) (v := r6) (M1 := M) E (fun u hI _ => c11_before E.2.2.1.1 hI e5) gP_115 hX11_before ⟨rfl, rfl⟩ ⟨Nat.le_of_ble_eq_true rfl, Nat.le_of_ble_eq_true rfl⟩ ⟨Nat.le_of_ble_eq_true rfl, Nat.le_of_ble_eq_true rfl⟩ rfl rfl rfl (Nat.le_of_ble_eq_true rfl) dL_repo_12 rfl ?_
    refine rv_istore_n (q := 16) (lv' := [_, _, _]) E.x dL_repo_15 (Nat.le_of_ble_eq_true rfl) rfl rfl rfl ?_
    refine rv_goto (q := 2) E.x dL_repo_16 (by decide) ?_
    refine rv_wk [true, false, true] ?_
    exact h2 M r6
  · refine rv_iload_n (q := 20) E.x dL_repo_19 rfl rfl ?_
    exact lk_iret E rfl ⟨Nat.le_of_ble_eq_true rfl, Nat.le_of_ble_eq_true rfl⟩ dL_repo_20
theorem bp_repo_2 {p : Program} {l : Launch} {e : Env} {s : State} {m : MethodId} {args : Array Value} {below : List Frame} {meth : Method} {c : Code} {D : va_G} {cI cZ cO : ClassId} {mi de z0 o b L : Nat} {k : Nat → Nat} {xs : Nat → Int32} (E : lk_E D cI cZ cO mi de z0 b L k xs cL_repo 3 (some .int) p l s m args meth c) (gh : rC_gh) (A : rv_Mem)   : ∀ (n : Nat), ∀ (M : rv_Mem) (x2 : Int32), rv_M (lk_G D cI cZ cO de z0 o k) (fun q => z0 ≤ q) p l e rmp_repo s m args below meth c 0 0 (lk_qRI D cI cZ cO de z0 o k gh A below args s 0 0) (gp_repo_2 gh A n M x2) 2 [some (.ref o), none, some (.int x2)] [] (gh, M, A) := by
  intro n
  induction n with
  | zero => exact fun _ _ => rv_stuck
  | succ n ih => exact bp_repo_2_s E gh A (gp_repo_2 gh A n) ih
set_option maxRecDepth 100000 in
theorem bp_repo {p : Program} {l : Launch} {e : Env} {s : State} {m : MethodId} {args : Array Value} {below : List Frame} {meth : Method} {c : Code} {D : va_G} {cI cZ cO : ClassId} {mi de z0 o b L : Nat} {k : Nat → Nat} {xs : Nat → Int32} (E : lk_E D cI cZ cO mi de z0 b L k xs cL_repo 3 (some .int) p l s m args meth c) (gh : rC_gh) (M A : rv_Mem) (a2 : Int32) : rv_M (lk_G D cI cZ cO de z0 o k) (fun q => z0 ≤ q) p l e rmp_repo s m args below meth c 0 0 (lk_qRI D cI cZ cO de z0 o k gh A below args s 0 0) (gp_repo gh M A a2) 0 [some (.ref o), some (.int a2), none] [] (gh, M, A) := by
  unfold gp_repo
  refine rv_iload_n (q := 1) E.x dL_repo_0 rfl rfl ?_
  refine rv_istore_n (q := 2) (lv' := [_, _, _]) E.x dL_repo_1 (Nat.le_of_ble_eq_true rfl) rfl rfl rfl ?_
  refine rv_wk [true, false, true] ?_
  exact bp_repo_2 E gh A rv_FU M a2
theorem wP_repo {l : Launch} {D : va_G} {cI cZ cO : ClassId} {mi de z0 o b L : Nat} {k : Nat → Nat} {xs : Nat → Int32} (S : lk_S l de z0 b k) {gh : rC_gh} {M A : rv_Mem} {a2 : Int32} {r : Int32} {M1 : rv_Mem} (h : gp_repo gh M A a2 = some (r, M1)) : Met l yL_repo (rv_ws yL_repo cL_repo 3 (some .int)) rmp_repo (va_Pc [.ref o, .int a2] (lk_P D cI cZ cO mi de z0 o b L k xs (gh, M, A))) (lk_qi D cI cZ cO de z0 o k r (gh, M1, A)) 0 0 (fun q => z0 ≤ q) := lk_met S rfl (Nat.le_of_ble_eq_true rfl) (fun p e s m args below meth c E => ⟨(lk_qRI D cI cZ cO de z0 o k gh A below args s 0 0), rfl, bp_repo E gh M A a2⟩) h
abbrev rmp_areFacts : Room := { frames := 10, cells := 0, slots := 0, locals := 194 }
set_option maxRecDepth 100000 in
theorem bp_areFacts_117 {p : Program} {l : Launch} {e : Env} {s : State} {m : MethodId} {args : Array Value} {below : List Frame} {meth : Method} {c : Code} {D : va_G} {cI cZ cO : ClassId} {mi de z0 o b L : Nat} {k : Nat → Nat} {xs : Nat → Int32} (E : lk_E D cI cZ cO mi de z0 b L k xs cL_areFacts 17 (some .boolean) p l s m args meth c) (gh : rC_gh) (A : rv_Mem) (k23 : rv_Mem → Int32 → Int32 → Int32 → Int32 → Int32 → Int32 → Int32 → Option (Bool × rv_Mem)) (h23 : ∀ (M : rv_Mem) (x2 : Int32) (x3 : Int32) (x4 : Int32) (x5 : Int32) (x6 : Int32) (x7 : Int32) (x8 : Int32), rv_M (lk_G D cI cZ cO de z0 o k) (fun q => z0 ≤ q) p l e rmp_areFacts s m args below meth c 0 0 (lk_qRZ D cI cZ cO de z0 o k gh A below args s 0 0) (k23 M x2 x3 x4 x5 x6 x7 x8) 23 [some (.ref o), some (.ref (k 0)), some (.int x2), some (.int x3), some (.int x4), some (.int x5), some (.int x6), some (.int x7), some (.int x8), none, none, none, none, none, none, none, none] [] (gh, M, A)) : ∀ (M : rv_Mem) (x2 : Int32) (x3 : Int32) (x4 : Int32) (x5 : Int32) (x7 : Int32) (x8 : Int32) (s0 : Int32) (s1 : Bool), rv_M (lk_G D cI cZ cO de z0 o k) (fun q => z0 ≤ q) p l e rmp_areFacts s m args below meth c 0 0 (lk_qRZ D cI cZ cO de z0 o k gh A below args s 0 0) (gp_areFacts_117 gh A k23 M x2 x3 x4 x5 x7 x8 s0 s1) 117 [some (.ref o), some (.ref (k 0)), some (.int x2), some (.int x3), some (.int x4), some (.int x5), none, some (.int x7), some (.int x8), none, none, none, none, none, none, none, none] [.int (rv_i s1), .int s0] (gh, M, A) := by
  intro M x2 x3 x4 x5 x7 x8 s0 s1
  unfold gp_areFacts_117
  refine rv_iadd (q := 118) E.x dL_areFacts_117 rfl ?_
  refine rv_istore (q := 120) (lv' := [_, _, _, _, _, _, _, _, _, _, _, _, _, _, _, _, _]) E.x dL_areFacts_118 (Nat.le_of_ble_eq_true rfl) rfl rfl rfl ?_
  refine rv_iinc (q := 123) (lv' := [_, _, _, _, _, _, _, _, _, _, _, _, _, _, _, _, _]) E.x dL_areFacts_120 rv_ki1 rfl rfl rfl rfl ?_
  refine rv_goto (q := 23) E.x dL_areFacts_123 (by decide) ?_
  refine rv_wk [true, true, true, true, true, true, true, true, true, false, false, false, false, false, false, false, false] ?_
  exact h23 M x2 x3 x4 x5 (s0 + (rv_i s1)) x7 (x8 + 1)
set_option maxRecDepth 100000 in
theorem bp_areFacts_101 {p : Program} {l : Launch} {e : Env} {s : State} {m : MethodId} {args : Array Value} {below : List Frame} {meth : Method} {c : Code} {D : va_G} {cI cZ cO : ClassId} {mi de z0 o b L : Nat} {k : Nat → Nat} {xs : Nat → Int32} (E : lk_E D cI cZ cO mi de z0 b L k xs cL_areFacts 17 (some .boolean) p l s m args meth c) (gh : rC_gh) (A : rv_Mem) (k23 : rv_Mem → Int32 → Int32 → Int32 → Int32 → Int32 → Int32 → Int32 → Option (Bool × rv_Mem)) (h23 : ∀ (M : rv_Mem) (x2 : Int32) (x3 : Int32) (x4 : Int32) (x5 : Int32) (x6 : Int32) (x7 : Int32) (x8 : Int32), rv_M (lk_G D cI cZ cO de z0 o k) (fun q => z0 ≤ q) p l e rmp_areFacts s m args below meth c 0 0 (lk_qRZ D cI cZ cO de z0 o k gh A below args s 0 0) (k23 M x2 x3 x4 x5 x6 x7 x8) 23 [some (.ref o), some (.ref (k 0)), some (.int x2), some (.int x3), some (.int x4), some (.int x5), some (.int x6), some (.int x7), some (.int x8), none, none, none, none, none, none, none, none] [] (gh, M, A)) : ∀ (M : rv_Mem) (x2 : Int32) (x3 : Int32) (x4 : Int32) (x6 : Int32) (x7 : Int32) (x8 : Int32) (x10 : Int32) (s0 : Int32) (s1 : Bool), rv_M (lk_G D cI cZ cO de z0 o k) (fun q => z0 ≤ q) p l e rmp_areFacts s m args below meth c 0 0 (lk_qRZ D cI cZ cO de z0 o k gh A below args s 0 0) (gp_areFacts_101 gh A k23 M x2 x3 x4 x6 x7 x8 x10 s0 s1) 101 [some (.ref o), some (.ref (k 0)), some (.int x2), some (.int x3), some (.int x4), none, some (.int x6), some (.int x7), some (.int x8), none, some (.int x10), none, none, none, none, none, none] [.int (rv_i s1), .int s0] (gh, M, A) := by
  intro M x2 x3 x4 x6 x7 x8 x10 s0 s1
  unfold gp_areFacts_101
  refine rv_iadd (q := 102) E.x dL_areFacts_101 rfl ?_
  refine rv_istore (q := 104) (lv' := [_, _, _, _, _, _, _, _, _, _, _, _, _, _, _, _, _]) E.x dL_areFacts_102 (Nat.le_of_ble_eq_true rfl) rfl rfl rfl ?_
  refine rv_iload (q := 106) E.x dL_areFacts_104 rfl rfl ?_
  refine rv_iload (q := 108) E.x dL_areFacts_106 rfl rfl ?_
  refine rv_iconst (q := 109) E.x dL_areFacts_108 rv_kim1 rfl ?_
  refine rv_icmp_ne (q := 112) (tgt := 116) E.x dL_areFacts_109 (by decide) rfl ?_ ?_
  · refine rv_iconst (q := 113) E.x dL_areFacts_112 rv_ki1 rfl ?_
    refine rv_goto (q := 117) E.x dL_areFacts_113 (by decide) ?_
    refine rv_wk [true, true, true, true, true, true, false, true, true, false, false, false, false, false, false, false, false] ?_
    exact bp_areFacts_117 E gh A k23 h23 M x2 x3 x4 (s0 + (rv_i s1)) x7 x8 x6 true
  · refine rv_iconst (q := 117) E.x dL_areFacts_116 rv_ki0 rfl ?_
    refine rv_wk [true, true, true, true, true, true, false, true, true, false, false, false, false, false, false, false, false] ?_
    exact bp_areFacts_117 E gh A k23 h23 M x2 x3 x4 (s0 + (rv_i s1)) x7 x8 x6 false
set_option maxRecDepth 100000 in
theorem bp_areFacts_85 {p : Program} {l : Launch} {e : Env} {s : State} {m : MethodId} {args : Array Value} {below : List Frame} {meth : Method} {c : Code} {D : va_G} {cI cZ cO : ClassId} {mi de z0 o b L : Nat} {k : Nat → Nat} {xs : Nat → Int32} (E : lk_E D cI cZ cO mi de z0 b L k xs cL_areFacts 17 (some .boolean) p l s m args meth c) (gh : rC_gh) (A : rv_Mem) (k23 : rv_Mem → Int32 → Int32 → Int32 → Int32 → Int32 → Int32 → Int32 → Option (Bool × rv_Mem)) (h23 : ∀ (M : rv_Mem) (x2 : Int32) (x3 : Int32) (x4 : Int32) (x5 : Int32) (x6 : Int32) (x7 : Int32) (x8 : Int32), rv_M (lk_G D cI cZ cO de z0 o k) (fun q => z0 ≤ q) p l e rmp_areFacts s m args below meth c 0 0 (lk_qRZ D cI cZ cO de z0 o k gh A below args s 0 0) (k23 M x2 x3 x4 x5 x6 x7 x8) 23 [some (.ref o), some (.ref (k 0)), some (.int x2), some (.int x3), some (.int x4), some (.int x5), some (.int x6), some (.int x7), some (.int x8), none, none, none, none, none, none, none, none] [] (gh, M, A)) : ∀ (M : rv_Mem) (x2 : Int32) (x3 : Int32) (x5 : Int32) (x6 : Int32) (x7 : Int32) (x8 : Int32) (x10 : Int32) (s0 : Int32) (s1 : Bool), rv_M (lk_G D cI cZ cO de z0 o k) (fun q => z0 ≤ q) p l e rmp_areFacts s m args below meth c 0 0 (lk_qRZ D cI cZ cO de z0 o k gh A below args s 0 0) (gp_areFacts_85 gh A k23 M x2 x3 x5 x6 x7 x8 x10 s0 s1) 85 [some (.ref o), some (.ref (k 0)), some (.int x2), some (.int x3), none, some (.int x5), some (.int x6), some (.int x7), some (.int x8), none, some (.int x10), none, none, none, none, none, none] [.int (rv_i s1), .int s0] (gh, M, A) := by
  intro M x2 x3 x5 x6 x7 x8 x10 s0 s1
  unfold gp_areFacts_85
  refine rv_iadd (q := 86) E.x dL_areFacts_85 rfl ?_
  refine rv_istore (q := 88) (lv' := [_, _, _, _, _, _, _, _, _, _, _, _, _, _, _, _, _]) E.x dL_areFacts_86 (Nat.le_of_ble_eq_true rfl) rfl rfl rfl ?_
  refine rv_iload (q := 90) E.x dL_areFacts_88 rfl rfl ?_
  refine rv_iload (q := 92) E.x dL_areFacts_90 rfl rfl ?_
  refine rv_iconst (q := 93) E.x dL_areFacts_92 rv_ki1 rfl ?_
  refine rv_icmp_ne (q := 96) (tgt := 100) E.x dL_areFacts_93 (by decide) rfl ?_ ?_
  · refine rv_iconst (q := 97) E.x dL_areFacts_96 rv_ki1 rfl ?_
    refine rv_goto (q := 101) E.x dL_areFacts_97 (by decide) ?_
    refine rv_wk [true, true, true, true, true, false, true, true, true, false, true, false, false, false, false, false, false] ?_
    exact bp_areFacts_101 E gh A k23 h23 M x2 x3 (s0 + (rv_i s1)) x6 x7 x8 x10 x5 true
  · refine rv_iconst (q := 101) E.x dL_areFacts_100 rv_ki0 rfl ?_
    refine rv_wk [true, true, true, true, true, false, true, true, true, false, true, false, false, false, false, false, false] ?_
    exact bp_areFacts_101 E gh A k23 h23 M x2 x3 (s0 + (rv_i s1)) x6 x7 x8 x10 x5 false
set_option maxRecDepth 100000 in
theorem bp_areFacts_69 {p : Program} {l : Launch} {e : Env} {s : State} {m : MethodId} {args : Array Value} {below : List Frame} {meth : Method} {c : Code} {D : va_G} {cI cZ cO : ClassId} {mi de z0 o b L : Nat} {k : Nat → Nat} {xs : Nat → Int32} (E : lk_E D cI cZ cO mi de z0 b L k xs cL_areFacts 17 (some .boolean) p l s m args meth c) (gh : rC_gh) (A : rv_Mem) (k23 : rv_Mem → Int32 → Int32 → Int32 → Int32 → Int32 → Int32 → Int32 → Option (Bool × rv_Mem)) (h23 : ∀ (M : rv_Mem) (x2 : Int32) (x3 : Int32) (x4 : Int32) (x5 : Int32) (x6 : Int32) (x7 : Int32) (x8 : Int32), rv_M (lk_G D cI cZ cO de z0 o k) (fun q => z0 ≤ q) p l e rmp_areFacts s m args below meth c 0 0 (lk_qRZ D cI cZ cO de z0 o k gh A below args s 0 0) (k23 M x2 x3 x4 x5 x6 x7 x8) 23 [some (.ref o), some (.ref (k 0)), some (.int x2), some (.int x3), some (.int x4), some (.int x5), some (.int x6), some (.int x7), some (.int x8), none, none, none, none, none, none, none, none] [] (gh, M, A)) : ∀ (M : rv_Mem) (x2 : Int32) (x4 : Int32) (x5 : Int32) (x6 : Int32) (x7 : Int32) (x8 : Int32) (x9 : Int32) (x10 : Int32) (s0 : Int32) (s1 : Int32), rv_M (lk_G D cI cZ cO de z0 o k) (fun q => z0 ≤ q) p l e rmp_areFacts s m args below meth c 0 0 (lk_qRZ D cI cZ cO de z0 o k gh A below args s 0 0) (gp_areFacts_69 gh A k23 M x2 x4 x5 x6 x7 x8 x9 x10 s0 s1) 69 [some (.ref o), some (.ref (k 0)), some (.int x2), none, some (.int x4), some (.int x5), some (.int x6), some (.int x7), some (.int x8), some (.int x9), some (.int x10), none, none, none, none, none, none] [.int s1, .int s0] (gh, M, A) := by
  intro M x2 x4 x5 x6 x7 x8 x9 x10 s0 s1
  unfold gp_areFacts_69
  refine rv_ior (q := 70) E.x dL_areFacts_69 rfl ?_
  refine rv_istore_n (q := 71) (lv' := [_, _, _, _, _, _, _, _, _, _, _, _, _, _, _, _, _]) E.x dL_areFacts_70 (Nat.le_of_ble_eq_true rfl) rfl rfl rfl ?_
  refine rv_iload (q := 73) E.x dL_areFacts_71 rfl rfl ?_
  refine rv_iload (q := 75) E.x dL_areFacts_73 rfl rfl ?_
  refine rv_bipush (q := 77) E.x dL_areFacts_75 rv_kbm2 rfl ?_
  refine rv_icmp_ne (q := 80) (tgt := 84) E.x dL_areFacts_77 (by decide) rfl ?_ ?_
  · refine rv_iconst (q := 81) E.x dL_areFacts_80 rv_ki1 rfl ?_
    refine rv_goto (q := 85) E.x dL_areFacts_81 (by decide) ?_
    refine rv_wk [true, true, true, true, false, true, true, true, true, false, true, false, false, false, false, false, false] ?_
    exact bp_areFacts_85 E gh A k23 h23 M x2 (s0 ||| s1) x5 x6 x7 x8 x10 x4 true
  · refine rv_iconst (q := 85) E.x dL_areFacts_84 rv_ki0 rfl ?_
    refine rv_wk [true, true, true, true, false, true, true, true, true, false, true, false, false, false, false, false, false] ?_
    exact bp_areFacts_85 E gh A k23 h23 M x2 (s0 ||| s1) x5 x6 x7 x8 x10 x4 false
set_option maxRecDepth 100000 in
theorem bp_areFacts_205 {p : Program} {l : Launch} {e : Env} {s : State} {m : MethodId} {args : Array Value} {below : List Frame} {meth : Method} {c : Code} {D : va_G} {cI cZ cO : ClassId} {mi de z0 o b L : Nat} {k : Nat → Nat} {xs : Nat → Int32} (E : lk_E D cI cZ cO mi de z0 b L k xs cL_areFacts 17 (some .boolean) p l s m args meth c) (gh : rC_gh) (A : rv_Mem) (k151 : rv_Mem → Int32 → Int32 → Int32 → Int32 → Int32 → Int32 → Int32 → Int32 → Int32 → Option (Bool × rv_Mem)) (k165 : rv_Mem → Int32 → Int32 → Int32 → Int32 → Int32 → Int32 → Int32 → Int32 → Int32 → Bool → Int32 → Option (Bool × rv_Mem)) (h151 : ∀ (M : rv_Mem) (x2 : Int32) (x3 : Int32) (x4 : Int32) (x5 : Int32) (x6 : Int32) (x8 : Int32) (x10 : Int32) (x11 : Int32) (x12 : Int32), rv_M (lk_G D cI cZ cO de z0 o k) (fun q => z0 ≤ q) p l e rmp_areFacts s m args below meth c 0 0 (lk_qRZ D cI cZ cO de z0 o k gh A below args s 0 0) (k151 M x2 x3 x4 x5 x6 x8 x10 x11 x12) 151 [some (.ref o), some (.ref (k 0)), some (.int x2), some (.int x3), some (.int x4), some (.int x5), some (.int x6), none, some (.int x8), some (.int 1), some (.int x10), some (.int x11), some (.int x12), none, none, none, none] [] (gh, M, A)) (h165 : ∀ (M : rv_Mem) (x2 : Int32) (x3 : Int32) (x4 : Int32) (x5 : Int32) (x6 : Int32) (x8 : Int32) (x10 : Int32) (x11 : Int32) (x12 : Int32) (x13 : Bool) (x15 : Int32), rv_M (lk_G D cI cZ cO de z0 o k) (fun q => z0 ≤ q) p l e rmp_areFacts s m args below meth c 0 0 (lk_qRZ D cI cZ cO de z0 o k gh A below args s 0 0) (k165 M x2 x3 x4 x5 x6 x8 x10 x11 x12 x13 x15) 165 [some (.ref o), some (.ref (k 0)), some (.int x2), some (.int x3), some (.int x4), some (.int x5), some (.int x6), none, some (.int x8), some (.int 1), some (.int x10), some (.int x11), some (.int x12), some (.int (rv_i x13)), some (.int 0), some (.int x15), none] [] (gh, M, A)) : ∀ (M : rv_Mem) (x2 : Int32) (x3 : Int32) (x4 : Int32) (x5 : Int32) (x6 : Int32) (x8 : Int32) (x10 : Int32) (x11 : Int32) (x12 : Int32) (x15 : Int32) (s0 : Bool), rv_M (lk_G D cI cZ cO de z0 o k) (fun q => z0 ≤ q) p l e rmp_areFacts s m args below meth c 0 0 (lk_qRZ D cI cZ cO de z0 o k gh A below args s 0 0) (gp_areFacts_205 gh A k151 k165 M x2 x3 x4 x5 x6 x8 x10 x11 x12 x15 s0) 205 [some (.ref o), some (.ref (k 0)), some (.int x2), some (.int x3), some (.int x4), some (.int x5), some (.int x6), none, some (.int x8), some (.int 1), some (.int x10), some (.int x11), some (.int x12), none, some (.int 0), some (.int x15), none] [.int (rv_i s0)] (gh, M, A) := by
  intro M x2 x3 x4 x5 x6 x8 x10 x11 x12 x15 s0
  unfold gp_areFacts_205
  refine rv_istore (q := 207) (lv' := [_, _, _, _, _, _, _, _, _, _, _, _, _, _, _, _, _]) E.x dL_areFacts_205 (Nat.le_of_ble_eq_true rfl) rfl rfl rfl ?_
  refine rv_iinc (q := 210) (lv' := [_, _, _, _, _, _, _, _, _, _, _, _, _, _, _, _, _]) E.x dL_areFacts_207 rv_ki1 rfl rfl rfl rfl ?_
  refine rv_goto (q := 165) E.x dL_areFacts_210 (by decide) ?_
  refine rv_wk [true, true, true, true, true, true, true, false, true, true, true, true, true, true, true, true, false] ?_
  exact h165 M x2 x3 x4 x5 x6 x8 x10 x11 x12 s0 (x15 + 1)
set_option maxRecDepth 100000 in
theorem bp_areFacts_200 {p : Program} {l : Launch} {e : Env} {s : State} {m : MethodId} {args : Array Value} {below : List Frame} {meth : Method} {c : Code} {D : va_G} {cI cZ cO : ClassId} {mi de z0 o b L : Nat} {k : Nat → Nat} {xs : Nat → Int32} (E : lk_E D cI cZ cO mi de z0 b L k xs cL_areFacts 17 (some .boolean) p l s m args meth c) (gh : rC_gh) (A : rv_Mem) (k151 : rv_Mem → Int32 → Int32 → Int32 → Int32 → Int32 → Int32 → Int32 → Int32 → Int32 → Option (Bool × rv_Mem)) (k165 : rv_Mem → Int32 → Int32 → Int32 → Int32 → Int32 → Int32 → Int32 → Int32 → Int32 → Bool → Int32 → Option (Bool × rv_Mem)) (h151 : ∀ (M : rv_Mem) (x2 : Int32) (x3 : Int32) (x4 : Int32) (x5 : Int32) (x6 : Int32) (x8 : Int32) (x10 : Int32) (x11 : Int32) (x12 : Int32), rv_M (lk_G D cI cZ cO de z0 o k) (fun q => z0 ≤ q) p l e rmp_areFacts s m args below meth c 0 0 (lk_qRZ D cI cZ cO de z0 o k gh A below args s 0 0) (k151 M x2 x3 x4 x5 x6 x8 x10 x11 x12) 151 [some (.ref o), some (.ref (k 0)), some (.int x2), some (.int x3), some (.int x4), some (.int x5), some (.int x6), none, some (.int x8), some (.int 1), some (.int x10), some (.int x11), some (.int x12), none, none, none, none] [] (gh, M, A)) (h165 : ∀ (M : rv_Mem) (x2 : Int32) (x3 : Int32) (x4 : Int32) (x5 : Int32) (x6 : Int32) (x8 : Int32) (x10 : Int32) (x11 : Int32) (x12 : Int32) (x13 : Bool) (x15 : Int32), rv_M (lk_G D cI cZ cO de z0 o k) (fun q => z0 ≤ q) p l e rmp_areFacts s m args below meth c 0 0 (lk_qRZ D cI cZ cO de z0 o k gh A below args s 0 0) (k165 M x2 x3 x4 x5 x6 x8 x10 x11 x12 x13 x15) 165 [some (.ref o), some (.ref (k 0)), some (.int x2), some (.int x3), some (.int x4), some (.int x5), some (.int x6), none, some (.int x8), some (.int 1), some (.int x10), some (.int x11), some (.int x12), some (.int (rv_i x13)), some (.int 0), some (.int x15), none] [] (gh, M, A)) : ∀ (M : rv_Mem) (x2 : Int32) (x3 : Int32) (x4 : Int32) (x5 : Int32) (x6 : Int32) (x8 : Int32) (x10 : Int32) (x11 : Int32) (x12 : Int32) (x15 : Int32), rv_M (lk_G D cI cZ cO de z0 o k) (fun q => z0 ≤ q) p l e rmp_areFacts s m args below meth c 0 0 (lk_qRZ D cI cZ cO de z0 o k gh A below args s 0 0) (gp_areFacts_200 gh A k151 k165 M x2 x3 x4 x5 x6 x8 x10 x11 x12 x15) 200 [some (.ref o), some (.ref (k 0)), some (.int x2), some (.int x3), some (.int x4), some (.int x5), some (.int x6), none, some (.int x8), some (.int 1), some (.int x10), some (.int x11), some (.int x12), none, some (.int 0), some (.int x15), none] [] (gh, M, A) := by
  intro M x2 x3 x4 x5 x6 x8 x10 x11 x12 x15
  unfold gp_areFacts_200
  refine rv_iconst (q := 201) E.x dL_areFacts_200 rv_ki1 rfl ?_
  refine rv_goto (q := 205) E.x dL_areFacts_201 (by decide) ?_
  refine rv_wk [true, true, true, true, true, true, true, false, true, true, true, true, true, false, true, true, false] ?_
  exact bp_areFacts_205 E gh A k151 k165 h151 h165 M x2 x3 x4 x5 x6 x8 x10 x11 x12 x15 true
set_option maxRecDepth 100000 in
theorem bp_areFacts_204 {p : Program} {l : Launch} {e : Env} {s : State} {m : MethodId} {args : Array Value} {below : List Frame} {meth : Method} {c : Code} {D : va_G} {cI cZ cO : ClassId} {mi de z0 o b L : Nat} {k : Nat → Nat} {xs : Nat → Int32} (E : lk_E D cI cZ cO mi de z0 b L k xs cL_areFacts 17 (some .boolean) p l s m args meth c) (gh : rC_gh) (A : rv_Mem) (k151 : rv_Mem → Int32 → Int32 → Int32 → Int32 → Int32 → Int32 → Int32 → Int32 → Int32 → Option (Bool × rv_Mem)) (k165 : rv_Mem → Int32 → Int32 → Int32 → Int32 → Int32 → Int32 → Int32 → Int32 → Int32 → Bool → Int32 → Option (Bool × rv_Mem)) (h151 : ∀ (M : rv_Mem) (x2 : Int32) (x3 : Int32) (x4 : Int32) (x5 : Int32) (x6 : Int32) (x8 : Int32) (x10 : Int32) (x11 : Int32) (x12 : Int32), rv_M (lk_G D cI cZ cO de z0 o k) (fun q => z0 ≤ q) p l e rmp_areFacts s m args below meth c 0 0 (lk_qRZ D cI cZ cO de z0 o k gh A below args s 0 0) (k151 M x2 x3 x4 x5 x6 x8 x10 x11 x12) 151 [some (.ref o), some (.ref (k 0)), some (.int x2), some (.int x3), some (.int x4), some (.int x5), some (.int x6), none, some (.int x8), some (.int 1), some (.int x10), some (.int x11), some (.int x12), none, none, none, none] [] (gh, M, A)) (h165 : ∀ (M : rv_Mem) (x2 : Int32) (x3 : Int32) (x4 : Int32) (x5 : Int32) (x6 : Int32) (x8 : Int32) (x10 : Int32) (x11 : Int32) (x12 : Int32) (x13 : Bool) (x15 : Int32), rv_M (lk_G D cI cZ cO de z0 o k) (fun q => z0 ≤ q) p l e rmp_areFacts s m args below meth c 0 0 (lk_qRZ D cI cZ cO de z0 o k gh A below args s 0 0) (k165 M x2 x3 x4 x5 x6 x8 x10 x11 x12 x13 x15) 165 [some (.ref o), some (.ref (k 0)), some (.int x2), some (.int x3), some (.int x4), some (.int x5), some (.int x6), none, some (.int x8), some (.int 1), some (.int x10), some (.int x11), some (.int x12), some (.int (rv_i x13)), some (.int 0), some (.int x15), none] [] (gh, M, A)) : ∀ (M : rv_Mem) (x2 : Int32) (x3 : Int32) (x4 : Int32) (x5 : Int32) (x6 : Int32) (x8 : Int32) (x10 : Int32) (x11 : Int32) (x12 : Int32) (x15 : Int32), rv_M (lk_G D cI cZ cO de z0 o k) (fun q => z0 ≤ q) p l e rmp_areFacts s m args below meth c 0 0 (lk_qRZ D cI cZ cO de z0 o k gh A below args s 0 0) (gp_areFacts_204 gh A k151 k165 M x2 x3 x4 x5 x6 x8 x10 x11 x12 x15) 204 [some (.ref o), some (.ref (k 0)), some (.int x2), some (.int x3), some (.int x4), some (.int x5), some (.int x6), none, some (.int x8), some (.int 1), some (.int x10), some (.int x11), some (.int x12), none, some (.int 0), some (.int x15), none] [] (gh, M, A) := by
  intro M x2 x3 x4 x5 x6 x8 x10 x11 x12 x15
  unfold gp_areFacts_204
  refine rv_iconst (q := 205) E.x dL_areFacts_204 rv_ki0 rfl ?_
  refine rv_wk [true, true, true, true, true, true, true, false, true, true, true, true, true, false, true, true, false] ?_
  exact bp_areFacts_205 E gh A k151 k165 h151 h165 M x2 x3 x4 x5 x6 x8 x10 x11 x12 x15 false
set_option maxRecDepth 100000 in
theorem bp_areFacts_281 {p : Program} {l : Launch} {e : Env} {s : State} {m : MethodId} {args : Array Value} {below : List Frame} {meth : Method} {c : Code} {D : va_G} {cI cZ cO : ClassId} {mi de z0 o b L : Nat} {k : Nat → Nat} {xs : Nat → Int32} (E : lk_E D cI cZ cO mi de z0 b L k xs cL_areFacts 17 (some .boolean) p l s m args meth c) (gh : rC_gh) (A : rv_Mem) (k151 : rv_Mem → Int32 → Int32 → Int32 → Int32 → Int32 → Int32 → Int32 → Int32 → Int32 → Option (Bool × rv_Mem)) (h151 : ∀ (M : rv_Mem) (x2 : Int32) (x3 : Int32) (x4 : Int32) (x5 : Int32) (x6 : Int32) (x8 : Int32) (x10 : Int32) (x11 : Int32) (x12 : Int32), rv_M (lk_G D cI cZ cO de z0 o k) (fun q => z0 ≤ q) p l e rmp_areFacts s m args below meth c 0 0 (lk_qRZ D cI cZ cO de z0 o k gh A below args s 0 0) (k151 M x2 x3 x4 x5 x6 x8 x10 x11 x12) 151 [some (.ref o), some (.ref (k 0)), some (.int x2), some (.int x3), some (.int x4), some (.int x5), some (.int x6), none, some (.int x8), some (.int 1), some (.int x10), some (.int x11), some (.int x12), none, none, none, none] [] (gh, M, A)) : ∀ (M : rv_Mem) (x2 : Int32) (x3 : Int32) (x4 : Int32) (x5 : Int32) (x6 : Int32) (x8 : Int32) (x10 : Int32) (x12 : Int32) (s0 : Int32), rv_M (lk_G D cI cZ cO de z0 o k) (fun q => z0 ≤ q) p l e rmp_areFacts s m args below meth c 0 0 (lk_qRZ D cI cZ cO de z0 o k gh A below args s 0 0) (gp_areFacts_281 gh A k151 M x2 x3 x4 x5 x6 x8 x10 x12 s0) 281 [some (.ref o), some (.ref (k 0)), some (.int x2), some (.int x3), some (.int x4), some (.int x5), some (.int x6), none, some (.int x8), some (.int 1), some (.int x10), none, some (.int x12), none, none, none, none] [.int s0] (gh, M, A) := by
  intro M x2 x3 x4 x5 x6 x8 x10 x12 s0
  unfold gp_areFacts_281
  refine rv_istore (q := 283) (lv' := [_, _, _, _, _, _, _, _, _, _, _, _, _, _, _, _, _]) E.x dL_areFacts_281 (Nat.le_of_ble_eq_true rfl) rfl rfl rfl ?_
  refine rv_iinc (q := 286) (lv' := [_, _, _, _, _, _, _, _, _, _, _, _, _, _, _, _, _]) E.x dL_areFacts_283 rv_kim1 rfl rfl rfl rfl ?_
  refine rv_goto (q := 151) E.x dL_areFacts_286 (by decide) ?_
  refine rv_wk [true, true, true, true, true, true, true, false, true, true, true, true, true, false, false, false, false] ?_
  exact h151 M x2 x3 x4 x5 x6 x8 x10 s0 (x12 + (-1))
set_option maxRecDepth 100000 in
theorem bp_areFacts_279 {p : Program} {l : Launch} {e : Env} {s : State} {m : MethodId} {args : Array Value} {below : List Frame} {meth : Method} {c : Code} {D : va_G} {cI cZ cO : ClassId} {mi de z0 o b L : Nat} {k : Nat → Nat} {xs : Nat → Int32} (E : lk_E D cI cZ cO mi de z0 b L k xs cL_areFacts 17 (some .boolean) p l s m args meth c) (gh : rC_gh) (A : rv_Mem) (k151 : rv_Mem → Int32 → Int32 → Int32 → Int32 → Int32 → Int32 → Int32 → Int32 → Int32 → Option (Bool × rv_Mem)) (h151 : ∀ (M : rv_Mem) (x2 : Int32) (x3 : Int32) (x4 : Int32) (x5 : Int32) (x6 : Int32) (x8 : Int32) (x10 : Int32) (x11 : Int32) (x12 : Int32), rv_M (lk_G D cI cZ cO de z0 o k) (fun q => z0 ≤ q) p l e rmp_areFacts s m args below meth c 0 0 (lk_qRZ D cI cZ cO de z0 o k gh A below args s 0 0) (k151 M x2 x3 x4 x5 x6 x8 x10 x11 x12) 151 [some (.ref o), some (.ref (k 0)), some (.int x2), some (.int x3), some (.int x4), some (.int x5), some (.int x6), none, some (.int x8), some (.int 1), some (.int x10), some (.int x11), some (.int x12), none, none, none, none] [] (gh, M, A)) : ∀ (M : rv_Mem) (x2 : Int32) (x3 : Int32) (x4 : Int32) (x5 : Int32) (x6 : Int32) (x8 : Int32) (x10 : Int32) (x11 : Int32) (x12 : Int32), rv_M (lk_G D cI cZ cO de z0 o k) (fun q => z0 ≤ q) p l e rmp_areFacts s m args below meth c 0 0 (lk_qRZ D cI cZ cO de z0 o k gh A below args s 0 0) (gp_areFacts_279 gh A k151 M x2 x3 x4 x5 x6 x8 x10 x11 x12) 279 [some (.ref o), some (.ref (k 0)), some (.int x2), some (.int x3), some (.int x4), some (.int x5), some (.int x6), none, some (.int x8), some (.int 1), some (.int x10), some (.int x11), some (.int x12), none, none, none, none] [] (gh, M, A) := by
  intro M x2 x3 x4 x5 x6 x8 x10 x11 x12
  unfold gp_areFacts_279
  refine rv_iload (q := 281) E.x dL_areFacts_279 rfl rfl ?_
  refine rv_wk [true, true, true, true, true, true, true, false, true, true, true, false, true, false, false, false, false] ?_
  exact bp_areFacts_281 E gh A k151 h151 M x2 x3 x4 x5 x6 x8 x10 x12 x11
set_option maxRecDepth 100000 in
theorem bp_areFacts_260 {p : Program} {l : Launch} {e : Env} {s : State} {m : MethodId} {args : Array Value} {below : List Frame} {meth : Method} {c : Code} {D : va_G} {cI cZ cO : ClassId} {mi de z0 o b L : Nat} {k : Nat → Nat} {xs : Nat → Int32} (E : lk_E D cI cZ cO mi de z0 b L k xs cL_areFacts 17 (some .boolean) p l s m args meth c) (gh : rC_gh) (A : rv_Mem) (k151 : rv_Mem → Int32 → Int32 → Int32 → Int32 → Int32 → Int32 → Int32 → Int32 → Int32 → Option (Bool × rv_Mem)) (h151 : ∀ (M : rv_Mem) (x2 : Int32) (x3 : Int32) (x4 : Int32) (x5 : Int32) (x6 : Int32) (x8 : Int32) (x10 : Int32) (x11 : Int32) (x12 : Int32), rv_M (lk_G D cI cZ cO de z0 o k) (fun q => z0 ≤ q) p l e rmp_areFacts s m args below meth c 0 0 (lk_qRZ D cI cZ cO de z0 o k gh A below args s 0 0) (k151 M x2 x3 x4 x5 x6 x8 x10 x11 x12) 151 [some (.ref o), some (.ref (k 0)), some (.int x2), some (.int x3), some (.int x4), some (.int x5), some (.int x6), none, some (.int x8), some (.int 1), some (.int x10), some (.int x11), some (.int x12), none, none, none, none] [] (gh, M, A)) : ∀ (M : rv_Mem) (x2 : Int32) (x3 : Int32) (x4 : Int32) (x5 : Int32) (x6 : Int32) (x8 : Int32) (x11 : Int32) (x12 : Int32) (x13 : Bool) (x14 : Int32) (s0 : Int32), rv_M (lk_G D cI cZ cO de z0 o k) (fun q => z0 ≤ q) p l e rmp_areFacts s m args below meth c 0 0 (lk_qRZ D cI cZ cO de z0 o k gh A below args s 0 0) (gp_areFacts_260 gh A k151 M x2 x3 x4 x5 x6 x8 x11 x12 x13 x14 s0) 260 [some (.ref o), some (.ref (k 0)), some (.int x2), some (.int x3), some (.int x4), some (.int x5), some (.int x6), none, some (.int x8), some (.int 1), none, some (.int x11), some (.int x12), some (.int (rv_i x13)), some (.int x14), none, none] [.int s0] (gh, M, A) := by
  intro M x2 x3 x4 x5 x6 x8 x11 x12 x13 x14 s0
  unfold gp_areFacts_260
  refine rv_istore (q := 262) (lv' := [_, _, _, _, _, _, _, _, _, _, _, _, _, _, _, _, _]) E.x dL_areFacts_260 (Nat.le_of_ble_eq_true rfl) rfl rfl rfl ?_
  refine rv_iload (q := 264) E.x dL_areFacts_262 rfl rfl ?_
  refine rv_ifz_eq (q := 267) (tgt := 279) E.x dL_areFacts_264 (by decide) rfl ?_ ?_
  · refine rv_iload (q := 269) E.x dL_areFacts_267 rfl rfl ?_
    refine rv_iload (q := 271) E.x dL_areFacts_269 rfl rfl ?_
    refine rv_icmp_ge (q := 274) (tgt := 279) E.x dL_areFacts_271 (by decide) rfl ?_ ?_
    · refine rv_iload (q := 276) E.x dL_areFacts_274 rfl rfl ?_
      refine rv_goto (q := 281) E.x dL_areFacts_276 (by decide) ?_
      refine rv_wk [true, true, true, true, true, true, true, false, true, true, true, false, true, false, false, false, false] ?_
      exact bp_areFacts_281 E gh A k151 h151 M x2 x3 x4 x5 x6 x8 s0 x12 x14
    · refine rv_wk [true, true, true, true, true, true, true, false, true, true, true, true, true, false, false, false, false] ?_
      exact bp_areFacts_279 E gh A k151 h151 M x2 x3 x4 x5 x6 x8 s0 x11 x12
  · refine rv_wk [true, true, true, true, true, true, true, false, true, true, true, true, true, false, false, false, false] ?_
    exact bp_areFacts_279 E gh A k151 h151 M x2 x3 x4 x5 x6 x8 s0 x11 x12
set_option maxRecDepth 100000 in
theorem bp_areFacts_258 {p : Program} {l : Launch} {e : Env} {s : State} {m : MethodId} {args : Array Value} {below : List Frame} {meth : Method} {c : Code} {D : va_G} {cI cZ cO : ClassId} {mi de z0 o b L : Nat} {k : Nat → Nat} {xs : Nat → Int32} (E : lk_E D cI cZ cO mi de z0 b L k xs cL_areFacts 17 (some .boolean) p l s m args meth c) (gh : rC_gh) (A : rv_Mem) (k151 : rv_Mem → Int32 → Int32 → Int32 → Int32 → Int32 → Int32 → Int32 → Int32 → Int32 → Option (Bool × rv_Mem)) (h151 : ∀ (M : rv_Mem) (x2 : Int32) (x3 : Int32) (x4 : Int32) (x5 : Int32) (x6 : Int32) (x8 : Int32) (x10 : Int32) (x11 : Int32) (x12 : Int32), rv_M (lk_G D cI cZ cO de z0 o k) (fun q => z0 ≤ q) p l e rmp_areFacts s m args below meth c 0 0 (lk_qRZ D cI cZ cO de z0 o k gh A below args s 0 0) (k151 M x2 x3 x4 x5 x6 x8 x10 x11 x12) 151 [some (.ref o), some (.ref (k 0)), some (.int x2), some (.int x3), some (.int x4), some (.int x5), some (.int x6), none, some (.int x8), some (.int 1), some (.int x10), some (.int x11), some (.int x12), none, none, none, none] [] (gh, M, A)) : ∀ (M : rv_Mem) (x2 : Int32) (x3 : Int32) (x4 : Int32) (x5 : Int32) (x6 : Int32) (x8 : Int32) (x10 : Int32) (x11 : Int32) (x12 : Int32) (x13 : Bool) (x14 : Int32), rv_M (lk_G D cI cZ cO de z0 o k) (fun q => z0 ≤ q) p l e rmp_areFacts s m args below meth c 0 0 (lk_qRZ D cI cZ cO de z0 o k gh A below args s 0 0) (gp_areFacts_258 gh A k151 M x2 x3 x4 x5 x6 x8 x10 x11 x12 x13 x14) 258 [some (.ref o), some (.ref (k 0)), some (.int x2), some (.int x3), some (.int x4), some (.int x5), some (.int x6), none, some (.int x8), some (.int 1), some (.int x10), some (.int x11), some (.int x12), some (.int (rv_i x13)), some (.int x14), none, none] [] (gh, M, A) := by
  intro M x2 x3 x4 x5 x6 x8 x10 x11 x12 x13 x14
  unfold gp_areFacts_258
  refine rv_iload (q := 260) E.x dL_areFacts_258 rfl rfl ?_
  refine rv_wk [true, true, true, true, true, true, true, false, true, true, false, true, true, true, true, false, false] ?_
  exact bp_areFacts_260 E gh A k151 h151 M x2 x3 x4 x5 x6 x8 x11 x12 x13 x14 x10
set_option maxRecDepth 100000 in
theorem bp_areFacts_216_s {p : Program} {l : Launch} {e : Env} {s : State} {m : MethodId} {args : Array Value} {below : List Frame} {meth : Method} {c : Code} {D : va_G} {cI cZ cO : ClassId} {mi de z0 o b L : Nat} {k : Nat → Nat} {xs : Nat → Int32} (E : lk_E D cI cZ cO mi de z0 b L k xs cL_areFacts 17 (some .boolean) p l s m args meth c) (gh : rC_gh) (A : rv_Mem) (k151 : rv_Mem → Int32 → Int32 → Int32 → Int32 → Int32 → Int32 → Int32 → Int32 → Int32 → Option (Bool × rv_Mem)) (h151 : ∀ (M : rv_Mem) (x2 : Int32) (x3 : Int32) (x4 : Int32) (x5 : Int32) (x6 : Int32) (x8 : Int32) (x10 : Int32) (x11 : Int32) (x12 : Int32), rv_M (lk_G D cI cZ cO de z0 o k) (fun q => z0 ≤ q) p l e rmp_areFacts s m args below meth c 0 0 (lk_qRZ D cI cZ cO de z0 o k gh A below args s 0 0) (k151 M x2 x3 x4 x5 x6 x8 x10 x11 x12) 151 [some (.ref o), some (.ref (k 0)), some (.int x2), some (.int x3), some (.int x4), some (.int x5), some (.int x6), none, some (.int x8), some (.int 1), some (.int x10), some (.int x11), some (.int x12), none, none, none, none] [] (gh, M, A)) (k216 : rv_Mem → Int32 → Int32 → Int32 → Int32 → Int32 → Int32 → Int32 → Int32 → Int32 → Bool → Int32 → Int32 → Option (Bool × rv_Mem)) (h216 : ∀ (M : rv_Mem) (x2 : Int32) (x3 : Int32) (x4 : Int32) (x5 : Int32) (x6 : Int32) (x8 : Int32) (x10 : Int32) (x11 : Int32) (x12 : Int32) (x13 : Bool) (x14 : Int32) (x15 : Int32), rv_M (lk_G D cI cZ cO de z0 o k) (fun q => z0 ≤ q) p l e rmp_areFacts s m args below meth c 0 0 (lk_qRZ D cI cZ cO de z0 o k gh A below args s 0 0) (k216 M x2 x3 x4 x5 x6 x8 x10 x11 x12 x13 x14 x15) 216 [some (.ref o), some (.ref (k 0)), some (.int x2), some (.int x3), some (.int x4), some (.int x5), some (.int x6), none, some (.int x8), some (.int 1), some (.int x10), some (.int x11), some (.int x12), some (.int (rv_i x13)), some (.int x14), some (.int x15), none] [] (gh, M, A)) : ∀ (M : rv_Mem) (x2 : Int32) (x3 : Int32) (x4 : Int32) (x5 : Int32) (x6 : Int32) (x8 : Int32) (x10 : Int32) (x11 : Int32) (x12 : Int32) (x13 : Bool) (x14 : Int32) (x15 : Int32), rv_M (lk_G D cI cZ cO de z0 o k) (fun q => z0 ≤ q) p l e rmp_areFacts s m args below meth c 0 0 (lk_qRZ D cI cZ cO de z0 o k gh A below args s 0 0) (gp_areFacts_216_s gh A k151 k216 M x2 x3 x4 x5 x6 x8 x10 x11 x12 x13 x14 x15) 216 [some (.ref o), some (.ref (k 0)), some (.int x2), some (.int x3), some (.int x4), some (.int x5), some (.int x6), none, some (.int x8), some (.int 1), some (.int x10), some (.int x11), some (.int x12), some (.int (rv_i x13)), some (.int x14), some (.int x15), none] [] (gh, M, A) := by
  intro M x2 x3 x4 x5 x6 x8 x10 x11 x12 x13 x14 x15
  unfold gp_areFacts_216_s
  refine rv_iload (q := 218) E.x dL_areFacts_216 rfl rfl ?_
  refine rv_bipush (q := 220) E.x dL_areFacts_218 rv_kb6 rfl ?_
  refine rv_icmp_ge (q := 223) (tgt := 241) E.x dL_areFacts_220 (by decide) rfl ?_ ?_
  · refine rv_iload (q := 225) E.x dL_areFacts_223 rfl rfl ?_
    refine rv_iload (q := 227) E.x dL_areFacts_225 rfl rfl ?_
    refine rv_iload (q := 229) E.x dL_areFacts_227 rfl rfl ?_
    refine rv_ishr (q := 230) E.x dL_areFacts_229 rfl ?_
    refine rv_iconst (q := 231) E.x dL_areFacts_230 rv_ki1 rfl ?_
    refine rv_iand (q := 232) E.x dL_areFacts_231 rfl ?_
    refine rv_iadd (q := 233) E.x dL_areFacts_232 rfl ?_
    refine rv_istore (q := 235) (lv' := [_, _, _, _, _, _, _, _, _, _, _, _, _, _, _, _, _]) E.x dL_areFacts_233 (Nat.le_of_ble_eq_true rfl) rfl rfl rfl ?_
    refine rv_iinc (q := 238) (lv' := [_, _, _, _, _, _, _, _, _, _, _, _, _, _, _, _, _]) E.x dL_areFacts_235 rv_ki1 rfl rfl rfl rfl ?_
    refine rv_goto (q := 216) E.x dL_areFacts_238 (by decide) ?_
    refine rv_wk [true, true, true, true, true, true, true, false, true, true, true, true, true, true, true, true, false] ?_
    exact h216 M x2 x3 x4 x5 x6 x8 x10 x11 x12 x13 (x14 + ((x12 >>> (x15 &&& 31)) &&& 1)) (x15 + 1)
  · refine rv_iload (q := 243) E.x dL_areFacts_241 rfl rfl ?_
    refine rv_ifz_eq (q := 246) (tgt := 258) E.x dL_areFacts_243 (by decide) rfl ?_ ?_
    · refine rv_iload (q := 248) E.x dL_areFacts_246 rfl rfl ?_
      refine rv_iload (q := 250) E.x dL_areFacts_248 rfl rfl ?_
      refine rv_icmp_gt (q := 253) (tgt := 258) E.x dL_areFacts_250 (by decide) rfl ?_ ?_
      · refine rv_iload (q := 255) E.x dL_areFacts_253 rfl rfl ?_
        refine rv_goto (q := 260) E.x dL_areFacts_255 (by decide) ?_
        refine rv_wk [true, true, true, true, true, true, true, false, true, true, false, true, true, true, true, false, false] ?_
        exact bp_areFacts_260 E gh A k151 h151 M x2 x3 x4 x5 x6 x8 x11 x12 x13 x14 x12
      · refine rv_wk [true, true, true, true, true, true, true, false, true, true, true, true, true, true, true, false, false] ?_
        exact bp_areFacts_258 E gh A k151 h151 M x2 x3 x4 x5 x6 x8 x10 x11 x12 x13 x14
    · refine rv_wk [true, true, true, true, true, true, true, false, true, true, true, true, true, true, true, false, false] ?_
      exact bp_areFacts_258 E gh A k151 h151 M x2 x3 x4 x5 x6 x8 x10 x11 x12 x13 x14
theorem bp_areFacts_216 {p : Program} {l : Launch} {e : Env} {s : State} {m : MethodId} {args : Array Value} {below : List Frame} {meth : Method} {c : Code} {D : va_G} {cI cZ cO : ClassId} {mi de z0 o b L : Nat} {k : Nat → Nat} {xs : Nat → Int32} (E : lk_E D cI cZ cO mi de z0 b L k xs cL_areFacts 17 (some .boolean) p l s m args meth c) (gh : rC_gh) (A : rv_Mem) (k151 : rv_Mem → Int32 → Int32 → Int32 → Int32 → Int32 → Int32 → Int32 → Int32 → Int32 → Option (Bool × rv_Mem)) (h151 : ∀ (M : rv_Mem) (x2 : Int32) (x3 : Int32) (x4 : Int32) (x5 : Int32) (x6 : Int32) (x8 : Int32) (x10 : Int32) (x11 : Int32) (x12 : Int32), rv_M (lk_G D cI cZ cO de z0 o k) (fun q => z0 ≤ q) p l e rmp_areFacts s m args below meth c 0 0 (lk_qRZ D cI cZ cO de z0 o k gh A below args s 0 0) (k151 M x2 x3 x4 x5 x6 x8 x10 x11 x12) 151 [some (.ref o), some (.ref (k 0)), some (.int x2), some (.int x3), some (.int x4), some (.int x5), some (.int x6), none, some (.int x8), some (.int 1), some (.int x10), some (.int x11), some (.int x12), none, none, none, none] [] (gh, M, A)) : ∀ (n : Nat), ∀ (M : rv_Mem) (x2 : Int32) (x3 : Int32) (x4 : Int32) (x5 : Int32) (x6 : Int32) (x8 : Int32) (x10 : Int32) (x11 : Int32) (x12 : Int32) (x13 : Bool) (x14 : Int32) (x15 : Int32), rv_M (lk_G D cI cZ cO de z0 o k) (fun q => z0 ≤ q) p l e rmp_areFacts s m args below meth c 0 0 (lk_qRZ D cI cZ cO de z0 o k gh A below args s 0 0) (gp_areFacts_216 gh A k151 n M x2 x3 x4 x5 x6 x8 x10 x11 x12 x13 x14 x15) 216 [some (.ref o), some (.ref (k 0)), some (.int x2), some (.int x3), some (.int x4), some (.int x5), some (.int x6), none, some (.int x8), some (.int 1), some (.int x10), some (.int x11), some (.int x12), some (.int (rv_i x13)), some (.int x14), some (.int x15), none] [] (gh, M, A) := by
  intro n
  induction n with
  | zero => exact fun _ _ _ _ _ _ _ _ _ _ _ _ _ => rv_stuck
  | succ n ih => exact bp_areFacts_216_s E gh A k151 h151 (gp_areFacts_216 gh A k151 n) ih
set_option maxRecDepth 100000 in
theorem bp_areFacts_165_s {p : Program} {l : Launch} {e : Env} {s : State} {m : MethodId} {args : Array Value} {below : List Frame} {meth : Method} {c : Code} {D : va_G} {cI cZ cO : ClassId} {mi de z0 o b L : Nat} {k : Nat → Nat} {xs : Nat → Int32} (E : lk_E D cI cZ cO mi de z0 b L k xs cL_areFacts 17 (some .boolean) p l s m args meth c) (gh : rC_gh) (A : rv_Mem) (k151 : rv_Mem → Int32 → Int32 → Int32 → Int32 → Int32 → Int32 → Int32 → Int32 → Int32 → Option (Bool × rv_Mem)) (h151 : ∀ (M : rv_Mem) (x2 : Int32) (x3 : Int32) (x4 : Int32) (x5 : Int32) (x6 : Int32) (x8 : Int32) (x10 : Int32) (x11 : Int32) (x12 : Int32), rv_M (lk_G D cI cZ cO de z0 o k) (fun q => z0 ≤ q) p l e rmp_areFacts s m args below meth c 0 0 (lk_qRZ D cI cZ cO de z0 o k gh A below args s 0 0) (k151 M x2 x3 x4 x5 x6 x8 x10 x11 x12) 151 [some (.ref o), some (.ref (k 0)), some (.int x2), some (.int x3), some (.int x4), some (.int x5), some (.int x6), none, some (.int x8), some (.int 1), some (.int x10), some (.int x11), some (.int x12), none, none, none, none] [] (gh, M, A)) (k165 : rv_Mem → Int32 → Int32 → Int32 → Int32 → Int32 → Int32 → Int32 → Int32 → Int32 → Bool → Int32 → Option (Bool × rv_Mem)) (h165 : ∀ (M : rv_Mem) (x2 : Int32) (x3 : Int32) (x4 : Int32) (x5 : Int32) (x6 : Int32) (x8 : Int32) (x10 : Int32) (x11 : Int32) (x12 : Int32) (x13 : Bool) (x15 : Int32), rv_M (lk_G D cI cZ cO de z0 o k) (fun q => z0 ≤ q) p l e rmp_areFacts s m args below meth c 0 0 (lk_qRZ D cI cZ cO de z0 o k gh A below args s 0 0) (k165 M x2 x3 x4 x5 x6 x8 x10 x11 x12 x13 x15) 165 [some (.ref o), some (.ref (k 0)), some (.int x2), some (.int x3), some (.int x4), some (.int x5), some (.int x6), none, some (.int x8), some (.int 1), some (.int x10), some (.int x11), some (.int x12), some (.int (rv_i x13)), some (.int 0), some (.int x15), none] [] (gh, M, A)) : ∀ (M : rv_Mem) (x2 : Int32) (x3 : Int32) (x4 : Int32) (x5 : Int32) (x6 : Int32) (x8 : Int32) (x10 : Int32) (x11 : Int32) (x12 : Int32) (x13 : Bool) (x15 : Int32), rv_M (lk_G D cI cZ cO de z0 o k) (fun q => z0 ≤ q) p l e rmp_areFacts s m args below meth c 0 0 (lk_qRZ D cI cZ cO de z0 o k gh A below args s 0 0) (gp_areFacts_165_s gh A k151 k165 M x2 x3 x4 x5 x6 x8 x10 x11 x12 x13 x15) 165 [some (.ref o), some (.ref (k 0)), some (.int x2), some (.int x3), some (.int x4), some (.int x5), some (.int x6), none, some (.int x8), some (.int 1), some (.int x10), some (.int x11), some (.int x12), some (.int (rv_i x13)), some (.int 0), some (.int x15), none] [] (gh, M, A) := by
  intro M x2 x3 x4 x5 x6 x8 x10 x11 x12 x13 x15
  unfold gp_areFacts_165_s
  refine rv_iload (q := 167) E.x dL_areFacts_165 rfl rfl ?_
  refine rv_iconst (q := 168) E.x dL_areFacts_167 rv_ki4 rfl ?_
  refine rv_icmp_ge (q := 171) (tgt := 213) E.x dL_areFacts_168 (by decide) rfl ?_ ?_
  · refine rv_iload (q := 173) E.x dL_areFacts_171 rfl rfl ?_
    refine rv_ifz_eq (q := 176) (tgt := 204) E.x dL_areFacts_173 (by decide) rfl ?_ ?_
    · refine rv_iload (q := 178) E.x dL_areFacts_176 rfl rfl ?_
      refine rv_aload_n (q := 179) E.x dL_areFacts_178 rfl rfl ?_
      refine rv_iload (q := 181) E.x dL_areFacts_179 rfl rfl ?_
      refine rv_iload (q := 183) E.x dL_areFacts_181 rfl rfl ?_
      refine lk_x1r (fun r2 e1 => ?_) (fun w3 e4 => rv_stuck)
      refine lk_ci (q := 186) (v := r2) (M1 := M) E (fun u hI _ => c11_owners E.2.2.1.1 hI e1) gP_139 hX11_owners ⟨rfl, rfl⟩ ⟨Nat.le_of_ble_eq_true rfl, Nat.le_of_ble_eq_true rfl⟩ ⟨Nat.le_of_ble_eq_true rfl, Nat.le_of_ble_eq_true rfl⟩ rfl rfl rfl (Nat.le_of_ble_eq_true rfl) dL_areFacts_183 rfl ?_
      refine rv_iand (q := 187) E.x dL_areFacts_186 rfl ?_
      refine rv_if_ne (q := 190) (tgt := 200) E.x dL_areFacts_187 (by decide) rfl ?_ ?_
      · refine rv_aload_n (q := 191) E.x dL_areFacts_190 rfl rfl ?_
        refine rv_iload_n (q := 192) E.x dL_areFacts_191 rfl rfl ?_
        refine rv_iload (q := 194) E.x dL_areFacts_192 rfl rfl ?_
        refine rv_b2 (fun r6 M7 e5 => ?_)
        refine lk_cs0 (q := 197) (v := (rv_i r6)) (σ' := (gh, M7, A)) E (wP_isChanged E.2.2.1 e5) gPs_229 hP_isChanged ⟨rfl, rfl⟩ ⟨Nat.le_of_ble_eq_true rfl, Nat.le_of_ble_eq_true rfl⟩ ⟨Nat.le_of_ble_eq_true rfl, Nat.le_of_ble_eq_true rfl⟩ rfl rfl rfl (Nat.le_of_ble_eq_true rfl) dL_areFacts_194 rfl ?_
        refine rv_ifz_ne (q := 200) (tgt := 204) E.x dL_areFacts_197 (by decide) rfl ?_ ?_
        · refine rv_wk [true, true, true, true, true, true, true, false, true, true, true, true, true, false, true, true, false] ?_
          exact bp_areFacts_200 E gh A k151 k165 h151 h165 M7 x2 x3 x4 x5 x6 x8 x10 x11 x12 x15
        · refine rv_wk [true, true, true, true, true, true, true, false, true, true, true, true, true, false, true, true, false] ?_
          exact bp_areFacts_204 E gh A k151 k165 h151 h165 M7 x2 x3 x4 x5 x6 x8 x10 x11 x12 x15
      · refine rv_wk [true, true, true, true, true, true, true, false, true, true, true, true, true, false, true, true, false] ?_
        exact bp_areFacts_200 E gh A k151 k165 h151 h165 M x2 x3 x4 x5 x6 x8 x10 x11 x12 x15
    · refine rv_wk [true, true, true, true, true, true, true, false, true, true, true, true, true, false, true, true, false] ?_
      exact bp_areFacts_204 E gh A k151 k165 h151 h165 M x2 x3 x4 x5 x6 x8 x10 x11 x12 x15
  · refine rv_iconst (q := 214) E.x dL_areFacts_213 rv_ki0 rfl ?_
    refine rv_istore (q := 216) (lv' := [_, _, _, _, _, _, _, _, _, _, _, _, _, _, _, _, _]) E.x dL_areFacts_214 (Nat.le_of_ble_eq_true rfl) rfl rfl rfl ?_
    refine rv_wk [true, true, true, true, true, true, true, false, true, true, true, true, true, true, true, true, false] ?_
    exact bp_areFacts_216 E gh A k151 h151 rv_FU M x2 x3 x4 x5 x6 x8 x10 x11 x12 x13 0 0
theorem bp_areFacts_165 {p : Program} {l : Launch} {e : Env} {s : State} {m : MethodId} {args : Array Value} {below : List Frame} {meth : Method} {c : Code} {D : va_G} {cI cZ cO : ClassId} {mi de z0 o b L : Nat} {k : Nat → Nat} {xs : Nat → Int32} (E : lk_E D cI cZ cO mi de z0 b L k xs cL_areFacts 17 (some .boolean) p l s m args meth c) (gh : rC_gh) (A : rv_Mem) (k151 : rv_Mem → Int32 → Int32 → Int32 → Int32 → Int32 → Int32 → Int32 → Int32 → Int32 → Option (Bool × rv_Mem)) (h151 : ∀ (M : rv_Mem) (x2 : Int32) (x3 : Int32) (x4 : Int32) (x5 : Int32) (x6 : Int32) (x8 : Int32) (x10 : Int32) (x11 : Int32) (x12 : Int32), rv_M (lk_G D cI cZ cO de z0 o k) (fun q => z0 ≤ q) p l e rmp_areFacts s m args below meth c 0 0 (lk_qRZ D cI cZ cO de z0 o k gh A below args s 0 0) (k151 M x2 x3 x4 x5 x6 x8 x10 x11 x12) 151 [some (.ref o), some (.ref (k 0)), some (.int x2), some (.int x3), some (.int x4), some (.int x5), some (.int x6), none, some (.int x8), some (.int 1), some (.int x10), some (.int x11), some (.int x12), none, none, none, none] [] (gh, M, A)) : ∀ (n : Nat), ∀ (M : rv_Mem) (x2 : Int32) (x3 : Int32) (x4 : Int32) (x5 : Int32) (x6 : Int32) (x8 : Int32) (x10 : Int32) (x11 : Int32) (x12 : Int32) (x13 : Bool) (x15 : Int32), rv_M (lk_G D cI cZ cO de z0 o k) (fun q => z0 ≤ q) p l e rmp_areFacts s m args below meth c 0 0 (lk_qRZ D cI cZ cO de z0 o k gh A below args s 0 0) (gp_areFacts_165 gh A k151 n M x2 x3 x4 x5 x6 x8 x10 x11 x12 x13 x15) 165 [some (.ref o), some (.ref (k 0)), some (.int x2), some (.int x3), some (.int x4), some (.int x5), some (.int x6), none, some (.int x8), some (.int 1), some (.int x10), some (.int x11), some (.int x12), some (.int (rv_i x13)), some (.int 0), some (.int x15), none] [] (gh, M, A) := by
  intro n
  induction n with
  | zero => exact fun _ _ _ _ _ _ _ _ _ _ _ _ => rv_stuck
  | succ n ih => exact bp_areFacts_165_s E gh A k151 h151 (gp_areFacts_165 gh A k151 n) ih
set_option maxRecDepth 100000 in
theorem bp_areFacts_341 {p : Program} {l : Launch} {e : Env} {s : State} {m : MethodId} {args : Array Value} {below : List Frame} {meth : Method} {c : Code} {D : va_G} {cI cZ cO : ClassId} {mi de z0 o b L : Nat} {k : Nat → Nat} {xs : Nat → Int32} (E : lk_E D cI cZ cO mi de z0 b L k xs cL_areFacts 17 (some .boolean) p l s m args meth c) (gh : rC_gh) (A : rv_Mem) (k292 : rv_Mem → Int32 → Int32 → Int32 → Int32 → Int32 → Int32 → Bool → Int32 → Int32 → Option (Bool × rv_Mem)) (h292 : ∀ (M : rv_Mem) (x2 : Int32) (x3 : Int32) (x4 : Int32) (x5 : Int32) (x6 : Int32) (x8 : Int32) (x9 : Bool) (x10 : Int32) (x12 : Int32), rv_M (lk_G D cI cZ cO de z0 o k) (fun q => z0 ≤ q) p l e rmp_areFacts s m args below meth c 0 0 (lk_qRZ D cI cZ cO de z0 o k gh A below args s 0 0) (k292 M x2 x3 x4 x5 x6 x8 x9 x10 x12) 292 [some (.ref o), some (.ref (k 0)), some (.int x2), some (.int x3), some (.int x4), some (.int x5), some (.int x6), none, some (.int x8), some (.int (rv_i x9)), some (.int x10), none, some (.int x12), none, none, none, none] [] (gh, M, A)) : ∀ (M : rv_Mem) (x2 : Int32) (x3 : Int32) (x4 : Int32) (x5 : Int32) (x6 : Int32) (x8 : Int32) (x10 : Int32) (x12 : Int32) (s0 : Bool), rv_M (lk_G D cI cZ cO de z0 o k) (fun q => z0 ≤ q) p l e rmp_areFacts s m args below meth c 0 0 (lk_qRZ D cI cZ cO de z0 o k gh A below args s 0 0) (gp_areFacts_341 gh A k292 M x2 x3 x4 x5 x6 x8 x10 x12 s0) 341 [some (.ref o), some (.ref (k 0)), some (.int x2), some (.int x3), some (.int x4), some (.int x5), some (.int x6), none, some (.int x8), none, some (.int x10), none, some (.int x12), none, none, none, none] [.int (rv_i s0)] (gh, M, A) := by
  intro M x2 x3 x4 x5 x6 x8 x10 x12 s0
  unfold gp_areFacts_341
  refine rv_istore (q := 343) (lv' := [_, _, _, _, _, _, _, _, _, _, _, _, _, _, _, _, _]) E.x dL_areFacts_341 (Nat.le_of_ble_eq_true rfl) rfl rfl rfl ?_
  refine rv_iinc (q := 346) (lv' := [_, _, _, _, _, _, _, _, _, _, _, _, _, _, _, _, _]) E.x dL_areFacts_343 rv_ki1 rfl rfl rfl rfl ?_
  refine rv_goto (q := 292) E.x dL_areFacts_346 (by decide) ?_
  refine rv_wk [true, true, true, true, true, true, true, false, true, true, true, false, true, false, false, false, false] ?_
  exact h292 M x2 x3 x4 x5 x6 x8 s0 x10 (x12 + 1)
set_option maxRecDepth 100000 in
theorem bp_areFacts_336 {p : Program} {l : Launch} {e : Env} {s : State} {m : MethodId} {args : Array Value} {below : List Frame} {meth : Method} {c : Code} {D : va_G} {cI cZ cO : ClassId} {mi de z0 o b L : Nat} {k : Nat → Nat} {xs : Nat → Int32} (E : lk_E D cI cZ cO mi de z0 b L k xs cL_areFacts 17 (some .boolean) p l s m args meth c) (gh : rC_gh) (A : rv_Mem) (k292 : rv_Mem → Int32 → Int32 → Int32 → Int32 → Int32 → Int32 → Bool → Int32 → Int32 → Option (Bool × rv_Mem)) (h292 : ∀ (M : rv_Mem) (x2 : Int32) (x3 : Int32) (x4 : Int32) (x5 : Int32) (x6 : Int32) (x8 : Int32) (x9 : Bool) (x10 : Int32) (x12 : Int32), rv_M (lk_G D cI cZ cO de z0 o k) (fun q => z0 ≤ q) p l e rmp_areFacts s m args below meth c 0 0 (lk_qRZ D cI cZ cO de z0 o k gh A below args s 0 0) (k292 M x2 x3 x4 x5 x6 x8 x9 x10 x12) 292 [some (.ref o), some (.ref (k 0)), some (.int x2), some (.int x3), some (.int x4), some (.int x5), some (.int x6), none, some (.int x8), some (.int (rv_i x9)), some (.int x10), none, some (.int x12), none, none, none, none] [] (gh, M, A)) : ∀ (M : rv_Mem) (x2 : Int32) (x3 : Int32) (x4 : Int32) (x5 : Int32) (x6 : Int32) (x8 : Int32) (x10 : Int32) (x12 : Int32), rv_M (lk_G D cI cZ cO de z0 o k) (fun q => z0 ≤ q) p l e rmp_areFacts s m args below meth c 0 0 (lk_qRZ D cI cZ cO de z0 o k gh A below args s 0 0) (gp_areFacts_336 gh A k292 M x2 x3 x4 x5 x6 x8 x10 x12) 336 [some (.ref o), some (.ref (k 0)), some (.int x2), some (.int x3), some (.int x4), some (.int x5), some (.int x6), none, some (.int x8), none, some (.int x10), none, some (.int x12), none, none, none, none] [] (gh, M, A) := by
  intro M x2 x3 x4 x5 x6 x8 x10 x12
  unfold gp_areFacts_336
  refine rv_iconst (q := 337) E.x dL_areFacts_336 rv_ki1 rfl ?_
  refine rv_goto (q := 341) E.x dL_areFacts_337 (by decide) ?_
  refine rv_wk [true, true, true, true, true, true, true, false, true, false, true, false, true, false, false, false, false] ?_
  exact bp_areFacts_341 E gh A k292 h292 M x2 x3 x4 x5 x6 x8 x10 x12 true
set_option maxRecDepth 100000 in
theorem bp_areFacts_340 {p : Program} {l : Launch} {e : Env} {s : State} {m : MethodId} {args : Array Value} {below : List Frame} {meth : Method} {c : Code} {D : va_G} {cI cZ cO : ClassId} {mi de z0 o b L : Nat} {k : Nat → Nat} {xs : Nat → Int32} (E : lk_E D cI cZ cO mi de z0 b L k xs cL_areFacts 17 (some .boolean) p l s m args meth c) (gh : rC_gh) (A : rv_Mem) (k292 : rv_Mem → Int32 → Int32 → Int32 → Int32 → Int32 → Int32 → Bool → Int32 → Int32 → Option (Bool × rv_Mem)) (h292 : ∀ (M : rv_Mem) (x2 : Int32) (x3 : Int32) (x4 : Int32) (x5 : Int32) (x6 : Int32) (x8 : Int32) (x9 : Bool) (x10 : Int32) (x12 : Int32), rv_M (lk_G D cI cZ cO de z0 o k) (fun q => z0 ≤ q) p l e rmp_areFacts s m args below meth c 0 0 (lk_qRZ D cI cZ cO de z0 o k gh A below args s 0 0) (k292 M x2 x3 x4 x5 x6 x8 x9 x10 x12) 292 [some (.ref o), some (.ref (k 0)), some (.int x2), some (.int x3), some (.int x4), some (.int x5), some (.int x6), none, some (.int x8), some (.int (rv_i x9)), some (.int x10), none, some (.int x12), none, none, none, none] [] (gh, M, A)) : ∀ (M : rv_Mem) (x2 : Int32) (x3 : Int32) (x4 : Int32) (x5 : Int32) (x6 : Int32) (x8 : Int32) (x10 : Int32) (x12 : Int32), rv_M (lk_G D cI cZ cO de z0 o k) (fun q => z0 ≤ q) p l e rmp_areFacts s m args below meth c 0 0 (lk_qRZ D cI cZ cO de z0 o k gh A below args s 0 0) (gp_areFacts_340 gh A k292 M x2 x3 x4 x5 x6 x8 x10 x12) 340 [some (.ref o), some (.ref (k 0)), some (.int x2), some (.int x3), some (.int x4), some (.int x5), some (.int x6), none, some (.int x8), none, some (.int x10), none, some (.int x12), none, none, none, none] [] (gh, M, A) := by
  intro M x2 x3 x4 x5 x6 x8 x10 x12
  unfold gp_areFacts_340
  refine rv_iconst (q := 341) E.x dL_areFacts_340 rv_ki0 rfl ?_
  refine rv_wk [true, true, true, true, true, true, true, false, true, false, true, false, true, false, false, false, false] ?_
  exact bp_areFacts_341 E gh A k292 h292 M x2 x3 x4 x5 x6 x8 x10 x12 false
set_option maxRecDepth 100000 in
theorem bp_areFacts_526 {p : Program} {l : Launch} {e : Env} {s : State} {m : MethodId} {args : Array Value} {below : List Frame} {meth : Method} {c : Code} {D : va_G} {cI cZ cO : ClassId} {mi de z0 o b L : Nat} {k : Nat → Nat} {xs : Nat → Int32} (E : lk_E D cI cZ cO mi de z0 b L k xs cL_areFacts 17 (some .boolean) p l s m args meth c) (gh : rC_gh) (A : rv_Mem)   : ∀ (M : rv_Mem) (x2 : Int32) (x10 : Int32) (x16 : Int32) (s0 : Bool) (s1 : Bool), rv_M (lk_G D cI cZ cO de z0 o k) (fun q => z0 ≤ q) p l e rmp_areFacts s m args below meth c 0 0 (lk_qRZ D cI cZ cO de z0 o k gh A below args s 0 0) (gp_areFacts_526 gh A M x2 x10 x16 s0 s1) 526 [some (.ref o), none, some (.int x2), none, none, none, none, none, none, none, some (.int x10), none, none, none, none, none, some (.int x16)] [.int (rv_i s1), .int (rv_i s0)] (gh, M, A) := by
  intro M x2 x10 x16 s0 s1
  unfold gp_areFacts_526
  refine rv_icmp_ne (q := 529) (tgt := 553) E.x dL_areFacts_526 (by decide) rfl ?_ ?_
  · refine rv_aload_n (q := 530) E.x dL_areFacts_529 rfl rfl ?_
    refine rv_iload_n (q := 531) E.x dL_areFacts_530 rfl rfl ?_
    refine lk_x1r (fun r2 e1 => ?_) (fun w3 e4 => rv_stuck)
    refine lk_ci (q := 534) (v := r2) (M1 := M) E (fun u hI _ => c11_lacks E.2.2.1.1 hI e1) gP_164 hX11_lacks ⟨rfl, rfl⟩ ⟨Nat.le_of_ble_eq_true rfl, Nat.le_of_ble_eq_true rfl⟩ ⟨Nat.le_of_ble_eq_true rfl, Nat.le_of_ble_eq_true rfl⟩ rfl rfl rfl (Nat.le_of_ble_eq_true rfl) dL_areFacts_531 rfl ?_
    refine rv_iload (q := 536) E.x dL_areFacts_534 rfl rfl ?_
    refine rv_icmp_ne (q := 539) (tgt := 553) E.x dL_areFacts_536 (by decide) rfl ?_ ?_
    · refine rv_aload_n (q := 540) E.x dL_areFacts_539 rfl rfl ?_
      refine rv_iload_n (q := 541) E.x dL_areFacts_540 rfl rfl ?_
      refine lk_x1r (fun r6 e5 => ?_) (fun w7 e8 => rv_stuck)
      refine lk_ci (q := 544) (v := r6) (M1 := M) E (fun u hI _ => c11_fewest E.2.2.1.1 hI e5) gP_161 hX11_fewest ⟨rfl, rfl⟩ ⟨Nat.le_of_ble_eq_true rfl, Nat.le_of_ble_eq_true rfl⟩ ⟨Nat.le_of_ble_eq_true rfl, Nat.le_of_ble_eq_true rfl⟩ rfl rfl rfl (Nat.le_of_ble_eq_true rfl) dL_areFacts_541 rfl ?_
      refine rv_iload (q := 546) E.x dL_areFacts_544 rfl rfl ?_
      refine rv_icmp_ne (q := 549) (tgt := 553) E.x dL_areFacts_546 (by decide) rfl ?_ ?_
      · refine rv_iconst (q := 550) E.x dL_areFacts_549 rv_ki1 rfl ?_
        refine rv_goto (q := 554) E.x dL_areFacts_550 (by decide) ?_
        exact lk_zret E true rfl ⟨Nat.le_of_ble_eq_true rfl, Nat.le_of_ble_eq_true rfl⟩ dL_areFacts_554
      · refine rv_iconst (q := 554) E.x dL_areFacts_553 rv_ki0 rfl ?_
        exact lk_zret E false rfl ⟨Nat.le_of_ble_eq_true rfl, Nat.le_of_ble_eq_true rfl⟩ dL_areFacts_554
    · refine rv_iconst (q := 554) E.x dL_areFacts_553 rv_ki0 rfl ?_
      exact lk_zret E false rfl ⟨Nat.le_of_ble_eq_true rfl, Nat.le_of_ble_eq_true rfl⟩ dL_areFacts_554
  · refine rv_iconst (q := 554) E.x dL_areFacts_553 rv_ki0 rfl ?_
    exact lk_zret E false rfl ⟨Nat.le_of_ble_eq_true rfl, Nat.le_of_ble_eq_true rfl⟩ dL_areFacts_554
set_option maxRecDepth 100000 in
theorem bp_areFacts_516 {p : Program} {l : Launch} {e : Env} {s : State} {m : MethodId} {args : Array Value} {below : List Frame} {meth : Method} {c : Code} {D : va_G} {cI cZ cO : ClassId} {mi de z0 o b L : Nat} {k : Nat → Nat} {xs : Nat → Int32} (E : lk_E D cI cZ cO mi de z0 b L k xs cL_areFacts 17 (some .boolean) p l s m args meth c) (gh : rC_gh) (A : rv_Mem)   : ∀ (M : rv_Mem) (x2 : Int32) (x10 : Int32) (x16 : Int32) (s0 : Bool), rv_M (lk_G D cI cZ cO de z0 o k) (fun q => z0 ≤ q) p l e rmp_areFacts s m args below meth c 0 0 (lk_qRZ D cI cZ cO de z0 o k gh A below args s 0 0) (gp_areFacts_516 gh A M x2 x10 x16 s0) 516 [some (.ref o), none, some (.int x2), none, none, none, none, none, none, none, some (.int x10), none, none, none, none, none, some (.int x16)] [.int (rv_i s0)] (gh, M, A) := by
  intro M x2 x10 x16 s0
  unfold gp_areFacts_516
  refine rv_iload (q := 518) E.x dL_areFacts_516 rfl rfl ?_
  refine rv_if_ne (q := 521) (tgt := 525) E.x dL_areFacts_518 (by decide) rfl ?_ ?_
  · refine rv_iconst (q := 522) E.x dL_areFacts_521 rv_ki1 rfl ?_
    refine rv_goto (q := 526) E.x dL_areFacts_522 (by decide) ?_
    refine rv_wk [true, false, true, false, false, false, false, false, false, false, true, false, false, false, false, false, true] ?_
    exact bp_areFacts_526 E gh A M x2 x10 x16 s0 true
  · refine rv_iconst (q := 526) E.x dL_areFacts_525 rv_ki0 rfl ?_
    refine rv_wk [true, false, true, false, false, false, false, false, false, false, true, false, false, false, false, false, true] ?_
    exact bp_areFacts_526 E gh A M x2 x10 x16 s0 false
set_option maxRecDepth 100000 in
theorem bp_areFacts_502 {p : Program} {l : Launch} {e : Env} {s : State} {m : MethodId} {args : Array Value} {below : List Frame} {meth : Method} {c : Code} {D : va_G} {cI cZ cO : ClassId} {mi de z0 o b L : Nat} {k : Nat → Nat} {xs : Nat → Int32} (E : lk_E D cI cZ cO mi de z0 b L k xs cL_areFacts 17 (some .boolean) p l s m args meth c) (gh : rC_gh) (A : rv_Mem)   : ∀ (M : rv_Mem) (x2 : Int32) (x10 : Int32) (x15 : Int32) (x16 : Int32), rv_M (lk_G D cI cZ cO de z0 o k) (fun q => z0 ≤ q) p l e rmp_areFacts s m args below meth c 0 0 (lk_qRZ D cI cZ cO de z0 o k gh A below args s 0 0) (gp_areFacts_502 gh A M x2 x10 x15 x16) 502 [some (.ref o), none, some (.int x2), none, none, none, none, none, none, none, some (.int x10), none, none, none, none, some (.int x15), some (.int x16)] [] (gh, M, A) := by
  intro M x2 x10 x15 x16
  unfold gp_areFacts_502
  refine rv_iload (q := 504) E.x dL_areFacts_502 rfl rfl ?_
  refine rv_bipush (q := 506) E.x dL_areFacts_504 rv_kb15 rfl ?_
  refine rv_ishr (q := 507) E.x dL_areFacts_506 rfl ?_
  refine rv_iconst (q := 508) E.x dL_areFacts_507 rv_ki1 rfl ?_
  refine rv_icmp_ne (q := 511) (tgt := 515) E.x dL_areFacts_508 (by decide) rfl ?_ ?_
  · refine rv_iconst (q := 512) E.x dL_areFacts_511 rv_ki1 rfl ?_
    refine rv_goto (q := 516) E.x dL_areFacts_512 (by decide) ?_
    refine rv_wk [true, false, true, false, false, false, false, false, false, false, true, false, false, false, false, false, true] ?_
    exact bp_areFacts_516 E gh A M x2 x10 x16 true
  · refine rv_iconst (q := 516) E.x dL_areFacts_515 rv_ki0 rfl ?_
    refine rv_wk [true, false, true, false, false, false, false, false, false, false, true, false, false, false, false, false, true] ?_
    exact bp_areFacts_516 E gh A M x2 x10 x16 false
set_option maxRecDepth 100000 in
theorem bp_areFacts_454 {p : Program} {l : Launch} {e : Env} {s : State} {m : MethodId} {args : Array Value} {below : List Frame} {meth : Method} {c : Code} {D : va_G} {cI cZ cO : ClassId} {mi de z0 o b L : Nat} {k : Nat → Nat} {xs : Nat → Int32} (E : lk_E D cI cZ cO mi de z0 b L k xs cL_areFacts 17 (some .boolean) p l s m args meth c) (gh : rC_gh) (A : rv_Mem)   : ∀ (M : rv_Mem) (x2 : Int32) (x3 : Int32) (x10 : Int32) (s0 : Int32) (s1 : Int32), rv_M (lk_G D cI cZ cO de z0 o k) (fun q => z0 ≤ q) p l e rmp_areFacts s m args below meth c 0 0 (lk_qRZ D cI cZ cO de z0 o k gh A below args s 0 0) (gp_areFacts_454 gh A M x2 x3 x10 s0 s1) 454 [some (.ref o), none, some (.int x2), some (.int x3), none, none, none, none, none, none, some (.int x10), none, none, none, none, none, none] [.int s1, .int s0] (gh, M, A) := by
  intro M x2 x3 x10 s0 s1
  unfold gp_areFacts_454
  refine rv_ior (q := 455) E.x dL_areFacts_454 rfl ?_
  refine rv_istore (q := 457) (lv' := [_, _, _, _, _, _, _, _, _, _, _, _, _, _, _, _, _]) E.x dL_areFacts_455 (Nat.le_of_ble_eq_true rfl) rfl rfl rfl ?_
  refine rv_aload_n (q := 458) E.x dL_areFacts_457 rfl rfl ?_
  refine rv_iload_n (q := 459) E.x dL_areFacts_458 rfl rfl ?_
  refine lk_x1r (fun r2 e1 => ?_) (fun w3 e4 => rv_stuck)
  refine lk_ci (q := 462) (v := r2) (M1 := M) E (fun u hI _ => c11_statements E.2.2.1.1 hI e1) gP_146 hX11_statements ⟨rfl, rfl⟩ ⟨Nat.le_of_ble_eq_true rfl, Nat.le_of_ble_eq_true rfl⟩ ⟨Nat.le_of_ble_eq_true rfl, Nat.le_of_ble_eq_true rfl⟩ rfl rfl rfl (Nat.le_of_ble_eq_true rfl) dL_areFacts_459 rfl ?_
  refine rv_istore (q := 464) (lv' := [_, _, _, _, _, _, _, _, _, _, _, _, _, _, _, _, _]) E.x dL_areFacts_462 (Nat.le_of_ble_eq_true rfl) rfl rfl rfl ?_
  refine rv_bipush (q := 466) E.x dL_areFacts_464 rv_kb7 rfl ?_
  refine rv_iload (q := 468) E.x dL_areFacts_466 rfl rfl ?_
  refine rv_iconst (q := 469) E.x dL_areFacts_468 rv_kim1 rfl ?_
  refine rv_ixor (q := 470) E.x dL_areFacts_469 rfl ?_
  refine rv_iand (q := 471) E.x dL_areFacts_470 rfl ?_
  refine rv_iload (q := 473) E.x dL_areFacts_471 rfl rfl ?_
  refine rv_bipush (q := 475) E.x dL_areFacts_473 rv_kb48 rfl ?_
  refine rv_iand (q := 476) E.x dL_areFacts_475 rfl ?_
  refine rv_ior (q := 477) E.x dL_areFacts_476 rfl ?_
  refine rv_istore (q := 479) (lv' := [_, _, _, _, _, _, _, _, _, _, _, _, _, _, _, _, _]) E.x dL_areFacts_477 (Nat.le_of_ble_eq_true rfl) rfl rfl rfl ?_
  refine rv_iload (q := 481) E.x dL_areFacts_479 rfl rfl ?_
  refine rv_bipush (q := 483) E.x dL_areFacts_481 rv_kb127 rfl ?_
  refine rv_iand (q := 484) E.x dL_areFacts_483 rfl ?_
  refine rv_iload (q := 486) E.x dL_areFacts_484 rfl rfl ?_
  refine rv_icmp_ne (q := 489) (tgt := 553) E.x dL_areFacts_486 (by decide) rfl ?_ ?_
  · refine rv_iload (q := 491) E.x dL_areFacts_489 rfl rfl ?_
    refine rv_sipush (q := 494) E.x dL_areFacts_491 rv_ks128 rfl ?_
    refine rv_iand (q := 495) E.x dL_areFacts_494 rfl ?_
    refine rv_if_eq (q := 498) (tgt := 502) E.x dL_areFacts_495 (by decide) rfl ?_ ?_
    · refine rv_iload_n (q := 499) E.x dL_areFacts_498 rfl rfl ?_
      refine rv_if_eq (q := 502) (tgt := 553) E.x dL_areFacts_499 (by decide) rfl ?_ ?_
      · refine rv_wk [true, false, true, false, false, false, false, false, false, false, true, false, false, false, false, true, true] ?_
        exact bp_areFacts_502 E gh A M x2 x10 r2 ((7 &&& (r2 ^^^ (-1))) ||| (r2 &&& 48))
      · refine rv_iconst (q := 554) E.x dL_areFacts_553 rv_ki0 rfl ?_
        exact lk_zret E false rfl ⟨Nat.le_of_ble_eq_true rfl, Nat.le_of_ble_eq_true rfl⟩ dL_areFacts_554
    · refine rv_wk [true, false, true, false, false, false, false, false, false, false, true, false, false, false, false, true, true] ?_
      exact bp_areFacts_502 E gh A M x2 x10 r2 ((7 &&& (r2 ^^^ (-1))) ||| (r2 &&& 48))
  · refine rv_iconst (q := 554) E.x dL_areFacts_553 rv_ki0 rfl ?_
    exact lk_zret E false rfl ⟨Nat.le_of_ble_eq_true rfl, Nat.le_of_ble_eq_true rfl⟩ dL_areFacts_554
set_option maxRecDepth 100000 in
theorem bp_areFacts_432 {p : Program} {l : Launch} {e : Env} {s : State} {m : MethodId} {args : Array Value} {below : List Frame} {meth : Method} {c : Code} {D : va_G} {cI cZ cO : ClassId} {mi de z0 o b L : Nat} {k : Nat → Nat} {xs : Nat → Int32} (E : lk_E D cI cZ cO mi de z0 b L k xs cL_areFacts 17 (some .boolean) p l s m args meth c) (gh : rC_gh) (A : rv_Mem)   : ∀ (M : rv_Mem) (x2 : Int32) (x3 : Int32) (x10 : Int32) (x13 : Bool) (s0 : Int32) (s1 : Int32), rv_M (lk_G D cI cZ cO de z0 o k) (fun q => z0 ≤ q) p l e rmp_areFacts s m args below meth c 0 0 (lk_qRZ D cI cZ cO de z0 o k gh A below args s 0 0) (gp_areFacts_432 gh A M x2 x3 x10 x13 s0 s1) 432 [some (.ref o), some (.ref (k 0)), some (.int x2), some (.int x3), none, none, none, none, none, none, some (.int x10), none, none, some (.int (rv_i x13)), none, none, none] [.int s1, .int s0] (gh, M, A) := by
  intro M x2 x3 x10 x13 s0 s1
  unfold gp_areFacts_432
  refine rv_ior (q := 433) E.x dL_areFacts_432 rfl ?_
  refine rv_aload_n (q := 434) E.x dL_areFacts_433 rfl rfl ?_
  refine rv_iconst (q := 435) E.x dL_areFacts_434 rv_ki4 rfl ?_
  refine rv_iload_n (q := 436) E.x dL_areFacts_435 rfl rfl ?_
  refine rv_imul (q := 437) E.x dL_areFacts_436 rfl ?_
  refine rv_iconst (q := 438) E.x dL_areFacts_437 rv_ki1 rfl ?_
  refine rv_iadd (q := 439) E.x dL_areFacts_438 rfl ?_
  refine lk_ald (q := 440) E 0 (by decide) dL_areFacts_439 rfl ?_
  refine rv_iconst (q := 441) E.x dL_areFacts_440 rv_ki4 rfl ?_
  refine rv_ishl (q := 442) E.x dL_areFacts_441 rfl ?_
  refine rv_ior (q := 443) E.x dL_areFacts_442 rfl ?_
  refine rv_iload (q := 445) E.x dL_areFacts_443 rfl rfl ?_
  refine rv_ifz_eq (q := 448) (tgt := 453) E.x dL_areFacts_445 (by decide) rfl ?_ ?_
  · refine rv_bipush (q := 450) E.x dL_areFacts_448 rv_kb64 rfl ?_
    refine rv_goto (q := 454) E.x dL_areFacts_450 (by decide) ?_
    refine rv_wk [true, false, true, true, false, false, false, false, false, false, true, false, false, false, false, false, false] ?_
    exact bp_areFacts_454 E gh A M x2 x3 x10 ((s0 ||| s1) ||| ((A 0 (((4 * x2) + 1)).toNatClampNeg) <<< ((4 : Int32) &&& 31))) 64
  · refine rv_iconst (q := 454) E.x dL_areFacts_453 rv_ki0 rfl ?_
    refine rv_wk [true, false, true, true, false, false, false, false, false, false, true, false, false, false, false, false, false] ?_
    exact bp_areFacts_454 E gh A M x2 x3 x10 ((s0 ||| s1) ||| ((A 0 (((4 * x2) + 1)).toNatClampNeg) <<< ((4 : Int32) &&& 31))) 0
set_option maxRecDepth 100000 in
theorem bp_areFacts_417 {p : Program} {l : Launch} {e : Env} {s : State} {m : MethodId} {args : Array Value} {below : List Frame} {meth : Method} {c : Code} {D : va_G} {cI cZ cO : ClassId} {mi de z0 o b L : Nat} {k : Nat → Nat} {xs : Nat → Int32} (E : lk_E D cI cZ cO mi de z0 b L k xs cL_areFacts 17 (some .boolean) p l s m args meth c) (gh : rC_gh) (A : rv_Mem)   : ∀ (M : rv_Mem) (x2 : Int32) (x3 : Int32) (x10 : Int32) (x13 : Bool) (s0 : Int32) (s1 : Int32), rv_M (lk_G D cI cZ cO de z0 o k) (fun q => z0 ≤ q) p l e rmp_areFacts s m args below meth c 0 0 (lk_qRZ D cI cZ cO de z0 o k gh A below args s 0 0) (gp_areFacts_417 gh A M x2 x3 x10 x13 s0 s1) 417 [some (.ref o), some (.ref (k 0)), some (.int x2), some (.int x3), none, none, none, none, none, none, some (.int x10), none, none, some (.int (rv_i x13)), none, none, none] [.int s1, .int s0] (gh, M, A) := by
  intro M x2 x3 x10 x13 s0 s1
  unfold gp_areFacts_417
  refine rv_ior (q := 418) E.x dL_areFacts_417 rfl ?_
  refine rv_aload_n (q := 419) E.x dL_areFacts_418 rfl rfl ?_
  refine rv_iload_n (q := 420) E.x dL_areFacts_419 rfl rfl ?_
  refine lk_x1r (fun r2 e1 => ?_) (fun w3 e4 => rv_stuck)
  refine lk_ci (q := 423) (v := r2) (M1 := M) E (fun u hI _ => c11_unresolved E.2.2.1.1 hI e1) gP_167 hX11_unresolved ⟨rfl, rfl⟩ ⟨Nat.le_of_ble_eq_true rfl, Nat.le_of_ble_eq_true rfl⟩ ⟨Nat.le_of_ble_eq_true rfl, Nat.le_of_ble_eq_true rfl⟩ rfl rfl rfl (Nat.le_of_ble_eq_true rfl) dL_areFacts_420 rfl ?_
  refine rv_if_ne (q := 426) (tgt := 431) E.x dL_areFacts_423 (by decide) rfl ?_ ?_
  · refine rv_bipush (q := 428) E.x dL_areFacts_426 rv_kb8 rfl ?_
    refine rv_goto (q := 432) E.x dL_areFacts_428 (by decide) ?_
    refine rv_wk [true, true, true, true, false, false, false, false, false, false, true, false, false, true, false, false, false] ?_
    exact bp_areFacts_432 E gh A M x2 x3 x10 x13 (s0 ||| s1) 8
  · refine rv_iconst (q := 432) E.x dL_areFacts_431 rv_ki0 rfl ?_
    refine rv_wk [true, true, true, true, false, false, false, false, false, false, true, false, false, true, false, false, false] ?_
    exact bp_areFacts_432 E gh A M x2 x3 x10 x13 (s0 ||| s1) 0
set_option maxRecDepth 100000 in
theorem bp_areFacts_416 {p : Program} {l : Launch} {e : Env} {s : State} {m : MethodId} {args : Array Value} {below : List Frame} {meth : Method} {c : Code} {D : va_G} {cI cZ cO : ClassId} {mi de z0 o b L : Nat} {k : Nat → Nat} {xs : Nat → Int32} (E : lk_E D cI cZ cO mi de z0 b L k xs cL_areFacts 17 (some .boolean) p l s m args meth c) (gh : rC_gh) (A : rv_Mem)   : ∀ (M : rv_Mem) (x2 : Int32) (x3 : Int32) (x10 : Int32) (x13 : Bool) (s0 : Int32), rv_M (lk_G D cI cZ cO de z0 o k) (fun q => z0 ≤ q) p l e rmp_areFacts s m args below meth c 0 0 (lk_qRZ D cI cZ cO de z0 o k gh A below args s 0 0) (gp_areFacts_416 gh A M x2 x3 x10 x13 s0) 416 [some (.ref o), some (.ref (k 0)), some (.int x2), some (.int x3), none, none, none, none, none, none, some (.int x10), none, none, some (.int (rv_i x13)), none, none, none] [.int s0] (gh, M, A) := by
  intro M x2 x3 x10 x13 s0
  unfold gp_areFacts_416
  refine rv_iconst (q := 417) E.x dL_areFacts_416 rv_ki0 rfl ?_
  refine rv_wk [true, true, true, true, false, false, false, false, false, false, true, false, false, true, false, false, false] ?_
  exact bp_areFacts_417 E gh A M x2 x3 x10 x13 s0 0
set_option maxRecDepth 100000 in
theorem bp_areFacts_401 {p : Program} {l : Launch} {e : Env} {s : State} {m : MethodId} {args : Array Value} {below : List Frame} {meth : Method} {c : Code} {D : va_G} {cI cZ cO : ClassId} {mi de z0 o b L : Nat} {k : Nat → Nat} {xs : Nat → Int32} (E : lk_E D cI cZ cO mi de z0 b L k xs cL_areFacts 17 (some .boolean) p l s m args meth c) (gh : rC_gh) (A : rv_Mem)   : ∀ (M : rv_Mem) (x2 : Int32) (x3 : Int32) (x5 : Int32) (x6 : Int32) (x10 : Int32) (x13 : Bool) (s0 : Bool) (s1 : Int32), rv_M (lk_G D cI cZ cO de z0 o k) (fun q => z0 ≤ q) p l e rmp_areFacts s m args below meth c 0 0 (lk_qRZ D cI cZ cO de z0 o k gh A below args s 0 0) (gp_areFacts_401 gh A M x2 x3 x5 x6 x10 x13 s0 s1) 401 [some (.ref o), some (.ref (k 0)), some (.int x2), some (.int x3), none, some (.int x5), some (.int x6), none, none, none, some (.int x10), none, none, some (.int (rv_i x13)), none, none, none] [.int s1, .int (rv_i s0)] (gh, M, A) := by
  intro M x2 x3 x5 x6 x10 x13 s0 s1
  unfold gp_areFacts_401
  refine rv_ior (q := 402) E.x dL_areFacts_401 rfl ?_
  refine rv_iload (q := 404) E.x dL_areFacts_402 rfl rfl ?_
  refine rv_if_le (q := 407) (tgt := 416) E.x dL_areFacts_404 (by decide) rfl ?_ ?_
  · refine rv_iload (q := 409) E.x dL_areFacts_407 rfl rfl ?_
    refine rv_if_ne (q := 412) (tgt := 416) E.x dL_areFacts_409 (by decide) rfl ?_ ?_
    · refine rv_iconst (q := 413) E.x dL_areFacts_412 rv_ki4 rfl ?_
      refine rv_goto (q := 417) E.x dL_areFacts_413 (by decide) ?_
      refine rv_wk [true, true, true, true, false, false, false, false, false, false, true, false, false, true, false, false, false] ?_
      exact bp_areFacts_417 E gh A M x2 x3 x10 x13 ((rv_i s0) ||| s1) 4
    · refine rv_wk [true, true, true, true, false, false, false, false, false, false, true, false, false, true, false, false, false] ?_
      exact bp_areFacts_416 E gh A M x2 x3 x10 x13 ((rv_i s0) ||| s1)
  · refine rv_wk [true, true, true, true, false, false, false, false, false, false, true, false, false, true, false, false, false] ?_
    exact bp_areFacts_416 E gh A M x2 x3 x10 x13 ((rv_i s0) ||| s1)
set_option maxRecDepth 100000 in
theorem bp_areFacts_391 {p : Program} {l : Launch} {e : Env} {s : State} {m : MethodId} {args : Array Value} {below : List Frame} {meth : Method} {c : Code} {D : va_G} {cI cZ cO : ClassId} {mi de z0 o b L : Nat} {k : Nat → Nat} {xs : Nat → Int32} (E : lk_E D cI cZ cO mi de z0 b L k xs cL_areFacts 17 (some .boolean) p l s m args meth c) (gh : rC_gh) (A : rv_Mem)   : ∀ (M : rv_Mem) (x2 : Int32) (x3 : Int32) (x4 : Int32) (x5 : Int32) (x6 : Int32) (x10 : Int32) (x13 : Bool) (s0 : Bool), rv_M (lk_G D cI cZ cO de z0 o k) (fun q => z0 ≤ q) p l e rmp_areFacts s m args below meth c 0 0 (lk_qRZ D cI cZ cO de z0 o k gh A below args s 0 0) (gp_areFacts_391 gh A M x2 x3 x4 x5 x6 x10 x13 s0) 391 [some (.ref o), some (.ref (k 0)), some (.int x2), some (.int x3), some (.int x4), some (.int x5), some (.int x6), none, none, none, some (.int x10), none, none, some (.int (rv_i x13)), none, none, none] [.int (rv_i s0)] (gh, M, A) := by
  intro M x2 x3 x4 x5 x6 x10 x13 s0
  unfold gp_areFacts_391
  refine rv_iload (q := 393) E.x dL_areFacts_391 rfl rfl ?_
  refine rv_if_ne (q := 396) (tgt := 400) E.x dL_areFacts_393 (by decide) rfl ?_ ?_
  · refine rv_iconst (q := 397) E.x dL_areFacts_396 rv_ki2 rfl ?_
    refine rv_goto (q := 401) E.x dL_areFacts_397 (by decide) ?_
    refine rv_wk [true, true, true, true, false, true, true, false, false, false, true, false, false, true, false, false, false] ?_
    exact bp_areFacts_401 E gh A M x2 x3 x5 x6 x10 x13 s0 2
  · refine rv_iconst (q := 401) E.x dL_areFacts_400 rv_ki0 rfl ?_
    refine rv_wk [true, true, true, true, false, true, true, false, false, false, true, false, false, true, false, false, false] ?_
    exact bp_areFacts_401 E gh A M x2 x3 x5 x6 x10 x13 s0 0
set_option maxRecDepth 100000 in
theorem bp_areFacts_379 {p : Program} {l : Launch} {e : Env} {s : State} {m : MethodId} {args : Array Value} {below : List Frame} {meth : Method} {c : Code} {D : va_G} {cI cZ cO : ClassId} {mi de z0 o b L : Nat} {k : Nat → Nat} {xs : Nat → Int32} (E : lk_E D cI cZ cO mi de z0 b L k xs cL_areFacts 17 (some .boolean) p l s m args meth c) (gh : rC_gh) (A : rv_Mem)   : ∀ (M : rv_Mem) (x2 : Int32) (x3 : Int32) (x4 : Int32) (x5 : Int32) (x6 : Int32) (x9 : Bool) (x10 : Int32) (s0 : Bool), rv_M (lk_G D cI cZ cO de z0 o k) (fun q => z0 ≤ q) p l e rmp_areFacts s m args below meth c 0 0 (lk_qRZ D cI cZ cO de z0 o k gh A below args s 0 0) (gp_areFacts_379 gh A M x2 x3 x4 x5 x6 x9 x10 s0) 379 [some (.ref o), some (.ref (k 0)), some (.int x2), some (.int x3), some (.int x4), some (.int x5), some (.int x6), none, none, some (.int (rv_i x9)), some (.int x10), none, none, none, none, none, none] [.int (rv_i s0)] (gh, M, A) := by
  intro M x2 x3 x4 x5 x6 x9 x10 s0
  unfold gp_areFacts_379
  refine rv_istore (q := 381) (lv' := [_, _, _, _, _, _, _, _, _, _, _, _, _, _, _, _, _]) E.x dL_areFacts_379 (Nat.le_of_ble_eq_true rfl) rfl rfl rfl ?_
  refine rv_iload (q := 383) E.x dL_areFacts_381 rfl rfl ?_
  refine rv_ifz_eq (q := 386) (tgt := 390) E.x dL_areFacts_383 (by decide) rfl ?_ ?_
  · refine rv_iconst (q := 387) E.x dL_areFacts_386 rv_ki1 rfl ?_
    refine rv_goto (q := 391) E.x dL_areFacts_387 (by decide) ?_
    refine rv_wk [true, true, true, true, true, true, true, false, false, false, true, false, false, true, false, false, false] ?_
    exact bp_areFacts_391 E gh A M x2 x3 x4 x5 x6 x10 s0 true
  · refine rv_iconst (q := 391) E.x dL_areFacts_390 rv_ki0 rfl ?_
    refine rv_wk [true, true, true, true, true, true, true, false, false, false, true, false, false, true, false, false, false] ?_
    exact bp_areFacts_391 E gh A M x2 x3 x4 x5 x6 x10 s0 false
set_option maxRecDepth 100000 in
theorem bp_areFacts_374 {p : Program} {l : Launch} {e : Env} {s : State} {m : MethodId} {args : Array Value} {below : List Frame} {meth : Method} {c : Code} {D : va_G} {cI cZ cO : ClassId} {mi de z0 o b L : Nat} {k : Nat → Nat} {xs : Nat → Int32} (E : lk_E D cI cZ cO mi de z0 b L k xs cL_areFacts 17 (some .boolean) p l s m args meth c) (gh : rC_gh) (A : rv_Mem)   : ∀ (M : rv_Mem) (x2 : Int32) (x3 : Int32) (x4 : Int32) (x5 : Int32) (x6 : Int32) (x9 : Bool) (x10 : Int32), rv_M (lk_G D cI cZ cO de z0 o k) (fun q => z0 ≤ q) p l e rmp_areFacts s m args below meth c 0 0 (lk_qRZ D cI cZ cO de z0 o k gh A below args s 0 0) (gp_areFacts_374 gh A M x2 x3 x4 x5 x6 x9 x10) 374 [some (.ref o), some (.ref (k 0)), some (.int x2), some (.int x3), some (.int x4), some (.int x5), some (.int x6), none, none, some (.int (rv_i x9)), some (.int x10), none, none, none, none, none, none] [] (gh, M, A) := by
  intro M x2 x3 x4 x5 x6 x9 x10
  unfold gp_areFacts_374
  refine rv_iconst (q := 375) E.x dL_areFacts_374 rv_ki1 rfl ?_
  refine rv_goto (q := 379) E.x dL_areFacts_375 (by decide) ?_
  refine rv_wk [true, true, true, true, true, true, true, false, false, true, true, false, false, false, false, false, false] ?_
  exact bp_areFacts_379 E gh A M x2 x3 x4 x5 x6 x9 x10 true
set_option maxRecDepth 100000 in
theorem bp_areFacts_292_s {p : Program} {l : Launch} {e : Env} {s : State} {m : MethodId} {args : Array Value} {below : List Frame} {meth : Method} {c : Code} {D : va_G} {cI cZ cO : ClassId} {mi de z0 o b L : Nat} {k : Nat → Nat} {xs : Nat → Int32} (E : lk_E D cI cZ cO mi de z0 b L k xs cL_areFacts 17 (some .boolean) p l s m args meth c) (gh : rC_gh) (A : rv_Mem)   (k292 : rv_Mem → Int32 → Int32 → Int32 → Int32 → Int32 → Int32 → Bool → Int32 → Int32 → Option (Bool × rv_Mem)) (h292 : ∀ (M : rv_Mem) (x2 : Int32) (x3 : Int32) (x4 : Int32) (x5 : Int32) (x6 : Int32) (x8 : Int32) (x9 : Bool) (x10 : Int32) (x12 : Int32), rv_M (lk_G D cI cZ cO de z0 o k) (fun q => z0 ≤ q) p l e rmp_areFacts s m args below meth c 0 0 (lk_qRZ D cI cZ cO de z0 o k gh A below args s 0 0) (k292 M x2 x3 x4 x5 x6 x8 x9 x10 x12) 292 [some (.ref o), some (.ref (k 0)), some (.int x2), some (.int x3), some (.int x4), some (.int x5), some (.int x6), none, some (.int x8), some (.int (rv_i x9)), some (.int x10), none, some (.int x12), none, none, none, none] [] (gh, M, A)) : ∀ (M : rv_Mem) (x2 : Int32) (x3 : Int32) (x4 : Int32) (x5 : Int32) (x6 : Int32) (x8 : Int32) (x9 : Bool) (x10 : Int32) (x12 : Int32), rv_M (lk_G D cI cZ cO de z0 o k) (fun q => z0 ≤ q) p l e rmp_areFacts s m args below meth c 0 0 (lk_qRZ D cI cZ cO de z0 o k gh A below args s 0 0) (gp_areFacts_292_s gh A k292 M x2 x3 x4 x5 x6 x8 x9 x10 x12) 292 [some (.ref o), some (.ref (k 0)), some (.int x2), some (.int x3), some (.int x4), some (.int x5), some (.int x6), none, some (.int x8), some (.int (rv_i x9)), some (.int x10), none, some (.int x12), none, none, none, none] [] (gh, M, A) := by
  intro M x2 x3 x4 x5 x6 x8 x9 x10 x12
  unfold gp_areFacts_292_s
  refine rv_iload (q := 294) E.x dL_areFacts_292 rfl rfl ?_
  refine rv_iconst (q := 295) E.x dL_areFacts_294 rv_ki4 rfl ?_
  refine rv_icmp_ge (q := 298) (tgt := 349) E.x dL_areFacts_295 (by decide) rfl ?_ ?_
  · refine rv_iload (q := 300) E.x dL_areFacts_298 rfl rfl ?_
    refine rv_ifz_eq (q := 303) (tgt := 340) E.x dL_areFacts_300 (by decide) rfl ?_ ?_
    · refine rv_aload_n (q := 304) E.x dL_areFacts_303 rfl rfl ?_
      refine rv_iload_n (q := 305) E.x dL_areFacts_304 rfl rfl ?_
      refine rv_iload (q := 307) E.x dL_areFacts_305 rfl rfl ?_
      refine rv_b2 (fun r2 M3 e1 => ?_)
      refine lk_cs0 (q := 310) (v := (rv_i r2)) (σ' := (gh, M3, A)) E (wP_isChanged E.2.2.1 e1) gPs_229 hP_isChanged ⟨rfl, rfl⟩ ⟨Nat.le_of_ble_eq_true rfl, Nat.le_of_ble_eq_true rfl⟩ ⟨Nat.le_of_ble_eq_true rfl, Nat.le_of_ble_eq_true rfl⟩ rfl rfl rfl (Nat.le_of_ble_eq_true rfl) dL_areFacts_307 rfl ?_
      refine rv_ifz_eq (q := 313) (tgt := 336) E.x dL_areFacts_310 (by decide) rfl ?_ ?_
      · refine rv_aload_n (q := 314) E.x dL_areFacts_313 rfl rfl ?_
        refine rv_iload (q := 316) E.x dL_areFacts_314 rfl rfl ?_
        refine rv_iload (q := 318) E.x dL_areFacts_316 rfl rfl ?_
        refine lk_x1r (fun r5 e4 => ?_) (fun w6 e7 => rv_stuck)
        refine lk_ci (q := 321) (v := r5) (M1 := M3) E (fun u hI _ => c11_owners E.2.2.1.1 hI e4) gP_139 hX11_owners ⟨rfl, rfl⟩ ⟨Nat.le_of_ble_eq_true rfl, Nat.le_of_ble_eq_true rfl⟩ ⟨Nat.le_of_ble_eq_true rfl, Nat.le_of_ble_eq_true rfl⟩ rfl rfl rfl (Nat.le_of_ble_eq_true rfl) dL_areFacts_318 rfl ?_
        refine rv_iload_n (q := 322) E.x dL_areFacts_321 rfl rfl ?_
        refine rv_iand (q := 323) E.x dL_areFacts_322 rfl ?_
        refine rv_iconst (q := 324) E.x dL_areFacts_323 rv_ki1 rfl ?_
        refine rv_aload_n (q := 325) E.x dL_areFacts_324 rfl rfl ?_
        refine rv_iconst (q := 326) E.x dL_areFacts_325 rv_ki4 rfl ?_
        refine rv_iload_n (q := 327) E.x dL_areFacts_326 rfl rfl ?_
        refine rv_imul (q := 328) E.x dL_areFacts_327 rfl ?_
        refine lk_ald (q := 329) E 0 (by decide) dL_areFacts_328 rfl ?_
        refine rv_ishl (q := 330) E.x dL_areFacts_329 rfl ?_
        refine rv_iconst (q := 331) E.x dL_areFacts_330 rv_kim1 rfl ?_
        refine rv_ixor (q := 332) E.x dL_areFacts_331 rfl ?_
        refine rv_iand (q := 333) E.x dL_areFacts_332 rfl ?_
        refine rv_if_eq (q := 336) (tgt := 340) E.x dL_areFacts_333 (by decide) rfl ?_ ?_
        · refine rv_wk [true, true, true, true, true, true, true, false, true, false, true, false, true, false, false, false, false] ?_
          exact bp_areFacts_336 E gh A k292 h292 M3 x2 x3 x4 x5 x6 x8 x10 x12
        · refine rv_wk [true, true, true, true, true, true, true, false, true, false, true, false, true, false, false, false, false] ?_
          exact bp_areFacts_340 E gh A k292 h292 M3 x2 x3 x4 x5 x6 x8 x10 x12
      · refine rv_wk [true, true, true, true, true, true, true, false, true, false, true, false, true, false, false, false, false] ?_
        exact bp_areFacts_336 E gh A k292 h292 M3 x2 x3 x4 x5 x6 x8 x10 x12
    · refine rv_wk [true, true, true, true, true, true, true, false, true, false, true, false, true, false, false, false, false] ?_
      exact bp_areFacts_340 E gh A k292 h292 M x2 x3 x4 x5 x6 x8 x10 x12
  · refine rv_aload_n (q := 350) E.x dL_areFacts_349 rfl rfl ?_
    refine rv_iload_n (q := 351) E.x dL_areFacts_350 rfl rfl ?_
    refine lk_x1r (fun r9 e8 => ?_) (fun w10 e11 => rv_stuck)
    refine lk_ci (q := 354) (v := r9) (M1 := M) E (fun u hI _ => c11_parentOf E.2.2.1.1 hI e8) gP_136 hX11_parentOf ⟨rfl, rfl⟩ ⟨Nat.le_of_ble_eq_true rfl, Nat.le_of_ble_eq_true rfl⟩ ⟨Nat.le_of_ble_eq_true rfl, Nat.le_of_ble_eq_true rfl⟩ rfl rfl rfl (Nat.le_of_ble_eq_true rfl) dL_areFacts_351 rfl ?_
    refine rv_istore (q := 356) (lv' := [_, _, _, _, _, _, _, _, _, _, _, _, _, _, _, _, _]) E.x dL_areFacts_354 (Nat.le_of_ble_eq_true rfl) rfl rfl rfl ?_
    refine rv_iload (q := 358) E.x dL_areFacts_356 rfl rfl ?_
    refine rv_if_lt (q := 361) (tgt := 374) E.x dL_areFacts_358 (by decide) rfl ?_ ?_
    · refine rv_aload_n (q := 362) E.x dL_areFacts_361 rfl rfl ?_
      refine rv_iload (q := 364) E.x dL_areFacts_362 rfl rfl ?_
      refine rv_bipush (q := 366) E.x dL_areFacts_364 rv_kb10 rfl ?_
      refine rv_idiv (q := 367) E.x dL_areFacts_366 (by decide) rfl ?_
      refine lk_x1r (fun r13 e12 => ?_) (fun w14 e15 => rv_stuck)
      refine lk_ci (q := 370) (v := r13) (M1 := M) E (fun u hI _ => c11_stateOf E.2.2.1.1 hI e12) gP_124 hX11_stateOf ⟨rfl, rfl⟩ ⟨Nat.le_of_ble_eq_true rfl, Nat.le_of_ble_eq_true rfl⟩ ⟨Nat.le_of_ble_eq_true rfl, Nat.le_of_ble_eq_true rfl⟩ rfl rfl rfl (Nat.le_of_ble_eq_true rfl) dL_areFacts_367 rfl ?_
      refine rv_iconst (q := 371) E.x dL_areFacts_370 rv_ki1 rfl ?_
      refine rv_icmp_ne (q := 374) (tgt := 378) E.x dL_areFacts_371 (by decide) rfl ?_ ?_
      · refine rv_wk [true, true, true, true, true, true, true, false, false, true, true, false, false, false, false, false, false] ?_
        exact bp_areFacts_374 E gh A M x2 x3 x4 x5 x6 x9 x10
      · refine rv_iconst (q := 379) E.x dL_areFacts_378 rv_ki0 rfl ?_
        refine rv_wk [true, true, true, true, true, true, true, false, false, true, true, false, false, false, false, false, false] ?_
        exact bp_areFacts_379 E gh A M x2 x3 x4 x5 x6 x9 x10 false
    · refine rv_wk [true, true, true, true, true, true, true, false, false, true, true, false, false, false, false, false, false] ?_
      exact bp_areFacts_374 E gh A M x2 x3 x4 x5 x6 x9 x10
theorem bp_areFacts_292 {p : Program} {l : Launch} {e : Env} {s : State} {m : MethodId} {args : Array Value} {below : List Frame} {meth : Method} {c : Code} {D : va_G} {cI cZ cO : ClassId} {mi de z0 o b L : Nat} {k : Nat → Nat} {xs : Nat → Int32} (E : lk_E D cI cZ cO mi de z0 b L k xs cL_areFacts 17 (some .boolean) p l s m args meth c) (gh : rC_gh) (A : rv_Mem)   : ∀ (n : Nat), ∀ (M : rv_Mem) (x2 : Int32) (x3 : Int32) (x4 : Int32) (x5 : Int32) (x6 : Int32) (x8 : Int32) (x9 : Bool) (x10 : Int32) (x12 : Int32), rv_M (lk_G D cI cZ cO de z0 o k) (fun q => z0 ≤ q) p l e rmp_areFacts s m args below meth c 0 0 (lk_qRZ D cI cZ cO de z0 o k gh A below args s 0 0) (gp_areFacts_292 gh A n M x2 x3 x4 x5 x6 x8 x9 x10 x12) 292 [some (.ref o), some (.ref (k 0)), some (.int x2), some (.int x3), some (.int x4), some (.int x5), some (.int x6), none, some (.int x8), some (.int (rv_i x9)), some (.int x10), none, some (.int x12), none, none, none, none] [] (gh, M, A) := by
  intro n
  induction n with
  | zero => exact fun _ _ _ _ _ _ _ _ _ _ => rv_stuck
  | succ n ih => exact bp_areFacts_292_s E gh A (gp_areFacts_292 gh A n) ih
set_option maxRecDepth 100000 in
theorem bp_areFacts_151_s {p : Program} {l : Launch} {e : Env} {s : State} {m : MethodId} {args : Array Value} {below : List Frame} {meth : Method} {c : Code} {D : va_G} {cI cZ cO : ClassId} {mi de z0 o b L : Nat} {k : Nat → Nat} {xs : Nat → Int32} (E : lk_E D cI cZ cO mi de z0 b L k xs cL_areFacts 17 (some .boolean) p l s m args meth c) (gh : rC_gh) (A : rv_Mem)   (k151 : rv_Mem → Int32 → Int32 → Int32 → Int32 → Int32 → Int32 → Int32 → Int32 → Int32 → Option (Bool × rv_Mem)) (h151 : ∀ (M : rv_Mem) (x2 : Int32) (x3 : Int32) (x4 : Int32) (x5 : Int32) (x6 : Int32) (x8 : Int32) (x10 : Int32) (x11 : Int32) (x12 : Int32), rv_M (lk_G D cI cZ cO de z0 o k) (fun q => z0 ≤ q) p l e rmp_areFacts s m args below meth c 0 0 (lk_qRZ D cI cZ cO de z0 o k gh A below args s 0 0) (k151 M x2 x3 x4 x5 x6 x8 x10 x11 x12) 151 [some (.ref o), some (.ref (k 0)), some (.int x2), some (.int x3), some (.int x4), some (.int x5), some (.int x6), none, some (.int x8), some (.int 1), some (.int x10), some (.int x11), some (.int x12), none, none, none, none] [] (gh, M, A)) : ∀ (M : rv_Mem) (x2 : Int32) (x3 : Int32) (x4 : Int32) (x5 : Int32) (x6 : Int32) (x8 : Int32) (x10 : Int32) (x11 : Int32) (x12 : Int32), rv_M (lk_G D cI cZ cO de z0 o k) (fun q => z0 ≤ q) p l e rmp_areFacts s m args below meth c 0 0 (lk_qRZ D cI cZ cO de z0 o k gh A below args s 0 0) (gp_areFacts_151_s gh A k151 M x2 x3 x4 x5 x6 x8 x10 x11 x12) 151 [some (.ref o), some (.ref (k 0)), some (.int x2), some (.int x3), some (.int x4), some (.int x5), some (.int x6), none, some (.int x8), some (.int 1), some (.int x10), some (.int x11), some (.int x12), none, none, none, none] [] (gh, M, A) := by
  intro M x2 x3 x4 x5 x6 x8 x10 x11 x12
  unfold gp_areFacts_151_s
  refine rv_iload (q := 153) E.x dL_areFacts_151 rfl rfl ?_
  refine rv_if_lt (q := 156) (tgt := 289) E.x dL_areFacts_153 (by decide) rfl ?_ ?_
  · refine rv_iconst (q := 157) E.x dL_areFacts_156 rv_ki1 rfl ?_
    refine rv_istore (q := 159) (lv' := [_, _, _, _, _, _, _, _, _, _, _, _, _, _, _, _, _]) E.x dL_areFacts_157 (Nat.le_of_ble_eq_true rfl) rfl rfl rfl ?_
    refine rv_iconst (q := 160) E.x dL_areFacts_159 rv_ki0 rfl ?_
    refine rv_istore (q := 162) (lv' := [_, _, _, _, _, _, _, _, _, _, _, _, _, _, _, _, _]) E.x dL_areFacts_160 (Nat.le_of_ble_eq_true rfl) rfl rfl rfl ?_
    refine rv_iconst (q := 163) E.x dL_areFacts_162 rv_ki0 rfl ?_
    refine rv_istore (q := 165) (lv' := [_, _, _, _, _, _, _, _, _, _, _, _, _, _, _, _, _]) E.x dL_areFacts_163 (Nat.le_of_ble_eq_true rfl) rfl rfl rfl ?_
    refine rv_wk [true, true, true, true, true, true, true, false, true, true, true, true, true, true, true, true, false] ?_
    exact bp_areFacts_165 E gh A k151 h151 rv_FU M x2 x3 x4 x5 x6 x8 x10 x11 x12 true 0
  · refine rv_iconst (q := 290) E.x dL_areFacts_289 rv_ki0 rfl ?_
    refine rv_istore (q := 292) (lv' := [_, _, _, _, _, _, _, _, _, _, _, _, _, _, _, _, _]) E.x dL_areFacts_290 (Nat.le_of_ble_eq_true rfl) rfl rfl rfl ?_
    refine rv_wk [true, true, true, true, true, true, true, false, true, true, true, false, true, false, false, false, false] ?_
    exact bp_areFacts_292 E gh A rv_FU M x2 x3 x4 x5 x6 x8 true x10 0
theorem bp_areFacts_151 {p : Program} {l : Launch} {e : Env} {s : State} {m : MethodId} {args : Array Value} {below : List Frame} {meth : Method} {c : Code} {D : va_G} {cI cZ cO : ClassId} {mi de z0 o b L : Nat} {k : Nat → Nat} {xs : Nat → Int32} (E : lk_E D cI cZ cO mi de z0 b L k xs cL_areFacts 17 (some .boolean) p l s m args meth c) (gh : rC_gh) (A : rv_Mem)   : ∀ (n : Nat), ∀ (M : rv_Mem) (x2 : Int32) (x3 : Int32) (x4 : Int32) (x5 : Int32) (x6 : Int32) (x8 : Int32) (x10 : Int32) (x11 : Int32) (x12 : Int32), rv_M (lk_G D cI cZ cO de z0 o k) (fun q => z0 ≤ q) p l e rmp_areFacts s m args below meth c 0 0 (lk_qRZ D cI cZ cO de z0 o k gh A below args s 0 0) (gp_areFacts_151 gh A n M x2 x3 x4 x5 x6 x8 x10 x11 x12) 151 [some (.ref o), some (.ref (k 0)), some (.int x2), some (.int x3), some (.int x4), some (.int x5), some (.int x6), none, some (.int x8), some (.int 1), some (.int x10), some (.int x11), some (.int x12), none, none, none, none] [] (gh, M, A) := by
  intro n
  induction n with
  | zero => exact fun _ _ _ _ _ _ _ _ _ _ => rv_stuck
  | succ n ih => exact bp_areFacts_151_s E gh A (gp_areFacts_151 gh A n) ih
set_option maxRecDepth 100000 in
theorem bp_areFacts_23_s {p : Program} {l : Launch} {e : Env} {s : State} {m : MethodId} {args : Array Value} {below : List Frame} {meth : Method} {c : Code} {D : va_G} {cI cZ cO : ClassId} {mi de z0 o b L : Nat} {k : Nat → Nat} {xs : Nat → Int32} (E : lk_E D cI cZ cO mi de z0 b L k xs cL_areFacts 17 (some .boolean) p l s m args meth c) (gh : rC_gh) (A : rv_Mem)   (k23 : rv_Mem → Int32 → Int32 → Int32 → Int32 → Int32 → Int32 → Int32 → Option (Bool × rv_Mem)) (h23 : ∀ (M : rv_Mem) (x2 : Int32) (x3 : Int32) (x4 : Int32) (x5 : Int32) (x6 : Int32) (x7 : Int32) (x8 : Int32), rv_M (lk_G D cI cZ cO de z0 o k) (fun q => z0 ≤ q) p l e rmp_areFacts s m args below meth c 0 0 (lk_qRZ D cI cZ cO de z0 o k gh A below args s 0 0) (k23 M x2 x3 x4 x5 x6 x7 x8) 23 [some (.ref o), some (.ref (k 0)), some (.int x2), some (.int x3), some (.int x4), some (.int x5), some (.int x6), some (.int x7), some (.int x8), none, none, none, none, none, none, none, none] [] (gh, M, A)) : ∀ (M : rv_Mem) (x2 : Int32) (x3 : Int32) (x4 : Int32) (x5 : Int32) (x6 : Int32) (x7 : Int32) (x8 : Int32), rv_M (lk_G D cI cZ cO de z0 o k) (fun q => z0 ≤ q) p l e rmp_areFacts s m args below meth c 0 0 (lk_qRZ D cI cZ cO de z0 o k gh A below args s 0 0) (gp_areFacts_23_s gh A k23 M x2 x3 x4 x5 x6 x7 x8) 23 [some (.ref o), some (.ref (k 0)), some (.int x2), some (.int x3), some (.int x4), some (.int x5), some (.int x6), some (.int x7), some (.int x8), none, none, none, none, none, none, none, none] [] (gh, M, A) := by
  intro M x2 x3 x4 x5 x6 x7 x8
  unfold gp_areFacts_23_s
  refine rv_iload (q := 25) E.x dL_areFacts_23 rfl rfl ?_
  refine rv_bipush (q := 27) E.x dL_areFacts_25 rv_kb6 rfl ?_
  refine rv_icmp_ge (q := 30) (tgt := 126) E.x dL_areFacts_27 (by decide) rfl ?_ ?_
  · refine rv_aload_n (q := 31) E.x dL_areFacts_30 rfl rfl ?_
    refine rv_iload (q := 33) E.x dL_areFacts_31 rfl rfl ?_
    refine rv_iload_n (q := 34) E.x dL_areFacts_33 rfl rfl ?_
    refine rv_iload (q := 36) E.x dL_areFacts_34 rfl rfl ?_
    refine rv_iconst (q := 37) E.x dL_areFacts_36 rv_ki0 rfl ?_
    refine lk_x1r (fun r2 e1 => ?_) (fun w3 e4 => rv_stuck)
    refine lk_ci (q := 40) (v := r2) (M1 := M) E (fun u hI _ => c11_worth E.2.2.1.1 hI e1) gP_142 hX11_worth ⟨rfl, rfl⟩ ⟨Nat.le_of_ble_eq_true rfl, Nat.le_of_ble_eq_true rfl⟩ ⟨Nat.le_of_ble_eq_true rfl, Nat.le_of_ble_eq_true rfl⟩ rfl rfl rfl (Nat.le_of_ble_eq_true rfl) dL_areFacts_37 rfl ?_
    refine rv_istore (q := 42) (lv' := [_, _, _, _, _, _, _, _, _, _, _, _, _, _, _, _, _]) E.x dL_areFacts_40 (Nat.le_of_ble_eq_true rfl) rfl rfl rfl ?_
    refine rv_aload_n (q := 43) E.x dL_areFacts_42 rfl rfl ?_
    refine rv_iload (q := 45) E.x dL_areFacts_43 rfl rfl ?_
    refine rv_iload_n (q := 46) E.x dL_areFacts_45 rfl rfl ?_
    refine rv_iload (q := 48) E.x dL_areFacts_46 rfl rfl ?_
    refine rv_iconst (q := 49) E.x dL_areFacts_48 rv_ki1 rfl ?_
    refine lk_x1r (fun r6 e5 => ?_) (fun w7 e8 => rv_stuck)
    refine lk_ci (q := 52) (v := r6) (M1 := M) E (fun u hI _ => c11_worth E.2.2.1.1 hI e5) gP_142 hX11_worth ⟨rfl, rfl⟩ ⟨Nat.le_of_ble_eq_true rfl, Nat.le_of_ble_eq_true rfl⟩ ⟨Nat.le_of_ble_eq_true rfl, Nat.le_of_ble_eq_true rfl⟩ rfl rfl rfl (Nat.le_of_ble_eq_true rfl) dL_areFacts_49 rfl ?_
    refine rv_istore (q := 54) (lv' := [_, _, _, _, _, _, _, _, _, _, _, _, _, _, _, _, _]) E.x dL_areFacts_52 (Nat.le_of_ble_eq_true rfl) rfl rfl rfl ?_
    refine rv_iload_n (q := 55) E.x dL_areFacts_54 rfl rfl ?_
    refine rv_iload (q := 57) E.x dL_areFacts_55 rfl rfl ?_
    refine rv_iconst (q := 58) E.x dL_areFacts_57 rv_ki2 rfl ?_
    refine rv_icmp_ne (q := 61) (tgt := 68) E.x dL_areFacts_58 (by decide) rfl ?_ ?_
    · refine rv_iconst (q := 62) E.x dL_areFacts_61 rv_ki1 rfl ?_
      refine rv_iload (q := 64) E.x dL_areFacts_62 rfl rfl ?_
      refine rv_ishl (q := 65) E.x dL_areFacts_64 rfl ?_
      refine rv_goto (q := 69) E.x dL_areFacts_65 (by decide) ?_
      refine rv_wk [true, true, true, false, true, true, true, true, true, true, true, false, false, false, false, false, false] ?_
      exact bp_areFacts_69 E gh A k23 h23 M x2 x4 x5 x6 x7 x8 r2 r6 x3 ((1 : Int32) <<< (x8 &&& 31))
    · refine rv_iconst (q := 69) E.x dL_areFacts_68 rv_ki0 rfl ?_
      refine rv_wk [true, true, true, false, true, true, true, true, true, true, true, false, false, false, false, false, false] ?_
      exact bp_areFacts_69 E gh A k23 h23 M x2 x4 x5 x6 x7 x8 r2 r6 x3 0
  · refine rv_aload_n (q := 127) E.x dL_areFacts_126 rfl rfl ?_
    refine rv_aload_n (q := 128) E.x dL_areFacts_127 rfl rfl ?_
    refine rv_iload_n (q := 129) E.x dL_areFacts_128 rfl rfl ?_
    refine rv_b2 (fun r10 M11 e9 => ?_)
    refine lk_cs0 (q := 132) (v := r10) (σ' := (gh, M11, A)) E (wP_now E.2.2.1 e9) gPs_222 hP_now ⟨rfl, rfl⟩ ⟨Nat.le_of_ble_eq_true rfl, Nat.le_of_ble_eq_true rfl⟩ ⟨Nat.le_of_ble_eq_true rfl, Nat.le_of_ble_eq_true rfl⟩ rfl rfl rfl (Nat.le_of_ble_eq_true rfl) dL_areFacts_129 rfl ?_
    refine rv_b2 (fun r13 M14 e12 => ?_)
    refine lk_cs0 (q := 135) (v := r13) (σ' := (gh, M14, A)) E (wP_repo E.2.2.1 e12) gPs_226 hP_repo ⟨rfl, rfl⟩ ⟨Nat.le_of_ble_eq_true rfl, Nat.le_of_ble_eq_true rfl⟩ ⟨Nat.le_of_ble_eq_true rfl, Nat.le_of_ble_eq_true rfl⟩ rfl rfl rfl (Nat.le_of_ble_eq_true rfl) dL_areFacts_132 rfl ?_
    refine rv_istore (q := 137) (lv' := [_, _, _, _, _, _, _, _, _, _, _, _, _, _, _, _, _]) E.x dL_areFacts_135 (Nat.le_of_ble_eq_true rfl) rfl rfl rfl ?_
    refine rv_iconst (q := 138) E.x dL_areFacts_137 rv_ki1 rfl ?_
    refine rv_istore (q := 140) (lv' := [_, _, _, _, _, _, _, _, _, _, _, _, _, _, _, _, _]) E.x dL_areFacts_138 (Nat.le_of_ble_eq_true rfl) rfl rfl rfl ?_
    refine rv_iconst (q := 141) E.x dL_areFacts_140 rv_ki0 rfl ?_
    refine rv_istore (q := 143) (lv' := [_, _, _, _, _, _, _, _, _, _, _, _, _, _, _, _, _]) E.x dL_areFacts_141 (Nat.le_of_ble_eq_true rfl) rfl rfl rfl ?_
    refine rv_bipush (q := 145) E.x dL_areFacts_143 rv_kb9 rfl ?_
    refine rv_istore (q := 147) (lv' := [_, _, _, _, _, _, _, _, _, _, _, _, _, _, _, _, _]) E.x dL_areFacts_145 (Nat.le_of_ble_eq_true rfl) rfl rfl rfl ?_
    refine rv_bipush (q := 149) E.x dL_areFacts_147 rv_kb63 rfl ?_
    refine rv_istore (q := 151) (lv' := [_, _, _, _, _, _, _, _, _, _, _, _, _, _, _, _, _]) E.x dL_areFacts_149 (Nat.le_of_ble_eq_true rfl) rfl rfl rfl ?_
    refine rv_wk [true, true, true, true, true, true, true, false, true, true, true, true, true, false, false, false, false] ?_
    exact bp_areFacts_151 E gh A rv_FU M14 x2 x3 x4 x5 x6 r13 0 9 63
theorem bp_areFacts_23 {p : Program} {l : Launch} {e : Env} {s : State} {m : MethodId} {args : Array Value} {below : List Frame} {meth : Method} {c : Code} {D : va_G} {cI cZ cO : ClassId} {mi de z0 o b L : Nat} {k : Nat → Nat} {xs : Nat → Int32} (E : lk_E D cI cZ cO mi de z0 b L k xs cL_areFacts 17 (some .boolean) p l s m args meth c) (gh : rC_gh) (A : rv_Mem)   : ∀ (n : Nat), ∀ (M : rv_Mem) (x2 : Int32) (x3 : Int32) (x4 : Int32) (x5 : Int32) (x6 : Int32) (x7 : Int32) (x8 : Int32), rv_M (lk_G D cI cZ cO de z0 o k) (fun q => z0 ≤ q) p l e rmp_areFacts s m args below meth c 0 0 (lk_qRZ D cI cZ cO de z0 o k gh A below args s 0 0) (gp_areFacts_23 gh A n M x2 x3 x4 x5 x6 x7 x8) 23 [some (.ref o), some (.ref (k 0)), some (.int x2), some (.int x3), some (.int x4), some (.int x5), some (.int x6), some (.int x7), some (.int x8), none, none, none, none, none, none, none, none] [] (gh, M, A) := by
  intro n
  induction n with
  | zero => exact fun _ _ _ _ _ _ _ _ => rv_stuck
  | succ n ih => exact bp_areFacts_23_s E gh A (gp_areFacts_23 gh A n) ih
set_option maxRecDepth 100000 in
theorem bp_areFacts {p : Program} {l : Launch} {e : Env} {s : State} {m : MethodId} {args : Array Value} {below : List Frame} {meth : Method} {c : Code} {D : va_G} {cI cZ cO : ClassId} {mi de z0 o b L : Nat} {k : Nat → Nat} {xs : Nat → Int32} (E : lk_E D cI cZ cO mi de z0 b L k xs cL_areFacts 17 (some .boolean) p l s m args meth c) (gh : rC_gh) (M A : rv_Mem) (a3 : Int32) : rv_M (lk_G D cI cZ cO de z0 o k) (fun q => z0 ≤ q) p l e rmp_areFacts s m args below meth c 0 0 (lk_qRZ D cI cZ cO de z0 o k gh A below args s 0 0) (gp_areFacts gh M A a3) 0 [some (.ref o), some (.ref (k 0)), some (.int a3), none, none, none, none, none, none, none, none, none, none, none, none, none, none] [] (gh, M, A) := by
  unfold gp_areFacts
  refine rv_iconst (q := 1) E.x dL_areFacts_0 rv_ki0 rfl ?_
  refine rv_istore_n (q := 2) (lv' := [_, _, _, _, _, _, _, _, _, _, _, _, _, _, _, _, _]) E.x dL_areFacts_1 (Nat.le_of_ble_eq_true rfl) rfl rfl rfl ?_
  refine rv_iconst (q := 3) E.x dL_areFacts_2 rv_ki0 rfl ?_
  refine rv_istore (q := 5) (lv' := [_, _, _, _, _, _, _, _, _, _, _, _, _, _, _, _, _]) E.x dL_areFacts_3 (Nat.le_of_ble_eq_true rfl) rfl rfl rfl ?_
  refine rv_iconst (q := 6) E.x dL_areFacts_5 rv_ki0 rfl ?_
  refine rv_istore (q := 8) (lv' := [_, _, _, _, _, _, _, _, _, _, _, _, _, _, _, _, _]) E.x dL_areFacts_6 (Nat.le_of_ble_eq_true rfl) rfl rfl rfl ?_
  refine rv_iconst (q := 9) E.x dL_areFacts_8 rv_ki0 rfl ?_
  refine rv_istore (q := 11) (lv' := [_, _, _, _, _, _, _, _, _, _, _, _, _, _, _, _, _]) E.x dL_areFacts_9 (Nat.le_of_ble_eq_true rfl) rfl rfl rfl ?_
  refine rv_aload_n (q := 12) E.x dL_areFacts_11 rfl rfl ?_
  refine rv_iload_n (q := 13) E.x dL_areFacts_12 rfl rfl ?_
  refine lk_x1r (fun r2 e1 => ?_) (fun w3 e4 => rv_stuck)
  refine lk_ci (q := 16) (v := r2) (M1 := M) E (fun u hI _ => c11_sets E.2.2.1.1 hI e1) gP_127 hX11_sets ⟨rfl, rfl⟩ ⟨Nat.le_of_ble_eq_true rfl, Nat.le_of_ble_eq_true rfl⟩ ⟨Nat.le_of_ble_eq_true rfl, Nat.le_of_ble_eq_true rfl⟩ rfl rfl rfl (Nat.le_of_ble_eq_true rfl) dL_areFacts_13 rfl ?_
  refine rv_iconst (q := 17) E.x dL_areFacts_16 rv_ki1 rfl ?_
  refine rv_isub (q := 18) E.x dL_areFacts_17 rfl ?_
  refine rv_istore (q := 20) (lv' := [_, _, _, _, _, _, _, _, _, _, _, _, _, _, _, _, _]) E.x dL_areFacts_18 (Nat.le_of_ble_eq_true rfl) rfl rfl rfl ?_
  refine rv_iconst (q := 21) E.x dL_areFacts_20 rv_ki0 rfl ?_
  refine rv_istore (q := 23) (lv' := [_, _, _, _, _, _, _, _, _, _, _, _, _, _, _, _, _]) E.x dL_areFacts_21 (Nat.le_of_ble_eq_true rfl) rfl rfl rfl ?_
  refine rv_wk [true, true, true, true, true, true, true, true, true, false, false, false, false, false, false, false, false] ?_
  exact bp_areFacts_23 E gh A rv_FU M a3 0 0 0 0 (r2 - 1) 0
theorem wP_areFacts {l : Launch} {D : va_G} {cI cZ cO : ClassId} {mi de z0 o b L : Nat} {k : Nat → Nat} {xs : Nat → Int32} (S : lk_S l de z0 b k) {gh : rC_gh} {M A : rv_Mem} {a3 : Int32} {r : Bool} {M1 : rv_Mem} (h : gp_areFacts gh M A a3 = some (r, M1)) : Met l yL_areFacts (rv_ws yL_areFacts cL_areFacts 17 (some .boolean)) rmp_areFacts (va_Pc [.ref o, .ref (k 0), .int a3] (lk_P D cI cZ cO mi de z0 o b L k xs (gh, M, A))) (lk_qi D cI cZ cO de z0 o k (rv_i r) (gh, M1, A)) 0 0 (fun q => z0 ≤ q) := lk_met S rfl (Nat.le_of_ble_eq_true rfl) (fun p e s m args below meth c E => ⟨(lk_qRZ D cI cZ cO de z0 o k gh A below args s 0 0), rfl, bp_areFacts E gh M A a3⟩) h
abbrev rmp_areChanges : Room := { frames := 11, cells := 0, slots := 0, locals := 230 }
set_option maxRecDepth 100000 in
theorem bp_areChanges_289 {p : Program} {l : Launch} {e : Env} {s : State} {m : MethodId} {args : Array Value} {below : List Frame} {meth : Method} {c : Code} {D : va_G} {cI cZ cO : ClassId} {mi de z0 o b L : Nat} {k : Nat → Nat} {xs : Nat → Int32} (E : lk_E D cI cZ cO mi de z0 b L k xs cL_areChanges 15 (some .boolean) p l s m args meth c) (gh : rC_gh) (A : rv_Mem) (k5 : rv_Mem → Int32 → Bool → Int32 → Option (Bool × rv_Mem)) (k237 : rv_Mem → Int32 → Int32 → Int32 → Int32 → Int32 → Int32 → Bool → Bool → Int32 → Option (Bool × rv_Mem)) (h5 : ∀ (M : rv_Mem) (x2 : Int32) (x3 : Bool) (x4 : Int32), rv_M (lk_G D cI cZ cO de z0 o k) (fun q => z0 ≤ q) p l e rmp_areChanges s m args below meth c 0 0 (lk_qRZ D cI cZ cO de z0 o k gh A below args s 0 0) (k5 M x2 x3 x4) 5 [some (.ref o), some (.ref (k 0)), some (.int x2), some (.int (rv_i x3)), some (.int x4), none, none, none, none, none, none, none, none, none, none] [] (gh, M, A)) (h237 : ∀ (M : rv_Mem) (x2 : Int32) (x4 : Int32) (x5 : Int32) (x6 : Int32) (x7 : Int32) (x10 : Int32) (x11 : Bool) (x12 : Bool) (x13 : Int32), rv_M (lk_G D cI cZ cO de z0 o k) (fun q => z0 ≤ q) p l e rmp_areChanges s m args below meth c 0 0 (lk_qRZ D cI cZ cO de z0 o k gh A below args s 0 0) (k237 M x2 x4 x5 x6 x7 x10 x11 x12 x13) 237 [some (.ref o), some (.ref (k 0)), some (.int x2), none, some (.int x4), some (.int x5), some (.int x6), some (.int x7), none, none, some (.int x10), some (.int (rv_i x11)), some (.int (rv_i x12)), some (.int x13), none] [] (gh, M, A)) : ∀ (M : rv_Mem) (x2 : Int32) (x4 : Int32) (x5 : Int32) (x6 : Int32) (x7 : Int32) (x10 : Int32) (x11 : Bool) (x13 : Int32) (s0 : Bool), rv_M (lk_G D cI cZ cO de z0 o k) (fun q => z0 ≤ q) p l e rmp_areChanges s m args below meth c 0 0 (lk_qRZ D cI cZ cO de z0 o k gh A below args s 0 0) (gp_areChanges_289 gh A k5 k237 M x2 x4 x5 x6 x7 x10 x11 x13 s0) 289 [some (.ref o), some (.ref (k 0)), some (.int x2), none, some (.int x4), some (.int x5), some (.int x6), some (.int x7), none, none, some (.int x10), some (.int (rv_i x11)), none, some (.int x13), none] [.int (rv_i s0)] (gh, M, A) := by
  intro M x2 x4 x5 x6 x7 x10 x11 x13 s0
  unfold gp_areChanges_289
  refine rv_istore (q := 291) (lv' := [_, _, _, _, _, _, _, _, _, _, _, _, _, _, _]) E.x dL_areChanges_289 (Nat.le_of_ble_eq_true rfl) rfl rfl rfl ?_
  refine rv_iinc (q := 294) (lv' := [_, _, _, _, _, _, _, _, _, _, _, _, _, _, _]) E.x dL_areChanges_291 rv_ki1 rfl rfl rfl rfl ?_
  refine rv_goto (q := 237) E.x dL_areChanges_294 (by decide) ?_
  refine rv_wk [true, true, true, false, true, true, true, true, false, false, true, true, true, true, false] ?_
  exact h237 M x2 x4 x5 x6 x7 x10 x11 s0 (x13 + 1)
set_option maxRecDepth 100000 in
theorem bp_areChanges_288 {p : Program} {l : Launch} {e : Env} {s : State} {m : MethodId} {args : Array Value} {below : List Frame} {meth : Method} {c : Code} {D : va_G} {cI cZ cO : ClassId} {mi de z0 o b L : Nat} {k : Nat → Nat} {xs : Nat → Int32} (E : lk_E D cI cZ cO mi de z0 b L k xs cL_areChanges 15 (some .boolean) p l s m args meth c) (gh : rC_gh) (A : rv_Mem) (k5 : rv_Mem → Int32 → Bool → Int32 → Option (Bool × rv_Mem)) (k237 : rv_Mem → Int32 → Int32 → Int32 → Int32 → Int32 → Int32 → Bool → Bool → Int32 → Option (Bool × rv_Mem)) (h5 : ∀ (M : rv_Mem) (x2 : Int32) (x3 : Bool) (x4 : Int32), rv_M (lk_G D cI cZ cO de z0 o k) (fun q => z0 ≤ q) p l e rmp_areChanges s m args below meth c 0 0 (lk_qRZ D cI cZ cO de z0 o k gh A below args s 0 0) (k5 M x2 x3 x4) 5 [some (.ref o), some (.ref (k 0)), some (.int x2), some (.int (rv_i x3)), some (.int x4), none, none, none, none, none, none, none, none, none, none] [] (gh, M, A)) (h237 : ∀ (M : rv_Mem) (x2 : Int32) (x4 : Int32) (x5 : Int32) (x6 : Int32) (x7 : Int32) (x10 : Int32) (x11 : Bool) (x12 : Bool) (x13 : Int32), rv_M (lk_G D cI cZ cO de z0 o k) (fun q => z0 ≤ q) p l e rmp_areChanges s m args below meth c 0 0 (lk_qRZ D cI cZ cO de z0 o k gh A below args s 0 0) (k237 M x2 x4 x5 x6 x7 x10 x11 x12 x13) 237 [some (.ref o), some (.ref (k 0)), some (.int x2), none, some (.int x4), some (.int x5), some (.int x6), some (.int x7), none, none, some (.int x10), some (.int (rv_i x11)), some (.int (rv_i x12)), some (.int x13), none] [] (gh, M, A)) : ∀ (M : rv_Mem) (x2 : Int32) (x4 : Int32) (x5 : Int32) (x6 : Int32) (x7 : Int32) (x10 : Int32) (x11 : Bool) (x13 : Int32), rv_M (lk_G D cI cZ cO de z0 o k) (fun q => z0 ≤ q) p l e rmp_areChanges s m args below meth c 0 0 (lk_qRZ D cI cZ cO de z0 o k gh A below args s 0 0) (gp_areChanges_288 gh A k5 k237 M x2 x4 x5 x6 x7 x10 x11 x13) 288 [some (.ref o), some (.ref (k 0)), some (.int x2), none, some (.int x4), some (.int x5), some (.int x6), some (.int x7), none, none, some (.int x10), some (.int (rv_i x11)), none, some (.int x13), none] [] (gh, M, A) := by
  intro M x2 x4 x5 x6 x7 x10 x11 x13
  unfold gp_areChanges_288
  refine rv_iconst (q := 289) E.x dL_areChanges_288 rv_ki0 rfl ?_
  refine rv_wk [true, true, true, false, true, true, true, true, false, false, true, true, false, true, false] ?_
  exact bp_areChanges_289 E gh A k5 k237 h5 h237 M x2 x4 x5 x6 x7 x10 x11 x13 false
set_option maxRecDepth 100000 in
theorem bp_areChanges_425 {p : Program} {l : Launch} {e : Env} {s : State} {m : MethodId} {args : Array Value} {below : List Frame} {meth : Method} {c : Code} {D : va_G} {cI cZ cO : ClassId} {mi de z0 o b L : Nat} {k : Nat → Nat} {xs : Nat → Int32} (E : lk_E D cI cZ cO mi de z0 b L k xs cL_areChanges 15 (some .boolean) p l s m args meth c) (gh : rC_gh) (A : rv_Mem) (k5 : rv_Mem → Int32 → Bool → Int32 → Option (Bool × rv_Mem)) (k353 : rv_Mem → Int32 → Bool → Int32 → Int32 → Int32 → Option (Bool × rv_Mem)) (h5 : ∀ (M : rv_Mem) (x2 : Int32) (x3 : Bool) (x4 : Int32), rv_M (lk_G D cI cZ cO de z0 o k) (fun q => z0 ≤ q) p l e rmp_areChanges s m args below meth c 0 0 (lk_qRZ D cI cZ cO de z0 o k gh A below args s 0 0) (k5 M x2 x3 x4) 5 [some (.ref o), some (.ref (k 0)), some (.int x2), some (.int (rv_i x3)), some (.int x4), none, none, none, none, none, none, none, none, none, none] [] (gh, M, A)) (h353 : ∀ (M : rv_Mem) (x2 : Int32) (x3 : Bool) (x4 : Int32) (x5 : Int32) (x13 : Int32), rv_M (lk_G D cI cZ cO de z0 o k) (fun q => z0 ≤ q) p l e rmp_areChanges s m args below meth c 0 0 (lk_qRZ D cI cZ cO de z0 o k gh A below args s 0 0) (k353 M x2 x3 x4 x5 x13) 353 [some (.ref o), some (.ref (k 0)), some (.int x2), some (.int (rv_i x3)), some (.int x4), some (.int x5), none, none, none, none, none, none, none, some (.int x13), none] [] (gh, M, A)) : ∀ (M : rv_Mem) (x2 : Int32) (x4 : Int32) (x5 : Int32) (x13 : Int32) (s0 : Bool), rv_M (lk_G D cI cZ cO de z0 o k) (fun q => z0 ≤ q) p l e rmp_areChanges s m args below meth c 0 0 (lk_qRZ D cI cZ cO de z0 o k gh A below args s 0 0) (gp_areChanges_425 gh A k5 k353 M x2 x4 x5 x13 s0) 425 [some (.ref o), some (.ref (k 0)), some (.int x2), none, some (.int x4), some (.int x5), none, none, none, none, none, none, none, some (.int x13), none] [.int (rv_i s0)] (gh, M, A) := by
  intro M x2 x4 x5 x13 s0
  unfold gp_areChanges_425
  refine rv_istore_n (q := 426) (lv' := [_, _, _, _, _, _, _, _, _, _, _, _, _, _, _]) E.x dL_areChanges_425 (Nat.le_of_ble_eq_true rfl) rfl rfl rfl ?_
  refine rv_iinc (q := 429) (lv' := [_, _, _, _, _, _, _, _, _, _, _, _, _, _, _]) E.x dL_areChanges_426 rv_ki1 rfl rfl rfl rfl ?_
  refine rv_goto (q := 353) E.x dL_areChanges_429 (by decide) ?_
  refine rv_wk [true, true, true, true, true, true, false, false, false, false, false, false, false, true, false] ?_
  exact h353 M x2 s0 x4 x5 (x13 + 1)
set_option maxRecDepth 100000 in
theorem bp_areChanges_424 {p : Program} {l : Launch} {e : Env} {s : State} {m : MethodId} {args : Array Value} {below : List Frame} {meth : Method} {c : Code} {D : va_G} {cI cZ cO : ClassId} {mi de z0 o b L : Nat} {k : Nat → Nat} {xs : Nat → Int32} (E : lk_E D cI cZ cO mi de z0 b L k xs cL_areChanges 15 (some .boolean) p l s m args meth c) (gh : rC_gh) (A : rv_Mem) (k5 : rv_Mem → Int32 → Bool → Int32 → Option (Bool × rv_Mem)) (k353 : rv_Mem → Int32 → Bool → Int32 → Int32 → Int32 → Option (Bool × rv_Mem)) (h5 : ∀ (M : rv_Mem) (x2 : Int32) (x3 : Bool) (x4 : Int32), rv_M (lk_G D cI cZ cO de z0 o k) (fun q => z0 ≤ q) p l e rmp_areChanges s m args below meth c 0 0 (lk_qRZ D cI cZ cO de z0 o k gh A below args s 0 0) (k5 M x2 x3 x4) 5 [some (.ref o), some (.ref (k 0)), some (.int x2), some (.int (rv_i x3)), some (.int x4), none, none, none, none, none, none, none, none, none, none] [] (gh, M, A)) (h353 : ∀ (M : rv_Mem) (x2 : Int32) (x3 : Bool) (x4 : Int32) (x5 : Int32) (x13 : Int32), rv_M (lk_G D cI cZ cO de z0 o k) (fun q => z0 ≤ q) p l e rmp_areChanges s m args below meth c 0 0 (lk_qRZ D cI cZ cO de z0 o k gh A below args s 0 0) (k353 M x2 x3 x4 x5 x13) 353 [some (.ref o), some (.ref (k 0)), some (.int x2), some (.int (rv_i x3)), some (.int x4), some (.int x5), none, none, none, none, none, none, none, some (.int x13), none] [] (gh, M, A)) : ∀ (M : rv_Mem) (x2 : Int32) (x4 : Int32) (x5 : Int32) (x13 : Int32), rv_M (lk_G D cI cZ cO de z0 o k) (fun q => z0 ≤ q) p l e rmp_areChanges s m args below meth c 0 0 (lk_qRZ D cI cZ cO de z0 o k gh A below args s 0 0) (gp_areChanges_424 gh A k5 k353 M x2 x4 x5 x13) 424 [some (.ref o), some (.ref (k 0)), some (.int x2), none, some (.int x4), some (.int x5), none, none, none, none, none, none, none, some (.int x13), none] [] (gh, M, A) := by
  intro M x2 x4 x5 x13
  unfold gp_areChanges_424
  refine rv_iconst (q := 425) E.x dL_areChanges_424 rv_ki0 rfl ?_
  refine rv_wk [true, true, true, false, true, true, false, false, false, false, false, false, false, true, false] ?_
  exact bp_areChanges_425 E gh A k5 k353 h5 h353 M x2 x4 x5 x13 false
set_option maxRecDepth 100000 in
theorem bp_areChanges_451 {p : Program} {l : Launch} {e : Env} {s : State} {m : MethodId} {args : Array Value} {below : List Frame} {meth : Method} {c : Code} {D : va_G} {cI cZ cO : ClassId} {mi de z0 o b L : Nat} {k : Nat → Nat} {xs : Nat → Int32} (E : lk_E D cI cZ cO mi de z0 b L k xs cL_areChanges 15 (some .boolean) p l s m args meth c) (gh : rC_gh) (A : rv_Mem) (k5 : rv_Mem → Int32 → Bool → Int32 → Option (Bool × rv_Mem)) (h5 : ∀ (M : rv_Mem) (x2 : Int32) (x3 : Bool) (x4 : Int32), rv_M (lk_G D cI cZ cO de z0 o k) (fun q => z0 ≤ q) p l e rmp_areChanges s m args below meth c 0 0 (lk_qRZ D cI cZ cO de z0 o k gh A below args s 0 0) (k5 M x2 x3 x4) 5 [some (.ref o), some (.ref (k 0)), some (.int x2), some (.int (rv_i x3)), some (.int x4), none, none, none, none, none, none, none, none, none, none] [] (gh, M, A)) : ∀ (M : rv_Mem) (x2 : Int32) (x4 : Int32) (s0 : Bool), rv_M (lk_G D cI cZ cO de z0 o k) (fun q => z0 ≤ q) p l e rmp_areChanges s m args below meth c 0 0 (lk_qRZ D cI cZ cO de z0 o k gh A below args s 0 0) (gp_areChanges_451 gh A k5 M x2 x4 s0) 451 [some (.ref o), some (.ref (k 0)), some (.int x2), none, some (.int x4), none, none, none, none, none, none, none, none, none, none] [.int (rv_i s0)] (gh, M, A) := by
  intro M x2 x4 s0
  unfold gp_areChanges_451
  refine rv_istore_n (q := 452) (lv' := [_, _, _, _, _, _, _, _, _, _, _, _, _, _, _]) E.x dL_areChanges_451 (Nat.le_of_ble_eq_true rfl) rfl rfl rfl ?_
  refine rv_iinc (q := 455) (lv' := [_, _, _, _, _, _, _, _, _, _, _, _, _, _, _]) E.x dL_areChanges_452 rv_ki1 rfl rfl rfl rfl ?_
  refine rv_goto (q := 5) E.x dL_areChanges_455 (by decide) ?_
  refine rv_wk [true, true, true, true, true, false, false, false, false, false, false, false, false, false, false] ?_
  exact h5 M x2 s0 (x4 + 1)
set_option maxRecDepth 100000 in
theorem bp_areChanges_450 {p : Program} {l : Launch} {e : Env} {s : State} {m : MethodId} {args : Array Value} {below : List Frame} {meth : Method} {c : Code} {D : va_G} {cI cZ cO : ClassId} {mi de z0 o b L : Nat} {k : Nat → Nat} {xs : Nat → Int32} (E : lk_E D cI cZ cO mi de z0 b L k xs cL_areChanges 15 (some .boolean) p l s m args meth c) (gh : rC_gh) (A : rv_Mem) (k5 : rv_Mem → Int32 → Bool → Int32 → Option (Bool × rv_Mem)) (h5 : ∀ (M : rv_Mem) (x2 : Int32) (x3 : Bool) (x4 : Int32), rv_M (lk_G D cI cZ cO de z0 o k) (fun q => z0 ≤ q) p l e rmp_areChanges s m args below meth c 0 0 (lk_qRZ D cI cZ cO de z0 o k gh A below args s 0 0) (k5 M x2 x3 x4) 5 [some (.ref o), some (.ref (k 0)), some (.int x2), some (.int (rv_i x3)), some (.int x4), none, none, none, none, none, none, none, none, none, none] [] (gh, M, A)) : ∀ (M : rv_Mem) (x2 : Int32) (x4 : Int32), rv_M (lk_G D cI cZ cO de z0 o k) (fun q => z0 ≤ q) p l e rmp_areChanges s m args below meth c 0 0 (lk_qRZ D cI cZ cO de z0 o k gh A below args s 0 0) (gp_areChanges_450 gh A k5 M x2 x4) 450 [some (.ref o), some (.ref (k 0)), some (.int x2), none, some (.int x4), none, none, none, none, none, none, none, none, none, none] [] (gh, M, A) := by
  intro M x2 x4
  unfold gp_areChanges_450
  refine rv_iconst (q := 451) E.x dL_areChanges_450 rv_ki0 rfl ?_
  refine rv_wk [true, true, true, false, true, false, false, false, false, false, false, false, false, false, false] ?_
  exact bp_areChanges_451 E gh A k5 h5 M x2 x4 false
set_option maxRecDepth 100000 in
theorem bp_areChanges_432 {p : Program} {l : Launch} {e : Env} {s : State} {m : MethodId} {args : Array Value} {below : List Frame} {meth : Method} {c : Code} {D : va_G} {cI cZ cO : ClassId} {mi de z0 o b L : Nat} {k : Nat → Nat} {xs : Nat → Int32} (E : lk_E D cI cZ cO mi de z0 b L k xs cL_areChanges 15 (some .boolean) p l s m args meth c) (gh : rC_gh) (A : rv_Mem) (k5 : rv_Mem → Int32 → Bool → Int32 → Option (Bool × rv_Mem)) (h5 : ∀ (M : rv_Mem) (x2 : Int32) (x3 : Bool) (x4 : Int32), rv_M (lk_G D cI cZ cO de z0 o k) (fun q => z0 ≤ q) p l e rmp_areChanges s m args below meth c 0 0 (lk_qRZ D cI cZ cO de z0 o k gh A below args s 0 0) (k5 M x2 x3 x4) 5 [some (.ref o), some (.ref (k 0)), some (.int x2), some (.int (rv_i x3)), some (.int x4), none, none, none, none, none, none, none, none, none, none] [] (gh, M, A)) : ∀ (M : rv_Mem) (x2 : Int32) (x3 : Bool) (x4 : Int32), rv_M (lk_G D cI cZ cO de z0 o k) (fun q => z0 ≤ q) p l e rmp_areChanges s m args below meth c 0 0 (lk_qRZ D cI cZ cO de z0 o k gh A below args s 0 0) (gp_areChanges_432 gh A k5 M x2 x3 x4) 432 [some (.ref o), some (.ref (k 0)), some (.int x2), some (.int (rv_i x3)), some (.int x4), none, none, none, none, none, none, none, none, none, none] [] (gh, M, A) := by
  intro M x2 x3 x4
  unfold gp_areChanges_432
  refine rv_iload_n (q := 433) E.x dL_areChanges_432 rfl rfl ?_
  refine rv_ifz_eq (q := 436) (tgt := 450) E.x dL_areChanges_433 (by decide) rfl ?_ ?_
  · refine rv_aload_n (q := 437) E.x dL_areChanges_436 rfl rfl ?_
    refine rv_aload_n (q := 438) E.x dL_areChanges_437 rfl rfl ?_
    refine rv_iload (q := 440) E.x dL_areChanges_438 rfl rfl ?_
    refine rv_b2 (fun r2 M3 e1 => ?_)
    refine lk_cs0 (q := 443) (v := (rv_i r2)) (σ' := (gh, M3, A)) E (wP_areFacts E.2.2.1 e1) gPs_233 hP_areFacts ⟨rfl, rfl⟩ ⟨Nat.le_of_ble_eq_true rfl, Nat.le_of_ble_eq_true rfl⟩ ⟨Nat.le_of_ble_eq_true rfl, Nat.le_of_ble_eq_true rfl⟩ rfl rfl rfl (Nat.le_of_ble_eq_true rfl) dL_areChanges_440 rfl ?_
    refine rv_ifz_eq (q := 446) (tgt := 450) E.x dL_areChanges_443 (by decide) rfl ?_ ?_
    · refine rv_iconst (q := 447) E.x dL_areChanges_446 rv_ki1 rfl ?_
      refine rv_goto (q := 451) E.x dL_areChanges_447 (by decide) ?_
      refine rv_wk [true, true, true, false, true, false, false, false, false, false, false, false, false, false, false] ?_
      exact bp_areChanges_451 E gh A k5 h5 M3 x2 x4 true
    · refine rv_wk [true, true, true, false, true, false, false, false, false, false, false, false, false, false, false] ?_
      exact bp_areChanges_450 E gh A k5 h5 M3 x2 x4
  · refine rv_wk [true, true, true, false, true, false, false, false, false, false, false, false, false, false, false] ?_
    exact bp_areChanges_450 E gh A k5 h5 M x2 x4
set_option maxRecDepth 100000 in
theorem bp_areChanges_353_s {p : Program} {l : Launch} {e : Env} {s : State} {m : MethodId} {args : Array Value} {below : List Frame} {meth : Method} {c : Code} {D : va_G} {cI cZ cO : ClassId} {mi de z0 o b L : Nat} {k : Nat → Nat} {xs : Nat → Int32} (E : lk_E D cI cZ cO mi de z0 b L k xs cL_areChanges 15 (some .boolean) p l s m args meth c) (gh : rC_gh) (A : rv_Mem) (k5 : rv_Mem → Int32 → Bool → Int32 → Option (Bool × rv_Mem)) (h5 : ∀ (M : rv_Mem) (x2 : Int32) (x3 : Bool) (x4 : Int32), rv_M (lk_G D cI cZ cO de z0 o k) (fun q => z0 ≤ q) p l e rmp_areChanges s m args below meth c 0 0 (lk_qRZ D cI cZ cO de z0 o k gh A below args s 0 0) (k5 M x2 x3 x4) 5 [some (.ref o), some (.ref (k 0)), some (.int x2), some (.int (rv_i x3)), some (.int x4), none, none, none, none, none, none, none, none, none, none] [] (gh, M, A)) (k353 : rv_Mem → Int32 → Bool → Int32 → Int32 → Int32 → Option (Bool × rv_Mem)) (h353 : ∀ (M : rv_Mem) (x2 : Int32) (x3 : Bool) (x4 : Int32) (x5 : Int32) (x13 : Int32), rv_M (lk_G D cI cZ cO de z0 o k) (fun q => z0 ≤ q) p l e rmp_areChanges s m args below meth c 0 0 (lk_qRZ D cI cZ cO de z0 o k gh A below args s 0 0) (k353 M x2 x3 x4 x5 x13) 353 [some (.ref o), some (.ref (k 0)), some (.int x2), some (.int (rv_i x3)), some (.int x4), some (.int x5), none, none, none, none, none, none, none, some (.int x13), none] [] (gh, M, A)) : ∀ (M : rv_Mem) (x2 : Int32) (x3 : Bool) (x4 : Int32) (x5 : Int32) (x13 : Int32), rv_M (lk_G D cI cZ cO de z0 o k) (fun q => z0 ≤ q) p l e rmp_areChanges s m args below meth c 0 0 (lk_qRZ D cI cZ cO de z0 o k gh A below args s 0 0) (gp_areChanges_353_s gh A k5 k353 M x2 x3 x4 x5 x13) 353 [some (.ref o), some (.ref (k 0)), some (.int x2), some (.int (rv_i x3)), some (.int x4), some (.int x5), none, none, none, none, none, none, none, some (.int x13), none] [] (gh, M, A) := by
  intro M x2 x3 x4 x5 x13
  unfold gp_areChanges_353_s
  refine rv_iload (q := 355) E.x dL_areChanges_353 rfl rfl ?_
  refine rv_bipush (q := 357) E.x dL_areChanges_355 rv_kb6 rfl ?_
  refine rv_icmp_ge (q := 360) (tgt := 432) E.x dL_areChanges_357 (by decide) rfl ?_ ?_
  · refine rv_iload_n (q := 361) E.x dL_areChanges_360 rfl rfl ?_
    refine rv_ifz_eq (q := 364) (tgt := 432) E.x dL_areChanges_361 (by decide) rfl ?_ ?_
    · refine rv_aload_n (q := 365) E.x dL_areChanges_364 rfl rfl ?_
      refine rv_iload (q := 367) E.x dL_areChanges_365 rfl rfl ?_
      refine rv_iload (q := 369) E.x dL_areChanges_367 rfl rfl ?_
      refine rv_iload (q := 371) E.x dL_areChanges_369 rfl rfl ?_
      refine rv_iconst (q := 372) E.x dL_areChanges_371 rv_ki0 rfl ?_
      refine lk_x1r (fun r2 e1 => ?_) (fun w3 e4 => rv_stuck)
      refine lk_ci (q := 375) (v := r2) (M1 := M) E (fun u hI _ => c11_worth E.2.2.1.1 hI e1) gP_142 hX11_worth ⟨rfl, rfl⟩ ⟨Nat.le_of_ble_eq_true rfl, Nat.le_of_ble_eq_true rfl⟩ ⟨Nat.le_of_ble_eq_true rfl, Nat.le_of_ble_eq_true rfl⟩ rfl rfl rfl (Nat.le_of_ble_eq_true rfl) dL_areChanges_372 rfl ?_
      refine rv_istore (q := 377) (lv' := [_, _, _, _, _, _, _, _, _, _, _, _, _, _, _]) E.x dL_areChanges_375 (Nat.le_of_ble_eq_true rfl) rfl rfl rfl ?_
      refine rv_iload (q := 379) E.x dL_areChanges_377 rfl rfl ?_
      refine rv_bipush (q := 381) E.x dL_areChanges_379 rv_kbm2 rfl ?_
      refine rv_icmp_lt (q := 384) (tgt := 424) E.x dL_areChanges_381 (by decide) rfl ?_ ?_
      · refine rv_iload (q := 386) E.x dL_areChanges_384 rfl rfl ?_
        refine rv_iconst (q := 387) E.x dL_areChanges_386 rv_ki2 rfl ?_
        refine rv_icmp_gt (q := 390) (tgt := 424) E.x dL_areChanges_387 (by decide) rfl ?_ ?_
        · refine rv_aload_n (q := 391) E.x dL_areChanges_390 rfl rfl ?_
          refine rv_iload (q := 393) E.x dL_areChanges_391 rfl rfl ?_
          refine rv_iload (q := 395) E.x dL_areChanges_393 rfl rfl ?_
          refine rv_iload (q := 397) E.x dL_areChanges_395 rfl rfl ?_
          refine rv_iconst (q := 398) E.x dL_areChanges_397 rv_ki1 rfl ?_
          refine lk_x1r (fun r6 e5 => ?_) (fun w7 e8 => rv_stuck)
          refine lk_ci (q := 401) (v := r6) (M1 := M) E (fun u hI _ => c11_worth E.2.2.1.1 hI e5) gP_142 hX11_worth ⟨rfl, rfl⟩ ⟨Nat.le_of_ble_eq_true rfl, Nat.le_of_ble_eq_true rfl⟩ ⟨Nat.le_of_ble_eq_true rfl, Nat.le_of_ble_eq_true rfl⟩ rfl rfl rfl (Nat.le_of_ble_eq_true rfl) dL_areChanges_398 rfl ?_
          refine rv_iconst (q := 402) E.x dL_areChanges_401 rv_ki1 rfl ?_
          refine rv_icmp_gt (q := 405) (tgt := 424) E.x dL_areChanges_402 (by decide) rfl ?_ ?_
          · refine rv_aload_n (q := 406) E.x dL_areChanges_405 rfl rfl ?_
            refine rv_iload (q := 408) E.x dL_areChanges_406 rfl rfl ?_
            refine rv_iload (q := 410) E.x dL_areChanges_408 rfl rfl ?_
            refine rv_iload (q := 412) E.x dL_areChanges_410 rfl rfl ?_
            refine rv_iconst (q := 413) E.x dL_areChanges_412 rv_ki1 rfl ?_
            refine lk_x1r (fun r10 e9 => ?_) (fun w11 e12 => rv_stuck)
            refine lk_ci (q := 416) (v := r10) (M1 := M) E (fun u hI _ => c11_worth E.2.2.1.1 hI e9) gP_142 hX11_worth ⟨rfl, rfl⟩ ⟨Nat.le_of_ble_eq_true rfl, Nat.le_of_ble_eq_true rfl⟩ ⟨Nat.le_of_ble_eq_true rfl, Nat.le_of_ble_eq_true rfl⟩ rfl rfl rfl (Nat.le_of_ble_eq_true rfl) dL_areChanges_413 rfl ?_
            refine rv_iconst (q := 417) E.x dL_areChanges_416 rv_kim1 rfl ?_
            refine rv_icmp_lt (q := 420) (tgt := 424) E.x dL_areChanges_417 (by decide) rfl ?_ ?_
            · refine rv_iconst (q := 421) E.x dL_areChanges_420 rv_ki1 rfl ?_
              refine rv_goto (q := 425) E.x dL_areChanges_421 (by decide) ?_
              refine rv_wk [true, true, true, false, true, true, false, false, false, false, false, false, false, true, false] ?_
              exact bp_areChanges_425 E gh A k5 k353 h5 h353 M x2 x4 x5 x13 true
            · refine rv_wk [true, true, true, false, true, true, false, false, false, false, false, false, false, true, false] ?_
              exact bp_areChanges_424 E gh A k5 k353 h5 h353 M x2 x4 x5 x13
          · refine rv_wk [true, true, true, false, true, true, false, false, false, false, false, false, false, true, false] ?_
            exact bp_areChanges_424 E gh A k5 k353 h5 h353 M x2 x4 x5 x13
        · refine rv_wk [true, true, true, false, true, true, false, false, false, false, false, false, false, true, false] ?_
          exact bp_areChanges_424 E gh A k5 k353 h5 h353 M x2 x4 x5 x13
      · refine rv_wk [true, true, true, false, true, true, false, false, false, false, false, false, false, true, false] ?_
        exact bp_areChanges_424 E gh A k5 k353 h5 h353 M x2 x4 x5 x13
    · refine rv_wk [true, true, true, true, true, false, false, false, false, false, false, false, false, false, false] ?_
      exact bp_areChanges_432 E gh A k5 h5 M x2 x3 x4
  · refine rv_wk [true, true, true, true, true, false, false, false, false, false, false, false, false, false, false] ?_
    exact bp_areChanges_432 E gh A k5 h5 M x2 x3 x4
theorem bp_areChanges_353 {p : Program} {l : Launch} {e : Env} {s : State} {m : MethodId} {args : Array Value} {below : List Frame} {meth : Method} {c : Code} {D : va_G} {cI cZ cO : ClassId} {mi de z0 o b L : Nat} {k : Nat → Nat} {xs : Nat → Int32} (E : lk_E D cI cZ cO mi de z0 b L k xs cL_areChanges 15 (some .boolean) p l s m args meth c) (gh : rC_gh) (A : rv_Mem) (k5 : rv_Mem → Int32 → Bool → Int32 → Option (Bool × rv_Mem)) (h5 : ∀ (M : rv_Mem) (x2 : Int32) (x3 : Bool) (x4 : Int32), rv_M (lk_G D cI cZ cO de z0 o k) (fun q => z0 ≤ q) p l e rmp_areChanges s m args below meth c 0 0 (lk_qRZ D cI cZ cO de z0 o k gh A below args s 0 0) (k5 M x2 x3 x4) 5 [some (.ref o), some (.ref (k 0)), some (.int x2), some (.int (rv_i x3)), some (.int x4), none, none, none, none, none, none, none, none, none, none] [] (gh, M, A)) : ∀ (n : Nat), ∀ (M : rv_Mem) (x2 : Int32) (x3 : Bool) (x4 : Int32) (x5 : Int32) (x13 : Int32), rv_M (lk_G D cI cZ cO de z0 o k) (fun q => z0 ≤ q) p l e rmp_areChanges s m args below meth c 0 0 (lk_qRZ D cI cZ cO de z0 o k gh A below args s 0 0) (gp_areChanges_353 gh A k5 n M x2 x3 x4 x5 x13) 353 [some (.ref o), some (.ref (k 0)), some (.int x2), some (.int (rv_i x3)), some (.int x4), some (.int x5), none, none, none, none, none, none, none, some (.int x13), none] [] (gh, M, A) := by
  intro n
  induction n with
  | zero => exact fun _ _ _ _ _ _ => rv_stuck
  | succ n ih => exact bp_areChanges_353_s E gh A k5 h5 (gp_areChanges_353 gh A k5 n) ih
set_option maxRecDepth 100000 in
theorem bp_areChanges_349 {p : Program} {l : Launch} {e : Env} {s : State} {m : MethodId} {args : Array Value} {below : List Frame} {meth : Method} {c : Code} {D : va_G} {cI cZ cO : ClassId} {mi de z0 o b L : Nat} {k : Nat → Nat} {xs : Nat → Int32} (E : lk_E D cI cZ cO mi de z0 b L k xs cL_areChanges 15 (some .boolean) p l s m args meth c) (gh : rC_gh) (A : rv_Mem) (k5 : rv_Mem → Int32 → Bool → Int32 → Option (Bool × rv_Mem)) (h5 : ∀ (M : rv_Mem) (x2 : Int32) (x3 : Bool) (x4 : Int32), rv_M (lk_G D cI cZ cO de z0 o k) (fun q => z0 ≤ q) p l e rmp_areChanges s m args below meth c 0 0 (lk_qRZ D cI cZ cO de z0 o k gh A below args s 0 0) (k5 M x2 x3 x4) 5 [some (.ref o), some (.ref (k 0)), some (.int x2), some (.int (rv_i x3)), some (.int x4), none, none, none, none, none, none, none, none, none, none] [] (gh, M, A)) : ∀ (M : rv_Mem) (x2 : Int32) (x4 : Int32) (x5 : Int32) (s0 : Bool), rv_M (lk_G D cI cZ cO de z0 o k) (fun q => z0 ≤ q) p l e rmp_areChanges s m args below meth c 0 0 (lk_qRZ D cI cZ cO de z0 o k gh A below args s 0 0) (gp_areChanges_349 gh A k5 M x2 x4 x5 s0) 349 [some (.ref o), some (.ref (k 0)), some (.int x2), none, some (.int x4), some (.int x5), none, none, none, none, none, none, none, none, none] [.int (rv_i s0)] (gh, M, A) := by
  intro M x2 x4 x5 s0
  unfold gp_areChanges_349
  refine rv_istore_n (q := 350) (lv' := [_, _, _, _, _, _, _, _, _, _, _, _, _, _, _]) E.x dL_areChanges_349 (Nat.le_of_ble_eq_true rfl) rfl rfl rfl ?_
  refine rv_iconst (q := 351) E.x dL_areChanges_350 rv_ki0 rfl ?_
  refine rv_istore (q := 353) (lv' := [_, _, _, _, _, _, _, _, _, _, _, _, _, _, _]) E.x dL_areChanges_351 (Nat.le_of_ble_eq_true rfl) rfl rfl rfl ?_
  refine rv_wk [true, true, true, true, true, true, false, false, false, false, false, false, false, true, false] ?_
  exact bp_areChanges_353 E gh A k5 h5 rv_FU M x2 s0 x4 x5 0
set_option maxRecDepth 100000 in
theorem bp_areChanges_344 {p : Program} {l : Launch} {e : Env} {s : State} {m : MethodId} {args : Array Value} {below : List Frame} {meth : Method} {c : Code} {D : va_G} {cI cZ cO : ClassId} {mi de z0 o b L : Nat} {k : Nat → Nat} {xs : Nat → Int32} (E : lk_E D cI cZ cO mi de z0 b L k xs cL_areChanges 15 (some .boolean) p l s m args meth c) (gh : rC_gh) (A : rv_Mem) (k5 : rv_Mem → Int32 → Bool → Int32 → Option (Bool × rv_Mem)) (h5 : ∀ (M : rv_Mem) (x2 : Int32) (x3 : Bool) (x4 : Int32), rv_M (lk_G D cI cZ cO de z0 o k) (fun q => z0 ≤ q) p l e rmp_areChanges s m args below meth c 0 0 (lk_qRZ D cI cZ cO de z0 o k gh A below args s 0 0) (k5 M x2 x3 x4) 5 [some (.ref o), some (.ref (k 0)), some (.int x2), some (.int (rv_i x3)), some (.int x4), none, none, none, none, none, none, none, none, none, none] [] (gh, M, A)) : ∀ (M : rv_Mem) (x2 : Int32) (x4 : Int32) (x5 : Int32), rv_M (lk_G D cI cZ cO de z0 o k) (fun q => z0 ≤ q) p l e rmp_areChanges s m args below meth c 0 0 (lk_qRZ D cI cZ cO de z0 o k gh A below args s 0 0) (gp_areChanges_344 gh A k5 M x2 x4 x5) 344 [some (.ref o), some (.ref (k 0)), some (.int x2), none, some (.int x4), some (.int x5), none, none, none, none, none, none, none, none, none] [] (gh, M, A) := by
  intro M x2 x4 x5
  unfold gp_areChanges_344
  refine rv_iconst (q := 345) E.x dL_areChanges_344 rv_ki1 rfl ?_
  refine rv_goto (q := 349) E.x dL_areChanges_345 (by decide) ?_
  refine rv_wk [true, true, true, false, true, true, false, false, false, false, false, false, false, false, false] ?_
  exact bp_areChanges_349 E gh A k5 h5 M x2 x4 x5 true
set_option maxRecDepth 100000 in
theorem bp_areChanges_348 {p : Program} {l : Launch} {e : Env} {s : State} {m : MethodId} {args : Array Value} {below : List Frame} {meth : Method} {c : Code} {D : va_G} {cI cZ cO : ClassId} {mi de z0 o b L : Nat} {k : Nat → Nat} {xs : Nat → Int32} (E : lk_E D cI cZ cO mi de z0 b L k xs cL_areChanges 15 (some .boolean) p l s m args meth c) (gh : rC_gh) (A : rv_Mem) (k5 : rv_Mem → Int32 → Bool → Int32 → Option (Bool × rv_Mem)) (h5 : ∀ (M : rv_Mem) (x2 : Int32) (x3 : Bool) (x4 : Int32), rv_M (lk_G D cI cZ cO de z0 o k) (fun q => z0 ≤ q) p l e rmp_areChanges s m args below meth c 0 0 (lk_qRZ D cI cZ cO de z0 o k gh A below args s 0 0) (k5 M x2 x3 x4) 5 [some (.ref o), some (.ref (k 0)), some (.int x2), some (.int (rv_i x3)), some (.int x4), none, none, none, none, none, none, none, none, none, none] [] (gh, M, A)) : ∀ (M : rv_Mem) (x2 : Int32) (x4 : Int32) (x5 : Int32), rv_M (lk_G D cI cZ cO de z0 o k) (fun q => z0 ≤ q) p l e rmp_areChanges s m args below meth c 0 0 (lk_qRZ D cI cZ cO de z0 o k gh A below args s 0 0) (gp_areChanges_348 gh A k5 M x2 x4 x5) 348 [some (.ref o), some (.ref (k 0)), some (.int x2), none, some (.int x4), some (.int x5), none, none, none, none, none, none, none, none, none] [] (gh, M, A) := by
  intro M x2 x4 x5
  unfold gp_areChanges_348
  refine rv_iconst (q := 349) E.x dL_areChanges_348 rv_ki0 rfl ?_
  refine rv_wk [true, true, true, false, true, true, false, false, false, false, false, false, false, false, false] ?_
  exact bp_areChanges_349 E gh A k5 h5 M x2 x4 x5 false
set_option maxRecDepth 100000 in
theorem bp_areChanges_330 {p : Program} {l : Launch} {e : Env} {s : State} {m : MethodId} {args : Array Value} {below : List Frame} {meth : Method} {c : Code} {D : va_G} {cI cZ cO : ClassId} {mi de z0 o b L : Nat} {k : Nat → Nat} {xs : Nat → Int32} (E : lk_E D cI cZ cO mi de z0 b L k xs cL_areChanges 15 (some .boolean) p l s m args meth c) (gh : rC_gh) (A : rv_Mem) (k5 : rv_Mem → Int32 → Bool → Int32 → Option (Bool × rv_Mem)) (h5 : ∀ (M : rv_Mem) (x2 : Int32) (x3 : Bool) (x4 : Int32), rv_M (lk_G D cI cZ cO de z0 o k) (fun q => z0 ≤ q) p l e rmp_areChanges s m args below meth c 0 0 (lk_qRZ D cI cZ cO de z0 o k gh A below args s 0 0) (k5 M x2 x3 x4) 5 [some (.ref o), some (.ref (k 0)), some (.int x2), some (.int (rv_i x3)), some (.int x4), none, none, none, none, none, none, none, none, none, none] [] (gh, M, A)) : ∀ (M : rv_Mem) (x2 : Int32) (x4 : Int32) (x5 : Int32) (x7 : Int32) (x11 : Bool) (s0 : Bool) (s1 : Bool), rv_M (lk_G D cI cZ cO de z0 o k) (fun q => z0 ≤ q) p l e rmp_areChanges s m args below meth c 0 0 (lk_qRZ D cI cZ cO de z0 o k gh A below args s 0 0) (gp_areChanges_330 gh A k5 M x2 x4 x5 x7 x11 s0 s1) 330 [some (.ref o), some (.ref (k 0)), some (.int x2), none, some (.int x4), some (.int x5), none, some (.int x7), none, none, none, some (.int (rv_i x11)), none, none, none] [.int (rv_i s1), .int (rv_i s0)] (gh, M, A) := by
  intro M x2 x4 x5 x7 x11 s0 s1
  unfold gp_areChanges_330
  refine rv_icmp_ne (q := 333) (tgt := 348) E.x dL_areChanges_330 (by decide) rfl ?_ ?_
  · refine rv_iload (q := 335) E.x dL_areChanges_333 rfl rfl ?_
    refine rv_iconst (q := 336) E.x dL_areChanges_335 rv_ki1 rfl ?_
    refine rv_icmp_ne (q := 339) (tgt := 344) E.x dL_areChanges_336 (by decide) rfl ?_ ?_
    · refine rv_iload (q := 341) E.x dL_areChanges_339 rfl rfl ?_
      refine rv_ifz_ne (q := 344) (tgt := 348) E.x dL_areChanges_341 (by decide) rfl ?_ ?_
      · refine rv_wk [true, true, true, false, true, true, false, false, false, false, false, false, false, false, false] ?_
        exact bp_areChanges_344 E gh A k5 h5 M x2 x4 x5
      · refine rv_wk [true, true, true, false, true, true, false, false, false, false, false, false, false, false, false] ?_
        exact bp_areChanges_348 E gh A k5 h5 M x2 x4 x5
    · refine rv_wk [true, true, true, false, true, true, false, false, false, false, false, false, false, false, false] ?_
      exact bp_areChanges_344 E gh A k5 h5 M x2 x4 x5
  · refine rv_wk [true, true, true, false, true, true, false, false, false, false, false, false, false, false, false] ?_
    exact bp_areChanges_348 E gh A k5 h5 M x2 x4 x5
set_option maxRecDepth 100000 in
theorem bp_areChanges_329 {p : Program} {l : Launch} {e : Env} {s : State} {m : MethodId} {args : Array Value} {below : List Frame} {meth : Method} {c : Code} {D : va_G} {cI cZ cO : ClassId} {mi de z0 o b L : Nat} {k : Nat → Nat} {xs : Nat → Int32} (E : lk_E D cI cZ cO mi de z0 b L k xs cL_areChanges 15 (some .boolean) p l s m args meth c) (gh : rC_gh) (A : rv_Mem) (k5 : rv_Mem → Int32 → Bool → Int32 → Option (Bool × rv_Mem)) (h5 : ∀ (M : rv_Mem) (x2 : Int32) (x3 : Bool) (x4 : Int32), rv_M (lk_G D cI cZ cO de z0 o k) (fun q => z0 ≤ q) p l e rmp_areChanges s m args below meth c 0 0 (lk_qRZ D cI cZ cO de z0 o k gh A below args s 0 0) (k5 M x2 x3 x4) 5 [some (.ref o), some (.ref (k 0)), some (.int x2), some (.int (rv_i x3)), some (.int x4), none, none, none, none, none, none, none, none, none, none] [] (gh, M, A)) : ∀ (M : rv_Mem) (x2 : Int32) (x4 : Int32) (x5 : Int32) (x7 : Int32) (x11 : Bool) (s0 : Bool), rv_M (lk_G D cI cZ cO de z0 o k) (fun q => z0 ≤ q) p l e rmp_areChanges s m args below meth c 0 0 (lk_qRZ D cI cZ cO de z0 o k gh A below args s 0 0) (gp_areChanges_329 gh A k5 M x2 x4 x5 x7 x11 s0) 329 [some (.ref o), some (.ref (k 0)), some (.int x2), none, some (.int x4), some (.int x5), none, some (.int x7), none, none, none, some (.int (rv_i x11)), none, none, none] [.int (rv_i s0)] (gh, M, A) := by
  intro M x2 x4 x5 x7 x11 s0
  unfold gp_areChanges_329
  refine rv_iconst (q := 330) E.x dL_areChanges_329 rv_ki0 rfl ?_
  refine rv_wk [true, true, true, false, true, true, false, true, false, false, false, true, false, false, false] ?_
  exact bp_areChanges_330 E gh A k5 h5 M x2 x4 x5 x7 x11 s0 false
set_option maxRecDepth 100000 in
theorem bp_areChanges_315 {p : Program} {l : Launch} {e : Env} {s : State} {m : MethodId} {args : Array Value} {below : List Frame} {meth : Method} {c : Code} {D : va_G} {cI cZ cO : ClassId} {mi de z0 o b L : Nat} {k : Nat → Nat} {xs : Nat → Int32} (E : lk_E D cI cZ cO mi de z0 b L k xs cL_areChanges 15 (some .boolean) p l s m args meth c) (gh : rC_gh) (A : rv_Mem) (k5 : rv_Mem → Int32 → Bool → Int32 → Option (Bool × rv_Mem)) (h5 : ∀ (M : rv_Mem) (x2 : Int32) (x3 : Bool) (x4 : Int32), rv_M (lk_G D cI cZ cO de z0 o k) (fun q => z0 ≤ q) p l e rmp_areChanges s m args below meth c 0 0 (lk_qRZ D cI cZ cO de z0 o k gh A below args s 0 0) (k5 M x2 x3 x4) 5 [some (.ref o), some (.ref (k 0)), some (.int x2), some (.int (rv_i x3)), some (.int x4), none, none, none, none, none, none, none, none, none, none] [] (gh, M, A)) : ∀ (M : rv_Mem) (x2 : Int32) (x4 : Int32) (x5 : Int32) (x7 : Int32) (x11 : Bool) (x12 : Bool) (s0 : Bool), rv_M (lk_G D cI cZ cO de z0 o k) (fun q => z0 ≤ q) p l e rmp_areChanges s m args below meth c 0 0 (lk_qRZ D cI cZ cO de z0 o k gh A below args s 0 0) (gp_areChanges_315 gh A k5 M x2 x4 x5 x7 x11 x12 s0) 315 [some (.ref o), some (.ref (k 0)), some (.int x2), none, some (.int x4), some (.int x5), none, some (.int x7), none, none, none, some (.int (rv_i x11)), some (.int (rv_i x12)), none, none] [.int (rv_i s0)] (gh, M, A) := by
  intro M x2 x4 x5 x7 x11 x12 s0
  unfold gp_areChanges_315
  refine rv_iload (q := 317) E.x dL_areChanges_315 rfl rfl ?_
  refine rv_ifz_eq (q := 320) (tgt := 329) E.x dL_areChanges_317 (by decide) rfl ?_ ?_
  · refine rv_iload (q := 322) E.x dL_areChanges_320 rfl rfl ?_
    refine rv_ifz_eq (q := 325) (tgt := 329) E.x dL_areChanges_322 (by decide) rfl ?_ ?_
    · refine rv_iconst (q := 326) E.x dL_areChanges_325 rv_ki1 rfl ?_
      refine rv_goto (q := 330) E.x dL_areChanges_326 (by decide) ?_
      refine rv_wk [true, true, true, false, true, true, false, true, false, false, false, true, false, false, false] ?_
      exact bp_areChanges_330 E gh A k5 h5 M x2 x4 x5 x7 x11 s0 true
    · refine rv_wk [true, true, true, false, true, true, false, true, false, false, false, true, false, false, false] ?_
      exact bp_areChanges_329 E gh A k5 h5 M x2 x4 x5 x7 x11 s0
  · refine rv_wk [true, true, true, false, true, true, false, true, false, false, false, true, false, false, false] ?_
    exact bp_areChanges_329 E gh A k5 h5 M x2 x4 x5 x7 x11 s0
set_option maxRecDepth 100000 in
theorem bp_areChanges_237_s {p : Program} {l : Launch} {e : Env} {s : State} {m : MethodId} {args : Array Value} {below : List Frame} {meth : Method} {c : Code} {D : va_G} {cI cZ cO : ClassId} {mi de z0 o b L : Nat} {k : Nat → Nat} {xs : Nat → Int32} (E : lk_E D cI cZ cO mi de z0 b L k xs cL_areChanges 15 (some .boolean) p l s m args meth c) (gh : rC_gh) (A : rv_Mem) (k5 : rv_Mem → Int32 → Bool → Int32 → Option (Bool × rv_Mem)) (h5 : ∀ (M : rv_Mem) (x2 : Int32) (x3 : Bool) (x4 : Int32), rv_M (lk_G D cI cZ cO de z0 o k) (fun q => z0 ≤ q) p l e rmp_areChanges s m args below meth c 0 0 (lk_qRZ D cI cZ cO de z0 o k gh A below args s 0 0) (k5 M x2 x3 x4) 5 [some (.ref o), some (.ref (k 0)), some (.int x2), some (.int (rv_i x3)), some (.int x4), none, none, none, none, none, none, none, none, none, none] [] (gh, M, A)) (k237 : rv_Mem → Int32 → Int32 → Int32 → Int32 → Int32 → Int32 → Bool → Bool → Int32 → Option (Bool × rv_Mem)) (h237 : ∀ (M : rv_Mem) (x2 : Int32) (x4 : Int32) (x5 : Int32) (x6 : Int32) (x7 : Int32) (x10 : Int32) (x11 : Bool) (x12 : Bool) (x13 : Int32), rv_M (lk_G D cI cZ cO de z0 o k) (fun q => z0 ≤ q) p l e rmp_areChanges s m args below meth c 0 0 (lk_qRZ D cI cZ cO de z0 o k gh A below args s 0 0) (k237 M x2 x4 x5 x6 x7 x10 x11 x12 x13) 237 [some (.ref o), some (.ref (k 0)), some (.int x2), none, some (.int x4), some (.int x5), some (.int x6), some (.int x7), none, none, some (.int x10), some (.int (rv_i x11)), some (.int (rv_i x12)), some (.int x13), none] [] (gh, M, A)) : ∀ (M : rv_Mem) (x2 : Int32) (x4 : Int32) (x5 : Int32) (x6 : Int32) (x7 : Int32) (x10 : Int32) (x11 : Bool) (x12 : Bool) (x13 : Int32), rv_M (lk_G D cI cZ cO de z0 o k) (fun q => z0 ≤ q) p l e rmp_areChanges s m args below meth c 0 0 (lk_qRZ D cI cZ cO de z0 o k gh A below args s 0 0) (gp_areChanges_237_s gh A k5 k237 M x2 x4 x5 x6 x7 x10 x11 x12 x13) 237 [some (.ref o), some (.ref (k 0)), some (.int x2), none, some (.int x4), some (.int x5), some (.int x6), some (.int x7), none, none, some (.int x10), some (.int (rv_i x11)), some (.int (rv_i x12)), some (.int x13), none] [] (gh, M, A) := by
  intro M x2 x4 x5 x6 x7 x10 x11 x12 x13
  unfold gp_areChanges_237_s
  refine rv_iload (q := 239) E.x dL_areChanges_237 rfl rfl ?_
  refine rv_bipush (q := 241) E.x dL_areChanges_239 rv_kb40 rfl ?_
  refine rv_icmp_ge (q := 244) (tgt := 297) E.x dL_areChanges_241 (by decide) rfl ?_ ?_
  · refine rv_iload (q := 246) E.x dL_areChanges_244 rfl rfl ?_
    refine rv_ifz_eq (q := 249) (tgt := 288) E.x dL_areChanges_246 (by decide) rfl ?_ ?_
    · refine rv_aload_n (q := 250) E.x dL_areChanges_249 rfl rfl ?_
      refine rv_iload (q := 252) E.x dL_areChanges_250 rfl rfl ?_
      refine rv_iload (q := 254) E.x dL_areChanges_252 rfl rfl ?_
      refine rv_bipush (q := 256) E.x dL_areChanges_254 rv_kb10 rfl ?_
      refine rv_idiv (q := 257) E.x dL_areChanges_256 (by decide) rfl ?_
      refine rv_iload (q := 259) E.x dL_areChanges_257 rfl rfl ?_
      refine rv_bipush (q := 261) E.x dL_areChanges_259 rv_kb10 rfl ?_
      refine rv_irem (q := 262) E.x dL_areChanges_261 (by decide) rfl ?_
      refine lk_x1r (fun r2 e1 => ?_) (fun w3 e4 => rv_stuck)
      refine lk_ci (q := 265) (v := r2) (M1 := M) E (fun u hI _ => c11_line E.2.2.1.1 hI e1) gP_112 hX11_line ⟨rfl, rfl⟩ ⟨Nat.le_of_ble_eq_true rfl, Nat.le_of_ble_eq_true rfl⟩ ⟨Nat.le_of_ble_eq_true rfl, Nat.le_of_ble_eq_true rfl⟩ rfl rfl rfl (Nat.le_of_ble_eq_true rfl) dL_areChanges_262 rfl ?_
      refine rv_aload_n (q := 266) E.x dL_areChanges_265 rfl rfl ?_
      refine rv_iload (q := 268) E.x dL_areChanges_266 rfl rfl ?_
      refine rv_iload (q := 270) E.x dL_areChanges_268 rfl rfl ?_
      refine rv_bipush (q := 272) E.x dL_areChanges_270 rv_kb10 rfl ?_
      refine rv_idiv (q := 273) E.x dL_areChanges_272 (by decide) rfl ?_
      refine rv_iload (q := 275) E.x dL_areChanges_273 rfl rfl ?_
      refine rv_bipush (q := 277) E.x dL_areChanges_275 rv_kb10 rfl ?_
      refine rv_irem (q := 278) E.x dL_areChanges_277 (by decide) rfl ?_
      refine lk_x1r (fun r6 e5 => ?_) (fun w7 e8 => rv_stuck)
      refine lk_ci (q := 281) (v := r6) (M1 := M) E (fun u hI _ => c11_line E.2.2.1.1 hI e5) gP_112 hX11_line ⟨rfl, rfl⟩ ⟨Nat.le_of_ble_eq_true rfl, Nat.le_of_ble_eq_true rfl⟩ ⟨Nat.le_of_ble_eq_true rfl, Nat.le_of_ble_eq_true rfl⟩ rfl rfl rfl (Nat.le_of_ble_eq_true rfl) dL_areChanges_278 rfl ?_
      refine rv_icmp_ne (q := 284) (tgt := 288) E.x dL_areChanges_281 (by decide) rfl ?_ ?_
      · refine rv_iconst (q := 285) E.x dL_areChanges_284 rv_ki1 rfl ?_
        refine rv_goto (q := 289) E.x dL_areChanges_285 (by decide) ?_
        refine rv_wk [true, true, true, false, true, true, true, true, false, false, true, true, false, true, false] ?_
        exact bp_areChanges_289 E gh A k5 k237 h5 h237 M x2 x4 x5 x6 x7 x10 x11 x13 true
      · refine rv_wk [true, true, true, false, true, true, true, true, false, false, true, true, false, true, false] ?_
        exact bp_areChanges_288 E gh A k5 k237 h5 h237 M x2 x4 x5 x6 x7 x10 x11 x13
    · refine rv_wk [true, true, true, false, true, true, true, true, false, false, true, true, false, true, false] ?_
      exact bp_areChanges_288 E gh A k5 k237 h5 h237 M x2 x4 x5 x6 x7 x10 x11 x13
  · refine rv_iload (q := 299) E.x dL_areChanges_297 rfl rfl ?_
    refine rv_iload (q := 301) E.x dL_areChanges_299 rfl rfl ?_
    refine rv_icmp_ge (q := 304) (tgt := 348) E.x dL_areChanges_301 (by decide) rfl ?_ ?_
    · refine rv_iload (q := 306) E.x dL_areChanges_304 rfl rfl ?_
      refine rv_iconst (q := 307) E.x dL_areChanges_306 rv_ki2 rfl ?_
      refine rv_icmp_ne (q := 310) (tgt := 314) E.x dL_areChanges_307 (by decide) rfl ?_ ?_
      · refine rv_iconst (q := 311) E.x dL_areChanges_310 rv_ki1 rfl ?_
        refine rv_goto (q := 315) E.x dL_areChanges_311 (by decide) ?_
        refine rv_wk [true, true, true, false, true, true, false, true, false, false, false, true, true, false, false] ?_
        exact bp_areChanges_315 E gh A k5 h5 M x2 x4 x5 x7 x11 x12 true
      · refine rv_iconst (q := 315) E.x dL_areChanges_314 rv_ki0 rfl ?_
        refine rv_wk [true, true, true, false, true, true, false, true, false, false, false, true, true, false, false] ?_
        exact bp_areChanges_315 E gh A k5 h5 M x2 x4 x5 x7 x11 x12 false
    · refine rv_wk [true, true, true, false, true, true, false, false, false, false, false, false, false, false, false] ?_
      exact bp_areChanges_348 E gh A k5 h5 M x2 x4 x5
theorem bp_areChanges_237 {p : Program} {l : Launch} {e : Env} {s : State} {m : MethodId} {args : Array Value} {below : List Frame} {meth : Method} {c : Code} {D : va_G} {cI cZ cO : ClassId} {mi de z0 o b L : Nat} {k : Nat → Nat} {xs : Nat → Int32} (E : lk_E D cI cZ cO mi de z0 b L k xs cL_areChanges 15 (some .boolean) p l s m args meth c) (gh : rC_gh) (A : rv_Mem) (k5 : rv_Mem → Int32 → Bool → Int32 → Option (Bool × rv_Mem)) (h5 : ∀ (M : rv_Mem) (x2 : Int32) (x3 : Bool) (x4 : Int32), rv_M (lk_G D cI cZ cO de z0 o k) (fun q => z0 ≤ q) p l e rmp_areChanges s m args below meth c 0 0 (lk_qRZ D cI cZ cO de z0 o k gh A below args s 0 0) (k5 M x2 x3 x4) 5 [some (.ref o), some (.ref (k 0)), some (.int x2), some (.int (rv_i x3)), some (.int x4), none, none, none, none, none, none, none, none, none, none] [] (gh, M, A)) : ∀ (n : Nat), ∀ (M : rv_Mem) (x2 : Int32) (x4 : Int32) (x5 : Int32) (x6 : Int32) (x7 : Int32) (x10 : Int32) (x11 : Bool) (x12 : Bool) (x13 : Int32), rv_M (lk_G D cI cZ cO de z0 o k) (fun q => z0 ≤ q) p l e rmp_areChanges s m args below meth c 0 0 (lk_qRZ D cI cZ cO de z0 o k gh A below args s 0 0) (gp_areChanges_237 gh A k5 n M x2 x4 x5 x6 x7 x10 x11 x12 x13) 237 [some (.ref o), some (.ref (k 0)), some (.int x2), none, some (.int x4), some (.int x5), some (.int x6), some (.int x7), none, none, some (.int x10), some (.int (rv_i x11)), some (.int (rv_i x12)), some (.int x13), none] [] (gh, M, A) := by
  intro n
  induction n with
  | zero => exact fun _ _ _ _ _ _ _ _ _ _ => rv_stuck
  | succ n ih => exact bp_areChanges_237_s E gh A k5 h5 (gp_areChanges_237 gh A k5 n) ih
set_option maxRecDepth 100000 in
theorem bp_areChanges_229 {p : Program} {l : Launch} {e : Env} {s : State} {m : MethodId} {args : Array Value} {below : List Frame} {meth : Method} {c : Code} {D : va_G} {cI cZ cO : ClassId} {mi de z0 o b L : Nat} {k : Nat → Nat} {xs : Nat → Int32} (E : lk_E D cI cZ cO mi de z0 b L k xs cL_areChanges 15 (some .boolean) p l s m args meth c) (gh : rC_gh) (A : rv_Mem) (k5 : rv_Mem → Int32 → Bool → Int32 → Option (Bool × rv_Mem)) (h5 : ∀ (M : rv_Mem) (x2 : Int32) (x3 : Bool) (x4 : Int32), rv_M (lk_G D cI cZ cO de z0 o k) (fun q => z0 ≤ q) p l e rmp_areChanges s m args below meth c 0 0 (lk_qRZ D cI cZ cO de z0 o k gh A below args s 0 0) (k5 M x2 x3 x4) 5 [some (.ref o), some (.ref (k 0)), some (.int x2), some (.int (rv_i x3)), some (.int x4), none, none, none, none, none, none, none, none, none, none] [] (gh, M, A)) : ∀ (M : rv_Mem) (x2 : Int32) (x4 : Int32) (x5 : Int32) (x6 : Int32) (x7 : Int32) (x10 : Int32) (s0 : Bool), rv_M (lk_G D cI cZ cO de z0 o k) (fun q => z0 ≤ q) p l e rmp_areChanges s m args below meth c 0 0 (lk_qRZ D cI cZ cO de z0 o k gh A below args s 0 0) (gp_areChanges_229 gh A k5 M x2 x4 x5 x6 x7 x10 s0) 229 [some (.ref o), some (.ref (k 0)), some (.int x2), none, some (.int x4), some (.int x5), some (.int x6), some (.int x7), none, none, some (.int x10), none, none, none, none] [.int (rv_i s0)] (gh, M, A) := by
  intro M x2 x4 x5 x6 x7 x10 s0
  unfold gp_areChanges_229
  refine rv_istore (q := 231) (lv' := [_, _, _, _, _, _, _, _, _, _, _, _, _, _, _]) E.x dL_areChanges_229 (Nat.le_of_ble_eq_true rfl) rfl rfl rfl ?_
  refine rv_iconst (q := 232) E.x dL_areChanges_231 rv_ki1 rfl ?_
  refine rv_istore (q := 234) (lv' := [_, _, _, _, _, _, _, _, _, _, _, _, _, _, _]) E.x dL_areChanges_232 (Nat.le_of_ble_eq_true rfl) rfl rfl rfl ?_
  refine rv_iconst (q := 235) E.x dL_areChanges_234 rv_ki0 rfl ?_
  refine rv_istore (q := 237) (lv' := [_, _, _, _, _, _, _, _, _, _, _, _, _, _, _]) E.x dL_areChanges_235 (Nat.le_of_ble_eq_true rfl) rfl rfl rfl ?_
  refine rv_wk [true, true, true, false, true, true, true, true, false, false, true, true, true, true, false] ?_
  exact bp_areChanges_237 E gh A k5 h5 rv_FU M x2 x4 x5 x6 x7 x10 s0 true 0
set_option maxRecDepth 100000 in
theorem bp_areChanges_187 {p : Program} {l : Launch} {e : Env} {s : State} {m : MethodId} {args : Array Value} {below : List Frame} {meth : Method} {c : Code} {D : va_G} {cI cZ cO : ClassId} {mi de z0 o b L : Nat} {k : Nat → Nat} {xs : Nat → Int32} (E : lk_E D cI cZ cO mi de z0 b L k xs cL_areChanges 15 (some .boolean) p l s m args meth c) (gh : rC_gh) (A : rv_Mem) (k5 : rv_Mem → Int32 → Bool → Int32 → Option (Bool × rv_Mem)) (h5 : ∀ (M : rv_Mem) (x2 : Int32) (x3 : Bool) (x4 : Int32), rv_M (lk_G D cI cZ cO de z0 o k) (fun q => z0 ≤ q) p l e rmp_areChanges s m args below meth c 0 0 (lk_qRZ D cI cZ cO de z0 o k gh A below args s 0 0) (k5 M x2 x3 x4) 5 [some (.ref o), some (.ref (k 0)), some (.int x2), some (.int (rv_i x3)), some (.int x4), none, none, none, none, none, none, none, none, none, none] [] (gh, M, A)) : ∀ (M : rv_Mem) (x2 : Int32) (x4 : Int32) (x5 : Int32) (x6 : Int32) (x7 : Int32) (s0 : Bool), rv_M (lk_G D cI cZ cO de z0 o k) (fun q => z0 ≤ q) p l e rmp_areChanges s m args below meth c 0 0 (lk_qRZ D cI cZ cO de z0 o k gh A below args s 0 0) (gp_areChanges_187 gh A k5 M x2 x4 x5 x6 x7 s0) 187 [some (.ref o), some (.ref (k 0)), some (.int x2), none, some (.int x4), some (.int x5), some (.int x6), some (.int x7), none, none, none, none, none, none, none] [.int (rv_i s0)] (gh, M, A) := by
  intro M x2 x4 x5 x6 x7 s0
  unfold gp_areChanges_187
  refine rv_istore_n (q := 188) (lv' := [_, _, _, _, _, _, _, _, _, _, _, _, _, _, _]) E.x dL_areChanges_187 (Nat.le_of_ble_eq_true rfl) rfl rfl rfl ?_
  refine rv_iload_n (q := 189) E.x dL_areChanges_188 rfl rfl ?_
  refine rv_ifz_eq (q := 192) (tgt := 432) E.x dL_areChanges_189 (by decide) rfl ?_ ?_
  · refine rv_iload (q := 194) E.x dL_areChanges_192 rfl rfl ?_
    refine rv_if_le (q := 197) (tgt := 432) E.x dL_areChanges_194 (by decide) rfl ?_ ?_
    · refine rv_aload_n (q := 198) E.x dL_areChanges_197 rfl rfl ?_
      refine rv_iload (q := 200) E.x dL_areChanges_198 rfl rfl ?_
      refine rv_iload (q := 202) E.x dL_areChanges_200 rfl rfl ?_
      refine rv_iconst (q := 203) E.x dL_areChanges_202 rv_ki1 rfl ?_
      refine rv_isub (q := 204) E.x dL_areChanges_203 rfl ?_
      refine lk_x1r (fun r2 e1 => ?_) (fun w3 e4 => rv_stuck)
      refine lk_ci (q := 207) (v := r2) (M1 := M) E (fun u hI _ => c11_commitOf E.2.2.1.1 hI e1) gP_130 hX11_commitOf ⟨rfl, rfl⟩ ⟨Nat.le_of_ble_eq_true rfl, Nat.le_of_ble_eq_true rfl⟩ ⟨Nat.le_of_ble_eq_true rfl, Nat.le_of_ble_eq_true rfl⟩ rfl rfl rfl (Nat.le_of_ble_eq_true rfl) dL_areChanges_204 rfl ?_
      refine rv_istore (q := 209) (lv' := [_, _, _, _, _, _, _, _, _, _, _, _, _, _, _]) E.x dL_areChanges_207 (Nat.le_of_ble_eq_true rfl) rfl rfl rfl ?_
      refine rv_aload_n (q := 210) E.x dL_areChanges_209 rfl rfl ?_
      refine rv_iload (q := 212) E.x dL_areChanges_210 rfl rfl ?_
      refine lk_x1r (fun r6 e5 => ?_) (fun w7 e8 => rv_stuck)
      refine lk_ci (q := 215) (v := r6) (M1 := M) E (fun u hI _ => c11_before E.2.2.1.1 hI e5) gP_115 hX11_before ⟨rfl, rfl⟩ ⟨Nat.le_of_ble_eq_true rfl, Nat.le_of_ble_eq_true rfl⟩ ⟨Nat.le_of_ble_eq_true rfl, Nat.le_of_ble_eq_true rfl⟩ rfl rfl rfl (Nat.le_of_ble_eq_true rfl) dL_areChanges_212 rfl ?_
      refine rv_aload_n (q := 216) E.x dL_areChanges_215 rfl rfl ?_
      refine rv_iload (q := 218) E.x dL_areChanges_216 rfl rfl ?_
      refine lk_x1r (fun r10 e9 => ?_) (fun w11 e12 => rv_stuck)
      refine lk_ci (q := 221) (v := r10) (M1 := M) E (fun u hI _ => c11_before E.2.2.1.1 hI e9) gP_115 hX11_before ⟨rfl, rfl⟩ ⟨Nat.le_of_ble_eq_true rfl, Nat.le_of_ble_eq_true rfl⟩ ⟨Nat.le_of_ble_eq_true rfl, Nat.le_of_ble_eq_true rfl⟩ rfl rfl rfl (Nat.le_of_ble_eq_true rfl) dL_areChanges_218 rfl ?_
      refine rv_icmp_ne (q := 224) (tgt := 228) E.x dL_areChanges_221 (by decide) rfl ?_ ?_
      · refine rv_iconst (q := 225) E.x dL_areChanges_224 rv_ki1 rfl ?_
        refine rv_goto (q := 229) E.x dL_areChanges_225 (by decide) ?_
        refine rv_wk [true, true, true, false, true, true, true, true, false, false, true, false, false, false, false] ?_
        exact bp_areChanges_229 E gh A k5 h5 M x2 x4 x5 x6 x7 r2 true
      · refine rv_iconst (q := 229) E.x dL_areChanges_228 rv_ki0 rfl ?_
        refine rv_wk [true, true, true, false, true, true, true, true, false, false, true, false, false, false, false] ?_
        exact bp_areChanges_229 E gh A k5 h5 M x2 x4 x5 x6 x7 r2 false
    · refine rv_wk [true, true, true, true, true, false, false, false, false, false, false, false, false, false, false] ?_
      exact bp_areChanges_432 E gh A k5 h5 M x2 s0 x4
  · refine rv_wk [true, true, true, true, true, false, false, false, false, false, false, false, false, false, false] ?_
    exact bp_areChanges_432 E gh A k5 h5 M x2 s0 x4
set_option maxRecDepth 100000 in
theorem bp_areChanges_182 {p : Program} {l : Launch} {e : Env} {s : State} {m : MethodId} {args : Array Value} {below : List Frame} {meth : Method} {c : Code} {D : va_G} {cI cZ cO : ClassId} {mi de z0 o b L : Nat} {k : Nat → Nat} {xs : Nat → Int32} (E : lk_E D cI cZ cO mi de z0 b L k xs cL_areChanges 15 (some .boolean) p l s m args meth c) (gh : rC_gh) (A : rv_Mem) (k5 : rv_Mem → Int32 → Bool → Int32 → Option (Bool × rv_Mem)) (h5 : ∀ (M : rv_Mem) (x2 : Int32) (x3 : Bool) (x4 : Int32), rv_M (lk_G D cI cZ cO de z0 o k) (fun q => z0 ≤ q) p l e rmp_areChanges s m args below meth c 0 0 (lk_qRZ D cI cZ cO de z0 o k gh A below args s 0 0) (k5 M x2 x3 x4) 5 [some (.ref o), some (.ref (k 0)), some (.int x2), some (.int (rv_i x3)), some (.int x4), none, none, none, none, none, none, none, none, none, none] [] (gh, M, A)) : ∀ (M : rv_Mem) (x2 : Int32) (x4 : Int32) (x5 : Int32) (x6 : Int32) (x7 : Int32), rv_M (lk_G D cI cZ cO de z0 o k) (fun q => z0 ≤ q) p l e rmp_areChanges s m args below meth c 0 0 (lk_qRZ D cI cZ cO de z0 o k gh A below args s 0 0) (gp_areChanges_182 gh A k5 M x2 x4 x5 x6 x7) 182 [some (.ref o), some (.ref (k 0)), some (.int x2), none, some (.int x4), some (.int x5), some (.int x6), some (.int x7), none, none, none, none, none, none, none] [] (gh, M, A) := by
  intro M x2 x4 x5 x6 x7
  unfold gp_areChanges_182
  refine rv_iconst (q := 183) E.x dL_areChanges_182 rv_ki1 rfl ?_
  refine rv_goto (q := 187) E.x dL_areChanges_183 (by decide) ?_
  refine rv_wk [true, true, true, false, true, true, true, true, false, false, false, false, false, false, false] ?_
  exact bp_areChanges_187 E gh A k5 h5 M x2 x4 x5 x6 x7 true
set_option maxRecDepth 100000 in
theorem bp_areChanges_186 {p : Program} {l : Launch} {e : Env} {s : State} {m : MethodId} {args : Array Value} {below : List Frame} {meth : Method} {c : Code} {D : va_G} {cI cZ cO : ClassId} {mi de z0 o b L : Nat} {k : Nat → Nat} {xs : Nat → Int32} (E : lk_E D cI cZ cO mi de z0 b L k xs cL_areChanges 15 (some .boolean) p l s m args meth c) (gh : rC_gh) (A : rv_Mem) (k5 : rv_Mem → Int32 → Bool → Int32 → Option (Bool × rv_Mem)) (h5 : ∀ (M : rv_Mem) (x2 : Int32) (x3 : Bool) (x4 : Int32), rv_M (lk_G D cI cZ cO de z0 o k) (fun q => z0 ≤ q) p l e rmp_areChanges s m args below meth c 0 0 (lk_qRZ D cI cZ cO de z0 o k gh A below args s 0 0) (k5 M x2 x3 x4) 5 [some (.ref o), some (.ref (k 0)), some (.int x2), some (.int (rv_i x3)), some (.int x4), none, none, none, none, none, none, none, none, none, none] [] (gh, M, A)) : ∀ (M : rv_Mem) (x2 : Int32) (x4 : Int32) (x5 : Int32) (x6 : Int32) (x7 : Int32), rv_M (lk_G D cI cZ cO de z0 o k) (fun q => z0 ≤ q) p l e rmp_areChanges s m args below meth c 0 0 (lk_qRZ D cI cZ cO de z0 o k gh A below args s 0 0) (gp_areChanges_186 gh A k5 M x2 x4 x5 x6 x7) 186 [some (.ref o), some (.ref (k 0)), some (.int x2), none, some (.int x4), some (.int x5), some (.int x6), some (.int x7), none, none, none, none, none, none, none] [] (gh, M, A) := by
  intro M x2 x4 x5 x6 x7
  unfold gp_areChanges_186
  refine rv_iconst (q := 187) E.x dL_areChanges_186 rv_ki0 rfl ?_
  refine rv_wk [true, true, true, false, true, true, true, true, false, false, false, false, false, false, false] ?_
  exact bp_areChanges_187 E gh A k5 h5 M x2 x4 x5 x6 x7 false
set_option maxRecDepth 100000 in
theorem bp_areChanges_146 {p : Program} {l : Launch} {e : Env} {s : State} {m : MethodId} {args : Array Value} {below : List Frame} {meth : Method} {c : Code} {D : va_G} {cI cZ cO : ClassId} {mi de z0 o b L : Nat} {k : Nat → Nat} {xs : Nat → Int32} (E : lk_E D cI cZ cO mi de z0 b L k xs cL_areChanges 15 (some .boolean) p l s m args meth c) (gh : rC_gh) (A : rv_Mem) (k5 : rv_Mem → Int32 → Bool → Int32 → Option (Bool × rv_Mem)) (h5 : ∀ (M : rv_Mem) (x2 : Int32) (x3 : Bool) (x4 : Int32), rv_M (lk_G D cI cZ cO de z0 o k) (fun q => z0 ≤ q) p l e rmp_areChanges s m args below meth c 0 0 (lk_qRZ D cI cZ cO de z0 o k gh A below args s 0 0) (k5 M x2 x3 x4) 5 [some (.ref o), some (.ref (k 0)), some (.int x2), some (.int (rv_i x3)), some (.int x4), none, none, none, none, none, none, none, none, none, none] [] (gh, M, A)) : ∀ (M : rv_Mem) (x2 : Int32) (x4 : Int32) (x5 : Int32) (x6 : Int32) (x7 : Int32) (x9 : Int32), rv_M (lk_G D cI cZ cO de z0 o k) (fun q => z0 ≤ q) p l e rmp_areChanges s m args below meth c 0 0 (lk_qRZ D cI cZ cO de z0 o k gh A below args s 0 0) (gp_areChanges_146 gh A k5 M x2 x4 x5 x6 x7 x9) 146 [some (.ref o), some (.ref (k 0)), some (.int x2), none, some (.int x4), some (.int x5), some (.int x6), some (.int x7), none, some (.int x9), none, none, none, none, none] [] (gh, M, A) := by
  intro M x2 x4 x5 x6 x7 x9
  unfold gp_areChanges_146
  refine rv_iload (q := 148) E.x dL_areChanges_146 rfl rfl ?_
  refine rv_if_lt (q := 151) (tgt := 182) E.x dL_areChanges_148 (by decide) rfl ?_ ?_
  · refine rv_iload (q := 153) E.x dL_areChanges_151 rfl rfl ?_
    refine rv_bipush (q := 155) E.x dL_areChanges_153 rv_kb10 rfl ?_
    refine rv_irem (q := 156) E.x dL_areChanges_155 (by decide) rfl ?_
    refine rv_iconst (q := 157) E.x dL_areChanges_156 rv_ki2 rfl ?_
    refine rv_icmp_ge (q := 160) (tgt := 186) E.x dL_areChanges_157 (by decide) rfl ?_ ?_
    · refine rv_iload (q := 162) E.x dL_areChanges_160 rfl rfl ?_
      refine rv_bipush (q := 164) E.x dL_areChanges_162 rv_kb10 rfl ?_
      refine rv_idiv (q := 165) E.x dL_areChanges_164 (by decide) rfl ?_
      refine rv_aload_n (q := 166) E.x dL_areChanges_165 rfl rfl ?_
      refine rv_b1 (fun r2 e1 => ?_)
      refine lk_cn (q := 169) (v := r2) (M1 := M) E (fun u hI => c11_changes hI e1) gP_187 hX11_changes ⟨rfl, rfl⟩ ⟨Nat.le_of_ble_eq_true rfl, Nat.le_of_ble_eq_true rfl⟩ ⟨Nat.le_of_ble_eq_true rfl, Nat.le_of_ble_eq_true rfl⟩ rfl rfl rfl (Nat.le_of_ble_eq_true rfl) dL_areChanges_166 rfl ?_
      refine rv_icmp_ge (q := 172) (tgt := 186) E.x dL_areChanges_169 (by decide) rfl ?_ ?_
      · refine rv_iload (q := 174) E.x dL_areChanges_172 rfl rfl ?_
        refine rv_bipush (q := 176) E.x dL_areChanges_174 rv_kb10 rfl ?_
        refine rv_idiv (q := 177) E.x dL_areChanges_176 (by decide) rfl ?_
        refine rv_iload (q := 179) E.x dL_areChanges_177 rfl rfl ?_
        refine rv_icmp_eq (q := 182) (tgt := 186) E.x dL_areChanges_179 (by decide) rfl ?_ ?_
        · refine rv_wk [true, true, true, false, true, true, true, true, false, false, false, false, false, false, false] ?_
          exact bp_areChanges_182 E gh A k5 h5 M x2 x4 x5 x6 x7
        · refine rv_wk [true, true, true, false, true, true, true, true, false, false, false, false, false, false, false] ?_
          exact bp_areChanges_186 E gh A k5 h5 M x2 x4 x5 x6 x7
      · refine rv_wk [true, true, true, false, true, true, true, true, false, false, false, false, false, false, false] ?_
        exact bp_areChanges_186 E gh A k5 h5 M x2 x4 x5 x6 x7
    · refine rv_wk [true, true, true, false, true, true, true, true, false, false, false, false, false, false, false] ?_
      exact bp_areChanges_186 E gh A k5 h5 M x2 x4 x5 x6 x7
  · refine rv_wk [true, true, true, false, true, true, true, true, false, false, false, false, false, false, false] ?_
    exact bp_areChanges_182 E gh A k5 h5 M x2 x4 x5 x6 x7
set_option maxRecDepth 100000 in
theorem bp_areChanges_136 {p : Program} {l : Launch} {e : Env} {s : State} {m : MethodId} {args : Array Value} {below : List Frame} {meth : Method} {c : Code} {D : va_G} {cI cZ cO : ClassId} {mi de z0 o b L : Nat} {k : Nat → Nat} {xs : Nat → Int32} (E : lk_E D cI cZ cO mi de z0 b L k xs cL_areChanges 15 (some .boolean) p l s m args meth c) (gh : rC_gh) (A : rv_Mem) (k5 : rv_Mem → Int32 → Bool → Int32 → Option (Bool × rv_Mem)) (h5 : ∀ (M : rv_Mem) (x2 : Int32) (x3 : Bool) (x4 : Int32), rv_M (lk_G D cI cZ cO de z0 o k) (fun q => z0 ≤ q) p l e rmp_areChanges s m args below meth c 0 0 (lk_qRZ D cI cZ cO de z0 o k gh A below args s 0 0) (k5 M x2 x3 x4) 5 [some (.ref o), some (.ref (k 0)), some (.int x2), some (.int (rv_i x3)), some (.int x4), none, none, none, none, none, none, none, none, none, none] [] (gh, M, A)) : ∀ (M : rv_Mem) (x2 : Int32) (x4 : Int32) (x5 : Int32) (x6 : Int32) (x7 : Int32) (x9 : Int32), rv_M (lk_G D cI cZ cO de z0 o k) (fun q => z0 ≤ q) p l e rmp_areChanges s m args below meth c 0 0 (lk_qRZ D cI cZ cO de z0 o k gh A below args s 0 0) (gp_areChanges_136 gh A k5 M x2 x4 x5 x6 x7 x9) 136 [some (.ref o), some (.ref (k 0)), some (.int x2), none, some (.int x4), some (.int x5), some (.int x6), some (.int x7), none, some (.int x9), none, none, none, none, none] [] (gh, M, A) := by
  intro M x2 x4 x5 x6 x7 x9
  unfold gp_areChanges_136
  refine rv_iload (q := 138) E.x dL_areChanges_136 rfl rfl ?_
  refine rv_if_gt (q := 141) (tgt := 146) E.x dL_areChanges_138 (by decide) rfl ?_ ?_
  · refine rv_iload (q := 143) E.x dL_areChanges_141 rfl rfl ?_
    refine rv_if_ne (q := 146) (tgt := 186) E.x dL_areChanges_143 (by decide) rfl ?_ ?_
    · refine rv_wk [true, true, true, false, true, true, true, true, false, true, false, false, false, false, false] ?_
      exact bp_areChanges_146 E gh A k5 h5 M x2 x4 x5 x6 x7 x9
    · refine rv_wk [true, true, true, false, true, true, true, true, false, false, false, false, false, false, false] ?_
      exact bp_areChanges_186 E gh A k5 h5 M x2 x4 x5 x6 x7
  · refine rv_wk [true, true, true, false, true, true, true, true, false, true, false, false, false, false, false] ?_
    exact bp_areChanges_146 E gh A k5 h5 M x2 x4 x5 x6 x7 x9
set_option maxRecDepth 100000 in
theorem bp_areChanges_127 {p : Program} {l : Launch} {e : Env} {s : State} {m : MethodId} {args : Array Value} {below : List Frame} {meth : Method} {c : Code} {D : va_G} {cI cZ cO : ClassId} {mi de z0 o b L : Nat} {k : Nat → Nat} {xs : Nat → Int32} (E : lk_E D cI cZ cO mi de z0 b L k xs cL_areChanges 15 (some .boolean) p l s m args meth c) (gh : rC_gh) (A : rv_Mem) (k5 : rv_Mem → Int32 → Bool → Int32 → Option (Bool × rv_Mem)) (h5 : ∀ (M : rv_Mem) (x2 : Int32) (x3 : Bool) (x4 : Int32), rv_M (lk_G D cI cZ cO de z0 o k) (fun q => z0 ≤ q) p l e rmp_areChanges s m args below meth c 0 0 (lk_qRZ D cI cZ cO de z0 o k gh A below args s 0 0) (k5 M x2 x3 x4) 5 [some (.ref o), some (.ref (k 0)), some (.int x2), some (.int (rv_i x3)), some (.int x4), none, none, none, none, none, none, none, none, none, none] [] (gh, M, A)) : ∀ (M : rv_Mem) (x2 : Int32) (x4 : Int32) (x5 : Int32) (x6 : Int32) (x7 : Int32) (x9 : Int32), rv_M (lk_G D cI cZ cO de z0 o k) (fun q => z0 ≤ q) p l e rmp_areChanges s m args below meth c 0 0 (lk_qRZ D cI cZ cO de z0 o k gh A below args s 0 0) (gp_areChanges_127 gh A k5 M x2 x4 x5 x6 x7 x9) 127 [some (.ref o), some (.ref (k 0)), some (.int x2), none, some (.int x4), some (.int x5), some (.int x6), some (.int x7), none, some (.int x9), none, none, none, none, none] [] (gh, M, A) := by
  intro M x2 x4 x5 x6 x7 x9
  unfold gp_areChanges_127
  refine rv_aload_n (q := 128) E.x dL_areChanges_127 rfl rfl ?_
  refine rv_iload (q := 130) E.x dL_areChanges_128 rfl rfl ?_
  refine lk_x1r (fun r2 e1 => ?_) (fun w3 e4 => rv_stuck)
  refine lk_ci (q := 133) (v := r2) (M1 := M) E (fun u hI _ => c11_whoseTurn E.2.2.1.1 hI e1) gP_155 hX11_whoseTurn ⟨rfl, rfl⟩ ⟨Nat.le_of_ble_eq_true rfl, Nat.le_of_ble_eq_true rfl⟩ ⟨Nat.le_of_ble_eq_true rfl, Nat.le_of_ble_eq_true rfl⟩ rfl rfl rfl (Nat.le_of_ble_eq_true rfl) dL_areChanges_130 rfl ?_
  refine rv_if_ne (q := 136) (tgt := 186) E.x dL_areChanges_133 (by decide) rfl ?_ ?_
  · refine rv_wk [true, true, true, false, true, true, true, true, false, true, false, false, false, false, false] ?_
    exact bp_areChanges_136 E gh A k5 h5 M x2 x4 x5 x6 x7 x9
  · refine rv_wk [true, true, true, false, true, true, true, true, false, false, false, false, false, false, false] ?_
    exact bp_areChanges_186 E gh A k5 h5 M x2 x4 x5 x6 x7
set_option maxRecDepth 100000 in
theorem bp_areChanges_5_s {p : Program} {l : Launch} {e : Env} {s : State} {m : MethodId} {args : Array Value} {below : List Frame} {meth : Method} {c : Code} {D : va_G} {cI cZ cO : ClassId} {mi de z0 o b L : Nat} {k : Nat → Nat} {xs : Nat → Int32} (E : lk_E D cI cZ cO mi de z0 b L k xs cL_areChanges 15 (some .boolean) p l s m args meth c) (gh : rC_gh) (A : rv_Mem)   (k5 : rv_Mem → Int32 → Bool → Int32 → Option (Bool × rv_Mem)) (h5 : ∀ (M : rv_Mem) (x2 : Int32) (x3 : Bool) (x4 : Int32), rv_M (lk_G D cI cZ cO de z0 o k) (fun q => z0 ≤ q) p l e rmp_areChanges s m args below meth c 0 0 (lk_qRZ D cI cZ cO de z0 o k gh A below args s 0 0) (k5 M x2 x3 x4) 5 [some (.ref o), some (.ref (k 0)), some (.int x2), some (.int (rv_i x3)), some (.int x4), none, none, none, none, none, none, none, none, none, none] [] (gh, M, A)) : ∀ (M : rv_Mem) (x2 : Int32) (x3 : Bool) (x4 : Int32), rv_M (lk_G D cI cZ cO de z0 o k) (fun q => z0 ≤ q) p l e rmp_areChanges s m args below meth c 0 0 (lk_qRZ D cI cZ cO de z0 o k gh A below args s 0 0) (gp_areChanges_5_s gh A k5 M x2 x3 x4) 5 [some (.ref o), some (.ref (k 0)), some (.int x2), some (.int (rv_i x3)), some (.int x4), none, none, none, none, none, none, none, none, none, none] [] (gh, M, A) := by
  intro M x2 x3 x4
  unfold gp_areChanges_5_s
  refine rv_iload (q := 7) E.x dL_areChanges_5 rfl rfl ?_
  refine rv_aload_n (q := 8) E.x dL_areChanges_7 rfl rfl ?_
  refine rv_b1 (fun r2 e1 => ?_)
  refine lk_cn (q := 11) (v := r2) (M1 := M) E (fun u hI => c11_changes hI e1) gP_187 hX11_changes ⟨rfl, rfl⟩ ⟨Nat.le_of_ble_eq_true rfl, Nat.le_of_ble_eq_true rfl⟩ ⟨Nat.le_of_ble_eq_true rfl, Nat.le_of_ble_eq_true rfl⟩ rfl rfl rfl (Nat.le_of_ble_eq_true rfl) dL_areChanges_8 rfl ?_
  refine rv_icmp_ge (q := 14) (tgt := 458) E.x dL_areChanges_11 (by decide) rfl ?_ ?_
  · refine rv_iload_n (q := 15) E.x dL_areChanges_14 rfl rfl ?_
    refine rv_ifz_eq (q := 18) (tgt := 458) E.x dL_areChanges_15 (by decide) rfl ?_ ?_
    · refine rv_iload_n (q := 19) E.x dL_areChanges_18 rfl rfl ?_
      refine rv_aload_n (q := 20) E.x dL_areChanges_19 rfl rfl ?_
      refine rv_iload (q := 22) E.x dL_areChanges_20 rfl rfl ?_
      refine lk_x1r (fun r4 e3 => ?_) (fun w5 e6 => rv_stuck)
      refine lk_ci (q := 25) (v := r4) (M1 := M) E (fun u hI _ => c11_sets E.2.2.1.1 hI e3) gP_127 hX11_sets ⟨rfl, rfl⟩ ⟨Nat.le_of_ble_eq_true rfl, Nat.le_of_ble_eq_true rfl⟩ ⟨Nat.le_of_ble_eq_true rfl, Nat.le_of_ble_eq_true rfl⟩ rfl rfl rfl (Nat.le_of_ble_eq_true rfl) dL_areChanges_22 rfl ?_
      refine rv_iremg (q := 26) E.x dL_areChanges_25 rfl ?_
      refine rv_istore (q := 28) (lv' := [_, _, _, _, _, _, _, _, _, _, _, _, _, _, _]) E.x dL_areChanges_26 (Nat.le_of_ble_eq_true rfl) rfl rfl rfl ?_
      refine rv_aload_n (q := 29) E.x dL_areChanges_28 rfl rfl ?_
      refine rv_iload (q := 31) E.x dL_areChanges_29 rfl rfl ?_
      refine rv_iload (q := 33) E.x dL_areChanges_31 rfl rfl ?_
      refine lk_x1r (fun r8 e7 => ?_) (fun w9 e10 => rv_stuck)
      refine lk_ci (q := 36) (v := r8) (M1 := M) E (fun u hI _ => c11_commitOf E.2.2.1.1 hI e7) gP_130 hX11_commitOf ⟨rfl, rfl⟩ ⟨Nat.le_of_ble_eq_true rfl, Nat.le_of_ble_eq_true rfl⟩ ⟨Nat.le_of_ble_eq_true rfl, Nat.le_of_ble_eq_true rfl⟩ rfl rfl rfl (Nat.le_of_ble_eq_true rfl) dL_areChanges_33 rfl ?_
      refine rv_istore (q := 38) (lv' := [_, _, _, _, _, _, _, _, _, _, _, _, _, _, _]) E.x dL_areChanges_36 (Nat.le_of_ble_eq_true rfl) rfl rfl rfl ?_
      refine rv_aload_n (q := 39) E.x dL_areChanges_38 rfl rfl ?_
      refine rv_iload (q := 41) E.x dL_areChanges_39 rfl rfl ?_
      refine rv_iload (q := 43) E.x dL_areChanges_41 rfl rfl ?_
      refine lk_x1r (fun r12 e11 => ?_) (fun w13 e14 => rv_stuck)
      refine lk_ci (q := 46) (v := r12) (M1 := M) E (fun u hI _ => c11_kindOf E.2.2.1.1 hI e11) gP_133 hX11_kindOf ⟨rfl, rfl⟩ ⟨Nat.le_of_ble_eq_true rfl, Nat.le_of_ble_eq_true rfl⟩ ⟨Nat.le_of_ble_eq_true rfl, Nat.le_of_ble_eq_true rfl⟩ rfl rfl rfl (Nat.le_of_ble_eq_true rfl) dL_areChanges_43 rfl ?_
      refine rv_istore (q := 48) (lv' := [_, _, _, _, _, _, _, _, _, _, _, _, _, _, _]) E.x dL_areChanges_46 (Nat.le_of_ble_eq_true rfl) rfl rfl rfl ?_
      refine rv_aload_n (q := 49) E.x dL_areChanges_48 rfl rfl ?_
      refine rv_iload (q := 51) E.x dL_areChanges_49 rfl rfl ?_
      refine lk_x1r (fun r16 e15 => ?_) (fun w17 e18 => rv_stuck)
      refine lk_ci (q := 54) (v := r16) (M1 := M) E (fun u hI _ => c11_reviewers E.2.2.1.1 hI e15) gP_152 hX11_reviewers ⟨rfl, rfl⟩ ⟨Nat.le_of_ble_eq_true rfl, Nat.le_of_ble_eq_true rfl⟩ ⟨Nat.le_of_ble_eq_true rfl, Nat.le_of_ble_eq_true rfl⟩ rfl rfl rfl (Nat.le_of_ble_eq_true rfl) dL_areChanges_51 rfl ?_
      refine rv_iconst (q := 55) E.x dL_areChanges_54 rv_ki1 rfl ?_
      refine rv_aload_n (q := 56) E.x dL_areChanges_55 rfl rfl ?_
      refine rv_iconst (q := 57) E.x dL_areChanges_56 rv_ki4 rfl ?_
      refine rv_iload (q := 59) E.x dL_areChanges_57 rfl rfl ?_
      refine rv_imul (q := 60) E.x dL_areChanges_59 rfl ?_
      refine lk_ald (q := 61) E 0 (by decide) dL_areChanges_60 rfl ?_
      refine rv_ishl (q := 62) E.x dL_areChanges_61 rfl ?_
      refine rv_ior (q := 63) E.x dL_areChanges_62 rfl ?_
      refine rv_istore (q := 65) (lv' := [_, _, _, _, _, _, _, _, _, _, _, _, _, _, _]) E.x dL_areChanges_63 (Nat.le_of_ble_eq_true rfl) rfl rfl rfl ?_
      refine rv_aload_n (q := 66) E.x dL_areChanges_65 rfl rfl ?_
      refine rv_iload (q := 68) E.x dL_areChanges_66 rfl rfl ?_
      refine lk_x1r (fun r20 e19 => ?_) (fun w21 e22 => rv_stuck)
      refine lk_ci (q := 71) (v := r20) (M1 := M) E (fun u hI _ => c11_parentOf E.2.2.1.1 hI e19) gP_136 hX11_parentOf ⟨rfl, rfl⟩ ⟨Nat.le_of_ble_eq_true rfl, Nat.le_of_ble_eq_true rfl⟩ ⟨Nat.le_of_ble_eq_true rfl, Nat.le_of_ble_eq_true rfl⟩ rfl rfl rfl (Nat.le_of_ble_eq_true rfl) dL_areChanges_68 rfl ?_
      refine rv_istore (q := 73) (lv' := [_, _, _, _, _, _, _, _, _, _, _, _, _, _, _]) E.x dL_areChanges_71 (Nat.le_of_ble_eq_true rfl) rfl rfl rfl ?_
      refine rv_aload_n (q := 74) E.x dL_areChanges_73 rfl rfl ?_
      refine rv_iload (q := 76) E.x dL_areChanges_74 rfl rfl ?_
      refine lk_x1r (fun r24 e23 => ?_) (fun w25 e26 => rv_stuck)
      refine lk_ci (q := 79) (v := r24) (M1 := M) E (fun u hI _ => c11_whoseTurn E.2.2.1.1 hI e23) gP_155 hX11_whoseTurn ⟨rfl, rfl⟩ ⟨Nat.le_of_ble_eq_true rfl, Nat.le_of_ble_eq_true rfl⟩ ⟨Nat.le_of_ble_eq_true rfl, Nat.le_of_ble_eq_true rfl⟩ rfl rfl rfl (Nat.le_of_ble_eq_true rfl) dL_areChanges_76 rfl ?_
      refine rv_iload (q := 81) E.x dL_areChanges_79 rfl rfl ?_
      refine rv_iconst (q := 82) E.x dL_areChanges_81 rv_kim1 rfl ?_
      refine rv_ixor (q := 83) E.x dL_areChanges_82 rfl ?_
      refine rv_iand (q := 84) E.x dL_areChanges_83 rfl ?_
      refine rv_if_ne (q := 87) (tgt := 186) E.x dL_areChanges_84 (by decide) rfl ?_ ?_
      · refine rv_aload_n (q := 88) E.x dL_areChanges_87 rfl rfl ?_
        refine rv_iload (q := 90) E.x dL_areChanges_88 rfl rfl ?_
        refine lk_x1r (fun r28 e27 => ?_) (fun w29 e30 => rv_stuck)
        refine lk_ci (q := 93) (v := r28) (M1 := M) E (fun u hI _ => c11_reviewers E.2.2.1.1 hI e27) gP_152 hX11_reviewers ⟨rfl, rfl⟩ ⟨Nat.le_of_ble_eq_true rfl, Nat.le_of_ble_eq_true rfl⟩ ⟨Nat.le_of_ble_eq_true rfl, Nat.le_of_ble_eq_true rfl⟩ rfl rfl rfl (Nat.le_of_ble_eq_true rfl) dL_areChanges_90 rfl ?_
        refine rv_aload_n (q := 94) E.x dL_areChanges_93 rfl rfl ?_
        refine rv_iconst (q := 95) E.x dL_areChanges_94 rv_ki4 rfl ?_
        refine rv_iload (q := 97) E.x dL_areChanges_95 rfl rfl ?_
        refine rv_imul (q := 98) E.x dL_areChanges_97 rfl ?_
        refine lk_ald (q := 99) E 0 (by decide) dL_areChanges_98 rfl ?_
        refine rv_ishr (q := 100) E.x dL_areChanges_99 rfl ?_
        refine rv_iconst (q := 101) E.x dL_areChanges_100 rv_ki1 rfl ?_
        refine rv_iand (q := 102) E.x dL_areChanges_101 rfl ?_
        refine rv_if_ne (q := 105) (tgt := 186) E.x dL_areChanges_102 (by decide) rfl ?_ ?_
        · refine rv_aload_n (q := 106) E.x dL_areChanges_105 rfl rfl ?_
          refine rv_iload (q := 108) E.x dL_areChanges_106 rfl rfl ?_
          refine lk_x1r (fun r32 e31 => ?_) (fun w33 e34 => rv_stuck)
          refine lk_ci (q := 111) (v := r32) (M1 := M) E (fun u hI _ => c11_stateOf E.2.2.1.1 hI e31) gP_124 hX11_stateOf ⟨rfl, rfl⟩ ⟨Nat.le_of_ble_eq_true rfl, Nat.le_of_ble_eq_true rfl⟩ ⟨Nat.le_of_ble_eq_true rfl, Nat.le_of_ble_eq_true rfl⟩ rfl rfl rfl (Nat.le_of_ble_eq_true rfl) dL_areChanges_108 rfl ?_
          refine rv_if_ne (q := 114) (tgt := 127) E.x dL_areChanges_111 (by decide) rfl ?_ ?_
          · refine rv_aload_n (q := 115) E.x dL_areChanges_114 rfl rfl ?_
            refine rv_iconst (q := 116) E.x dL_areChanges_115 rv_ki4 rfl ?_
            refine rv_iload (q := 118) E.x dL_areChanges_116 rfl rfl ?_
            refine rv_imul (q := 119) E.x dL_areChanges_118 rfl ?_
            refine rv_iconst (q := 120) E.x dL_areChanges_119 rv_ki1 rfl ?_
            refine rv_iadd (q := 121) E.x dL_areChanges_120 rfl ?_
            refine lk_ald (q := 122) E 0 (by decide) dL_areChanges_121 rfl ?_
            refine rv_iconst (q := 123) E.x dL_areChanges_122 rv_ki2 rfl ?_
            refine rv_irem (q := 124) E.x dL_areChanges_123 (by decide) rfl ?_
            refine rv_if_eq (q := 127) (tgt := 136) E.x dL_areChanges_124 (by decide) rfl ?_ ?_
            · refine rv_wk [true, true, true, false, true, true, true, true, false, true, false, false, false, false, false] ?_
              exact bp_areChanges_127 E gh A k5 h5 M x2 x4 (x2 - x2 / r4 * r4) r8 r12 r20
            · refine rv_wk [true, true, true, false, true, true, true, true, false, true, false, false, false, false, false] ?_
              exact bp_areChanges_136 E gh A k5 h5 M x2 x4 (x2 - x2 / r4 * r4) r8 r12 r20
          · refine rv_wk [true, true, true, false, true, true, true, true, false, true, false, false, false, false, false] ?_
            exact bp_areChanges_127 E gh A k5 h5 M x2 x4 (x2 - x2 / r4 * r4) r8 r12 r20
        · refine rv_wk [true, true, true, false, true, true, true, true, false, false, false, false, false, false, false] ?_
          exact bp_areChanges_186 E gh A k5 h5 M x2 x4 (x2 - x2 / r4 * r4) r8 r12
      · refine rv_wk [true, true, true, false, true, true, true, true, false, false, false, false, false, false, false] ?_
        exact bp_areChanges_186 E gh A k5 h5 M x2 x4 (x2 - x2 / r4 * r4) r8 r12
    · refine rv_iload_n (q := 459) E.x dL_areChanges_458 rfl rfl ?_
      exact lk_zret E x3 rfl ⟨Nat.le_of_ble_eq_true rfl, Nat.le_of_ble_eq_true rfl⟩ dL_areChanges_459
  · refine rv_iload_n (q := 459) E.x dL_areChanges_458 rfl rfl ?_
    exact lk_zret E x3 rfl ⟨Nat.le_of_ble_eq_true rfl, Nat.le_of_ble_eq_true rfl⟩ dL_areChanges_459
theorem bp_areChanges_5 {p : Program} {l : Launch} {e : Env} {s : State} {m : MethodId} {args : Array Value} {below : List Frame} {meth : Method} {c : Code} {D : va_G} {cI cZ cO : ClassId} {mi de z0 o b L : Nat} {k : Nat → Nat} {xs : Nat → Int32} (E : lk_E D cI cZ cO mi de z0 b L k xs cL_areChanges 15 (some .boolean) p l s m args meth c) (gh : rC_gh) (A : rv_Mem)   : ∀ (n : Nat), ∀ (M : rv_Mem) (x2 : Int32) (x3 : Bool) (x4 : Int32), rv_M (lk_G D cI cZ cO de z0 o k) (fun q => z0 ≤ q) p l e rmp_areChanges s m args below meth c 0 0 (lk_qRZ D cI cZ cO de z0 o k gh A below args s 0 0) (gp_areChanges_5 gh A n M x2 x3 x4) 5 [some (.ref o), some (.ref (k 0)), some (.int x2), some (.int (rv_i x3)), some (.int x4), none, none, none, none, none, none, none, none, none, none] [] (gh, M, A) := by
  intro n
  induction n with
  | zero => exact fun _ _ _ _ => rv_stuck
  | succ n ih => exact bp_areChanges_5_s E gh A (gp_areChanges_5 gh A n) ih
set_option maxRecDepth 100000 in
theorem bp_areChanges {p : Program} {l : Launch} {e : Env} {s : State} {m : MethodId} {args : Array Value} {below : List Frame} {meth : Method} {c : Code} {D : va_G} {cI cZ cO : ClassId} {mi de z0 o b L : Nat} {k : Nat → Nat} {xs : Nat → Int32} (E : lk_E D cI cZ cO mi de z0 b L k xs cL_areChanges 15 (some .boolean) p l s m args meth c) (gh : rC_gh) (M A : rv_Mem) (a3 : Int32) : rv_M (lk_G D cI cZ cO de z0 o k) (fun q => z0 ≤ q) p l e rmp_areChanges s m args below meth c 0 0 (lk_qRZ D cI cZ cO de z0 o k gh A below args s 0 0) (gp_areChanges gh M A a3) 0 [some (.ref o), some (.ref (k 0)), some (.int a3), none, none, none, none, none, none, none, none, none, none, none, none] [] (gh, M, A) := by
  unfold gp_areChanges
  refine rv_iconst (q := 1) E.x dL_areChanges_0 rv_ki1 rfl ?_
  refine rv_istore_n (q := 2) (lv' := [_, _, _, _, _, _, _, _, _, _, _, _, _, _, _]) E.x dL_areChanges_1 (Nat.le_of_ble_eq_true rfl) rfl rfl rfl ?_
  refine rv_iconst (q := 3) E.x dL_areChanges_2 rv_ki0 rfl ?_
  refine rv_istore (q := 5) (lv' := [_, _, _, _, _, _, _, _, _, _, _, _, _, _, _]) E.x dL_areChanges_3 (Nat.le_of_ble_eq_true rfl) rfl rfl rfl ?_
  refine rv_wk [true, true, true, true, true, false, false, false, false, false, false, false, false, false, false] ?_
  exact bp_areChanges_5 E gh A rv_FU M a3 true 0
theorem wP_areChanges {l : Launch} {D : va_G} {cI cZ cO : ClassId} {mi de z0 o b L : Nat} {k : Nat → Nat} {xs : Nat → Int32} (S : lk_S l de z0 b k) {gh : rC_gh} {M A : rv_Mem} {a3 : Int32} {r : Bool} {M1 : rv_Mem} (h : gp_areChanges gh M A a3 = some (r, M1)) : Met l yL_areChanges (rv_ws yL_areChanges cL_areChanges 15 (some .boolean)) rmp_areChanges (va_Pc [.ref o, .ref (k 0), .int a3] (lk_P D cI cZ cO mi de z0 o b L k xs (gh, M, A))) (lk_qi D cI cZ cO de z0 o k (rv_i r) (gh, M1, A)) 0 0 (fun q => z0 ≤ q) := lk_met S rfl (Nat.le_of_ble_eq_true rfl) (fun p e s m args below meth c E => ⟨(lk_qRZ D cI cZ cO de z0 o k gh A below args s 0 0), rfl, bp_areChanges E gh M A a3⟩) h
