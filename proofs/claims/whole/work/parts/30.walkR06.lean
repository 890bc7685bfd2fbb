abbrev rm12_lands : Room := { frames := 11, cells := 0, slots := 0, locals := 284 }
set_option maxRecDepth 100000 in
theorem b12_lands_207 {p : Program} {l : Launch} {e : Env} {s : State} {m : MethodId} {args : Array Value} {below : List Frame} {meth : Method} {c : Code} {D : va_G} {cI cZ : ClassId} {ad : Nat → Nat} (E : rR_E D cI cZ ad cX12_lands 14 (some .int) p s m args meth c) (k47 : rv_Mem → Int32 → Int32 → Int32 → Int32 → Int32 → Int32 → Int32 → Bool → Option (Int32 × rv_Mem)) (k130 : rv_Mem → Int32 → Int32 → Int32 → Int32 → Int32 → Int32 → Int32 → Bool → Int32 → Int32 → Int32 → Option (Int32 × rv_Mem)) (h47 : ∀ (M : rv_Mem) (x2 : Int32) (x3 : Int32) (x4 : Int32) (x5 : Int32) (x6 : Int32) (x7 : Int32) (x8 : Int32) (x9 : Bool), rv_M (rR_G D cI cZ ad) (rR_A ad) p l e rm12_lands s m args below meth c 0 0 (rR_qIW D cI cZ ad below args s) (k47 M x2 x3 x4 x5 x6 x7 x8 x9) 47 [some (.ref (ad 67)), none, some (.int x2), some (.int x3), some (.int x4), some (.int x5), some (.int x6), some (.int x7), some (.int x8), some (.int (rv_i x9)), none, none, none, none] [] M) (h130 : ∀ (M : rv_Mem) (x2 : Int32) (x3 : Int32) (x4 : Int32) (x5 : Int32) (x6 : Int32) (x7 : Int32) (x8 : Int32) (x9 : Bool) (x10 : Int32) (x11 : Int32) (x12 : Int32), rv_M (rR_G D cI cZ ad) (rR_A ad) p l e rm12_lands s m args below meth c 0 0 (rR_qIW D cI cZ ad below args s) (k130 M x2 x3 x4 x5 x6 x7 x8 x9 x10 x11 x12) 130 [some (.ref (ad 67)), none, some (.int x2), some (.int x3), some (.int x4), some (.int x5), some (.int x6), some (.int x7), some (.int x8), some (.int (rv_i x9)), some (.int x10), some (.int x11), some (.int x12), none] [] M) : ∀ (M : rv_Mem) (x2 : Int32) (x3 : Int32) (x4 : Int32) (x5 : Int32) (x6 : Int32) (x7 : Int32) (x8 : Int32) (x9 : Bool) (x10 : Int32) (x11 : Int32) (x12 : Int32) (s1 : Int32) (s2 : Int32), rv_M (rR_G D cI cZ ad) (rR_A ad) p l e rm12_lands s m args below meth c 0 0 (rR_qIW D cI cZ ad below args s) (f12_lands_207 k47 k130 M x2 x3 x4 x5 x6 x7 x8 x9 x10 x11 x12 s1 s2) 207 [some (.ref (ad 67)), none, some (.int x2), some (.int x3), some (.int x4), some (.int x5), some (.int x6), some (.int x7), some (.int x8), some (.int (rv_i x9)), some (.int x10), some (.int x11), some (.int x12), none] [.int s2, .int s1, .ref (ad 18)] M := by
  intro M x2 x3 x4 x5 x6 x7 x8 x9 x10 x11 x12 s1 s2
  unfold f12_lands_207
  refine rR_iast (q := 208) (n := 20) E (Nat.le_of_ble_eq_true rfl) rfl rfl dX12_lands_207 rfl ?_
  refine rv_ltm (fun M1 => ?_)
  refine rv_iinc (q := 211) (lv' := [_, _, _, _, _, _, _, _, _, _, _, _, _, _]) E.x dX12_lands_208 rv_ki1 rfl rfl rfl rfl ?_
  refine rv_goto (q := 130) E.x dX12_lands_211 (by decide) ?_
  refine rv_wk [true, false, true, true, true, true, true, true, true, true, true, true, true, false] ?_
  exact h130 M1 x2 x3 x4 x5 x6 x7 x8 x9 x10 x11 (x12 + 1)
set_option maxRecDepth 100000 in
theorem b12_lands_182 {p : Program} {l : Launch} {e : Env} {s : State} {m : MethodId} {args : Array Value} {below : List Frame} {meth : Method} {c : Code} {D : va_G} {cI cZ : ClassId} {ad : Nat → Nat} (E : rR_E D cI cZ ad cX12_lands 14 (some .int) p s m args meth c) (k47 : rv_Mem → Int32 → Int32 → Int32 → Int32 → Int32 → Int32 → Int32 → Bool → Option (Int32 × rv_Mem)) (k130 : rv_Mem → Int32 → Int32 → Int32 → Int32 → Int32 → Int32 → Int32 → Bool → Int32 → Int32 → Int32 → Option (Int32 × rv_Mem)) (h47 : ∀ (M : rv_Mem) (x2 : Int32) (x3 : Int32) (x4 : Int32) (x5 : Int32) (x6 : Int32) (x7 : Int32) (x8 : Int32) (x9 : Bool), rv_M (rR_G D cI cZ ad) (rR_A ad) p l e rm12_lands s m args below meth c 0 0 (rR_qIW D cI cZ ad below args s) (k47 M x2 x3 x4 x5 x6 x7 x8 x9) 47 [some (.ref (ad 67)), none, some (.int x2), some (.int x3), some (.int x4), some (.int x5), some (.int x6), some (.int x7), some (.int x8), some (.int (rv_i x9)), none, none, none, none] [] M) (h130 : ∀ (M : rv_Mem) (x2 : Int32) (x3 : Int32) (x4 : Int32) (x5 : Int32) (x6 : Int32) (x7 : Int32) (x8 : Int32) (x9 : Bool) (x10 : Int32) (x11 : Int32) (x12 : Int32), rv_M (rR_G D cI cZ ad) (rR_A ad) p l e rm12_lands s m args below meth c 0 0 (rR_qIW D cI cZ ad below args s) (k130 M x2 x3 x4 x5 x6 x7 x8 x9 x10 x11 x12) 130 [some (.ref (ad 67)), none, some (.int x2), some (.int x3), some (.int x4), some (.int x5), some (.int x6), some (.int x7), some (.int x8), some (.int (rv_i x9)), some (.int x10), some (.int x11), some (.int x12), none] [] M) : ∀ (M : rv_Mem) (x2 : Int32) (x3 : Int32) (x4 : Int32) (x5 : Int32) (x6 : Int32) (x7 : Int32) (x8 : Int32) (x9 : Bool) (x10 : Int32) (x11 : Int32) (x12 : Int32) (s0 : Bool), rv_M (rR_G D cI cZ ad) (rR_A ad) p l e rm12_lands s m args below meth c 0 0 (rR_qIW D cI cZ ad below args s) (f12_lands_182 k47 k130 M x2 x3 x4 x5 x6 x7 x8 x9 x10 x11 x12 s0) 182 [some (.ref (ad 67)), none, some (.int x2), some (.int x3), some (.int x4), some (.int x5), some (.int x6), some (.int x7), some (.int x8), some (.int (rv_i x9)), some (.int x10), some (.int x11), some (.int x12), none] [.int (rv_i s0)] M := by
  intro M x2 x3 x4 x5 x6 x7 x8 x9 x10 x11 x12 s0
  unfold f12_lands_182
  refine rv_istore (q := 184) (lv' := [_, _, _, _, _, _, _, _, _, _, _, _, _, _]) E.x dX12_lands_182 (Nat.le_of_ble_eq_true rfl) rfl rfl rfl ?_
  refine rv_aload_n (q := 185) E.x dX12_lands_184 rfl rfl ?_
  refine rR_get (q := 188) E 18 wf12_18 rfl (Nat.le_of_ble_eq_true rfl) rfl dX12_lands_185 rfl ?_
  refine rv_iload (q := 190) E.x dX12_lands_188 rfl rfl ?_
  refine rv_iload (q := 192) E.x dX12_lands_190 rfl rfl ?_
  refine rv_ifz_eq (q := 195) (tgt := 200) E.x dX12_lands_192 (by decide) rfl ?_ ?_
  · refine rv_iload (q := 197) E.x dX12_lands_195 rfl rfl ?_
    refine rv_goto (q := 207) E.x dX12_lands_197 (by decide) ?_
    refine rv_wk [true, false, true, true, true, true, true, true, true, true, true, true, true, false] ?_
    exact b12_lands_207 E k47 k130 h47 h130 M x2 x3 x4 x5 x6 x7 x8 x9 x10 x11 x12 x12 x11
  · refine rv_aload_n (q := 201) E.x dX12_lands_200 rfl rfl ?_
    refine rR_get (q := 204) E 18 wf12_18 rfl (Nat.le_of_ble_eq_true rfl) rfl dX12_lands_201 rfl ?_
    refine rv_iload (q := 206) E.x dX12_lands_204 rfl rfl ?_
    refine rR_iald (q := 207) (n := 20) E (Nat.le_of_ble_eq_true rfl) rfl rfl dX12_lands_206 rfl ?_
    refine rv_wk [true, false, true, true, true, true, true, true, true, true, true, true, true, false] ?_
    exact b12_lands_207 E k47 k130 h47 h130 M x2 x3 x4 x5 x6 x7 x8 x9 x10 x11 x12 x12 (M 18 (x12).toNatClampNeg)
set_option maxRecDepth 100000 in
theorem b12_lands_181 {p : Program} {l : Launch} {e : Env} {s : State} {m : MethodId} {args : Array Value} {below : List Frame} {meth : Method} {c : Code} {D : va_G} {cI cZ : ClassId} {ad : Nat → Nat} (E : rR_E D cI cZ ad cX12_lands 14 (some .int) p s m args meth c) (k47 : rv_Mem → Int32 → Int32 → Int32 → Int32 → Int32 → Int32 → Int32 → Bool → Option (Int32 × rv_Mem)) (k130 : rv_Mem → Int32 → Int32 → Int32 → Int32 → Int32 → Int32 → Int32 → Bool → Int32 → Int32 → Int32 → Option (Int32 × rv_Mem)) (h47 : ∀ (M : rv_Mem) (x2 : Int32) (x3 : Int32) (x4 : Int32) (x5 : Int32) (x6 : Int32) (x7 : Int32) (x8 : Int32) (x9 : Bool), rv_M (rR_G D cI cZ ad) (rR_A ad) p l e rm12_lands s m args below meth c 0 0 (rR_qIW D cI cZ ad below args s) (k47 M x2 x3 x4 x5 x6 x7 x8 x9) 47 [some (.ref (ad 67)), none, some (.int x2), some (.int x3), some (.int x4), some (.int x5), some (.int x6), some (.int x7), some (.int x8), some (.int (rv_i x9)), none, none, none, none] [] M) (h130 : ∀ (M : rv_Mem) (x2 : Int32) (x3 : Int32) (x4 : Int32) (x5 : Int32) (x6 : Int32) (x7 : Int32) (x8 : Int32) (x9 : Bool) (x10 : Int32) (x11 : Int32) (x12 : Int32), rv_M (rR_G D cI cZ ad) (rR_A ad) p l e rm12_lands s m args below meth c 0 0 (rR_qIW D cI cZ ad below args s) (k130 M x2 x3 x4 x5 x6 x7 x8 x9 x10 x11 x12) 130 [some (.ref (ad 67)), none, some (.int x2), some (.int x3), some (.int x4), some (.int x5), some (.int x6), some (.int x7), some (.int x8), some (.int (rv_i x9)), some (.int x10), some (.int x11), some (.int x12), none] [] M) : ∀ (M : rv_Mem) (x2 : Int32) (x3 : Int32) (x4 : Int32) (x5 : Int32) (x6 : Int32) (x7 : Int32) (x8 : Int32) (x9 : Bool) (x10 : Int32) (x11 : Int32) (x12 : Int32), rv_M (rR_G D cI cZ ad) (rR_A ad) p l e rm12_lands s m args below meth c 0 0 (rR_qIW D cI cZ ad below args s) (f12_lands_181 k47 k130 M x2 x3 x4 x5 x6 x7 x8 x9 x10 x11 x12) 181 [some (.ref (ad 67)), none, some (.int x2), some (.int x3), some (.int x4), some (.int x5), some (.int x6), some (.int x7), some (.int x8), some (.int (rv_i x9)), some (.int x10), some (.int x11), some (.int x12), none] [] M := by
  intro M x2 x3 x4 x5 x6 x7 x8 x9 x10 x11 x12
  unfold f12_lands_181
  refine rv_iconst (q := 182) E.x dX12_lands_181 rv_ki0 rfl ?_
  refine rv_wk [true, false, true, true, true, true, true, true, true, true, true, true, true, false] ?_
  exact b12_lands_182 E k47 k130 h47 h130 M x2 x3 x4 x5 x6 x7 x8 x9 x10 x11 x12 false
set_option maxRecDepth 100000 in
theorem b12_lands_130_s {p : Program} {l : Launch} {e : Env} {s : State} {m : MethodId} {args : Array Value} {below : List Frame} {meth : Method} {c : Code} {D : va_G} {cI cZ : ClassId} {ad : Nat → Nat} (E : rR_E D cI cZ ad cX12_lands 14 (some .int) p s m args meth c) (k47 : rv_Mem → Int32 → Int32 → Int32 → Int32 → Int32 → Int32 → Int32 → Bool → Option (Int32 × rv_Mem)) (h47 : ∀ (M : rv_Mem) (x2 : Int32) (x3 : Int32) (x4 : Int32) (x5 : Int32) (x6 : Int32) (x7 : Int32) (x8 : Int32) (x9 : Bool), rv_M (rR_G D cI cZ ad) (rR_A ad) p l e rm12_lands s m args below meth c 0 0 (rR_qIW D cI cZ ad below args s) (k47 M x2 x3 x4 x5 x6 x7 x8 x9) 47 [some (.ref (ad 67)), none, some (.int x2), some (.int x3), some (.int x4), some (.int x5), some (.int x6), some (.int x7), some (.int x8), some (.int (rv_i x9)), none, none, none, none] [] M) (k130 : rv_Mem → Int32 → Int32 → Int32 → Int32 → Int32 → Int32 → Int32 → Bool → Int32 → Int32 → Int32 → Option (Int32 × rv_Mem)) (h130 : ∀ (M : rv_Mem) (x2 : Int32) (x3 : Int32) (x4 : Int32) (x5 : Int32) (x6 : Int32) (x7 : Int32) (x8 : Int32) (x9 : Bool) (x10 : Int32) (x11 : Int32) (x12 : Int32), rv_M (rR_G D cI cZ ad) (rR_A ad) p l e rm12_lands s m args below meth c 0 0 (rR_qIW D cI cZ ad below args s) (k130 M x2 x3 x4 x5 x6 x7 x8 x9 x10 x11 x12) 130 [some (.ref (ad 67)), none, some (.int x2), some (.int x3), some (.int x4), some (.int x5), some (.int x6), some (.int x7), some (.int x8), some (.int (rv_i x9)), some (.int x10), some (.int x11), some (.int x12), none] [] M) : ∀ (M : rv_Mem) (x2 : Int32) (x3 : Int32) (x4 : Int32) (x5 : Int32) (x6 : Int32) (x7 : Int32) (x8 : Int32) (x9 : Bool) (x10 : Int32) (x11 : Int32) (x12 : Int32), rv_M (rR_G D cI cZ ad) (rR_A ad) p l e rm12_lands s m args below meth c 0 0 (rR_qIW D cI cZ ad below args s) (f12_lands_130_s k47 k130 M x2 x3 x4 x5 x6 x7 x8 x9 x10 x11 x12) 130 [some (.ref (ad 67)), none, some (.int x2), some (.int x3), some (.int x4), some (.int x5), some (.int x6), some (.int x7), some (.int x8), some (.int (rv_i x9)), some (.int x10), some (.int x11), some (.int x12), none] [] M := by
  intro M x2 x3 x4 x5 x6 x7 x8 x9 x10 x11 x12
  unfold f12_lands_130_s
  refine rv_iload (q := 132) E.x dX12_lands_130 rfl rfl ?_
  refine rv_aload_n (q := 133) E.x dX12_lands_132 rfl rfl ?_
  refine rR_get (q := 136) E 11 wf12_11 rfl (Nat.le_of_ble_eq_true rfl) rfl dX12_lands_133 rfl ?_
  refine rv_icmp_ge (q := 139) (tgt := 214) E.x dX12_lands_136 (by decide) rfl ?_ ?_
  · refine rv_iload (q := 141) E.x dX12_lands_139 rfl rfl ?_
    refine rv_if_lt (q := 144) (tgt := 214) E.x dX12_lands_141 (by decide) rfl ?_ ?_
    · refine rv_iload (q := 146) E.x dX12_lands_144 rfl rfl ?_
      refine rv_iload (q := 148) E.x dX12_lands_146 rfl rfl ?_
      refine rv_b1 (fun r2 e1 => ?_)
      refine rR_calls (q := 151) E (c12_isOf e1) gX12_isOf hX12_isOf ⟨rfl, rfl⟩ ⟨Nat.le_of_ble_eq_true rfl, Nat.le_of_ble_eq_true rfl⟩ rfl rfl rfl (Nat.le_of_ble_eq_true rfl) dX12_lands_148 rfl ?_
      refine rv_ifz_eq (q := 154) (tgt := 181) E.x dX12_lands_151 (by decide) rfl ?_ ?_
      · refine rv_aload_n (q := 155) E.x dX12_lands_154 rfl rfl ?_
        refine rR_get (q := 158) E 18 wf12_18 rfl (Nat.le_of_ble_eq_true rfl) rfl dX12_lands_155 rfl ?_
        refine rv_iload (q := 160) E.x dX12_lands_158 rfl rfl ?_
        refine rR_iald (q := 161) (n := 20) E (Nat.le_of_ble_eq_true rfl) rfl rfl dX12_lands_160 rfl ?_
        refine rv_iconst (q := 162) E.x dX12_lands_161 rv_kim1 rfl ?_
        refine rv_icmp_ne (q := 165) (tgt := 181) E.x dX12_lands_162 (by decide) rfl ?_ ?_
        · refine rv_aload_n (q := 166) E.x dX12_lands_165 rfl rfl ?_
          refine rv_iload (q := 168) E.x dX12_lands_166 rfl rfl ?_
          refine rv_iload (q := 170) E.x dX12_lands_168 rfl rfl ?_
          refine rv_iload_n (q := 171) E.x dX12_lands_170 rfl rfl ?_
          refine rv_b1 (fun r4 e3 => ?_)
          refine rR_calli (q := 174) E (c12_isBelow E.2.2.1 e3) gX12_isBelow hX12_isBelow ⟨rfl, rfl⟩ ⟨Nat.le_of_ble_eq_true rfl, Nat.le_of_ble_eq_true rfl⟩ rfl rfl rfl (Nat.le_of_ble_eq_true rfl) dX12_lands_171 rfl ?_
          refine rv_ifz_eq (q := 177) (tgt := 181) E.x dX12_lands_174 (by decide) rfl ?_ ?_
          · refine rv_iconst (q := 178) E.x dX12_lands_177 rv_ki1 rfl ?_
            refine rv_goto (q := 182) E.x dX12_lands_178 (by decide) ?_
            refine rv_wk [true, false, true, true, true, true, true, true, true, true, true, true, true, false] ?_
            exact b12_lands_182 E k47 k130 h47 h130 M x2 x3 x4 x5 x6 x7 x8 x9 x10 x11 x12 true
          · refine rv_wk [true, false, true, true, true, true, true, true, true, true, true, true, true, false] ?_
            exact b12_lands_181 E k47 k130 h47 h130 M x2 x3 x4 x5 x6 x7 x8 x9 x10 x11 x12
        · refine rv_wk [true, false, true, true, true, true, true, true, true, true, true, true, true, false] ?_
          exact b12_lands_181 E k47 k130 h47 h130 M x2 x3 x4 x5 x6 x7 x8 x9 x10 x11 x12
      · refine rv_wk [true, false, true, true, true, true, true, true, true, true, true, true, true, false] ?_
        exact b12_lands_181 E k47 k130 h47 h130 M x2 x3 x4 x5 x6 x7 x8 x9 x10 x11 x12
    · refine rv_goto (q := 47) E.x dX12_lands_214 (by decide) ?_
      refine rv_wk [true, false, true, true, true, true, true, true, true, true, false, false, false, false] ?_
      exact h47 M x2 x3 x4 x5 x6 x7 x8 x9
  · refine rv_goto (q := 47) E.x dX12_lands_214 (by decide) ?_
    refine rv_wk [true, false, true, true, true, true, true, true, true, true, false, false, false, false] ?_
    exact h47 M x2 x3 x4 x5 x6 x7 x8 x9
theorem b12_lands_130 {p : Program} {l : Launch} {e : Env} {s : State} {m : MethodId} {args : Array Value} {below : List Frame} {meth : Method} {c : Code} {D : va_G} {cI cZ : ClassId} {ad : Nat → Nat} (E : rR_E D cI cZ ad cX12_lands 14 (some .int) p s m args meth c) (k47 : rv_Mem → Int32 → Int32 → Int32 → Int32 → Int32 → Int32 → Int32 → Bool → Option (Int32 × rv_Mem)) (h47 : ∀ (M : rv_Mem) (x2 : Int32) (x3 : Int32) (x4 : Int32) (x5 : Int32) (x6 : Int32) (x7 : Int32) (x8 : Int32) (x9 : Bool), rv_M (rR_G D cI cZ ad) (rR_A ad) p l e rm12_lands s m args below meth c 0 0 (rR_qIW D cI cZ ad below args s) (k47 M x2 x3 x4 x5 x6 x7 x8 x9) 47 [some (.ref (ad 67)), none, some (.int x2), some (.int x3), some (.int x4), some (.int x5), some (.int x6), some (.int x7), some (.int x8), some (.int (rv_i x9)), none, none, none, none] [] M) : ∀ (n : Nat), ∀ (M : rv_Mem) (x2 : Int32) (x3 : Int32) (x4 : Int32) (x5 : Int32) (x6 : Int32) (x7 : Int32) (x8 : Int32) (x9 : Bool) (x10 : Int32) (x11 : Int32) (x12 : Int32), rv_M (rR_G D cI cZ ad) (rR_A ad) p l e rm12_lands s m args below meth c 0 0 (rR_qIW D cI cZ ad below args s) (f12_lands_130 k47 n M x2 x3 x4 x5 x6 x7 x8 x9 x10 x11 x12) 130 [some (.ref (ad 67)), none, some (.int x2), some (.int x3), some (.int x4), some (.int x5), some (.int x6), some (.int x7), some (.int x8), some (.int (rv_i x9)), some (.int x10), some (.int x11), some (.int x12), none] [] M := by
  intro n
  induction n with
  | zero => exact fun _ _ _ _ _ _ _ _ _ _ _ _ => rv_stuck
  | succ n ih => exact b12_lands_130_s E k47 h47 (f12_lands_130 k47 n) ih
set_option maxRecDepth 100000 in
theorem b12_lands_115 {p : Program} {l : Launch} {e : Env} {s : State} {m : MethodId} {args : Array Value} {below : List Frame} {meth : Method} {c : Code} {D : va_G} {cI cZ : ClassId} {ad : Nat → Nat} (E : rR_E D cI cZ ad cX12_lands 14 (some .int) p s m args meth c) (k47 : rv_Mem → Int32 → Int32 → Int32 → Int32 → Int32 → Int32 → Int32 → Bool → Option (Int32 × rv_Mem)) (h47 : ∀ (M : rv_Mem) (x2 : Int32) (x3 : Int32) (x4 : Int32) (x5 : Int32) (x6 : Int32) (x7 : Int32) (x8 : Int32) (x9 : Bool), rv_M (rR_G D cI cZ ad) (rR_A ad) p l e rm12_lands s m args below meth c 0 0 (rR_qIW D cI cZ ad below args s) (k47 M x2 x3 x4 x5 x6 x7 x8 x9) 47 [some (.ref (ad 67)), none, some (.int x2), some (.int x3), some (.int x4), some (.int x5), some (.int x6), some (.int x7), some (.int x8), some (.int (rv_i x9)), none, none, none, none] [] M) : ∀ (M : rv_Mem) (x2 : Int32) (x3 : Int32) (x4 : Int32) (x5 : Int32) (x6 : Int32) (x7 : Int32) (x9 : Bool) (x10 : Int32) (x11 : Int32) (s0 : Int32) (s1 : Int32), rv_M (rR_G D cI cZ ad) (rR_A ad) p l e rm12_lands s m args below meth c 0 0 (rR_qIW D cI cZ ad below args s) (f12_lands_115 k47 M x2 x3 x4 x5 x6 x7 x9 x10 x11 s0 s1) 115 [some (.ref (ad 67)), none, some (.int x2), some (.int x3), some (.int x4), some (.int x5), some (.int x6), some (.int x7), none, some (.int (rv_i x9)), some (.int x10), some (.int x11), none, none] [.int s1, .int s0] M := by
  intro M x2 x3 x4 x5 x6 x7 x9 x10 x11 s0 s1
  unfold f12_lands_115
  refine rv_ior (q := 116) E.x dX12_lands_115 rfl ?_
  refine rv_istore (q := 118) (lv' := [_, _, _, _, _, _, _, _, _, _, _, _, _, _]) E.x dX12_lands_116 (Nat.le_of_ble_eq_true rfl) rfl rfl rfl ?_
  refine rv_aload_n (q := 119) E.x dX12_lands_118 rfl rfl ?_
  refine rR_get (q := 122) E 18 wf12_18 rfl (Nat.le_of_ble_eq_true rfl) rfl dX12_lands_119 rfl ?_
  refine rv_iload (q := 124) E.x dX12_lands_122 rfl rfl ?_
  refine rv_iload (q := 126) E.x dX12_lands_124 rfl rfl ?_
  refine rR_iast (q := 127) (n := 20) E (Nat.le_of_ble_eq_true rfl) rfl rfl dX12_lands_126 rfl ?_
  refine rv_ltm (fun M1 => ?_)
  refine rv_iconst (q := 128) E.x dX12_lands_127 rv_ki0 rfl ?_
  refine rv_istore (q := 130) (lv' := [_, _, _, _, _, _, _, _, _, _, _, _, _, _]) E.x dX12_lands_128 (Nat.le_of_ble_eq_true rfl) rfl rfl rfl ?_
  refine rv_wk [true, false, true, true, true, true, true, true, true, true, true, true, true, false] ?_
  exact b12_lands_130 E k47 h47 rv_FU M1 x2 x3 x4 x5 x6 x7 (s0 ||| s1) x9 x10 x11 0
set_option maxRecDepth 100000 in
theorem b12_lands_86 {p : Program} {l : Launch} {e : Env} {s : State} {m : MethodId} {args : Array Value} {below : List Frame} {meth : Method} {c : Code} {D : va_G} {cI cZ : ClassId} {ad : Nat → Nat} (E : rR_E D cI cZ ad cX12_lands 14 (some .int) p s m args meth c) (k47 : rv_Mem → Int32 → Int32 → Int32 → Int32 → Int32 → Int32 → Int32 → Bool → Option (Int32 × rv_Mem)) (h47 : ∀ (M : rv_Mem) (x2 : Int32) (x3 : Int32) (x4 : Int32) (x5 : Int32) (x6 : Int32) (x7 : Int32) (x8 : Int32) (x9 : Bool), rv_M (rR_G D cI cZ ad) (rR_A ad) p l e rm12_lands s m args below meth c 0 0 (rR_qIW D cI cZ ad below args s) (k47 M x2 x3 x4 x5 x6 x7 x8 x9) 47 [some (.ref (ad 67)), none, some (.int x2), some (.int x3), some (.int x4), some (.int x5), some (.int x6), some (.int x7), some (.int x8), some (.int (rv_i x9)), none, none, none, none] [] M) : ∀ (M : rv_Mem) (x2 : Int32) (x3 : Int32) (x4 : Int32) (x5 : Int32) (x6 : Int32) (x7 : Int32) (x8 : Int32) (x10 : Int32) (x11 : Int32) (s0 : Bool), rv_M (rR_G D cI cZ ad) (rR_A ad) p l e rm12_lands s m args below meth c 0 0 (rR_qIW D cI cZ ad below args s) (f12_lands_86 k47 M x2 x3 x4 x5 x6 x7 x8 x10 x11 s0) 86 [some (.ref (ad 67)), none, some (.int x2), some (.int x3), some (.int x4), some (.int x5), some (.int x6), some (.int x7), some (.int x8), none, some (.int x10), some (.int x11), none, none] [.int (rv_i s0)] M := by
  intro M x2 x3 x4 x5 x6 x7 x8 x10 x11 s0
  unfold f12_lands_86
  refine rv_istore (q := 88) (lv' := [_, _, _, _, _, _, _, _, _, _, _, _, _, _]) E.x dX12_lands_86 (Nat.le_of_ble_eq_true rfl) rfl rfl rfl ?_
  refine rv_iload (q := 90) E.x dX12_lands_88 rfl rfl ?_
  refine rv_iconst (q := 91) E.x dX12_lands_90 rv_ki1 rfl ?_
  refine rv_iload (q := 93) E.x dX12_lands_91 rfl rfl ?_
  refine rv_ishl (q := 94) E.x dX12_lands_93 rfl ?_
  refine rv_iconst (q := 95) E.x dX12_lands_94 rv_kim1 rfl ?_
  refine rv_ixor (q := 96) E.x dX12_lands_95 rfl ?_
  refine rv_iand (q := 97) E.x dX12_lands_96 rfl ?_
  refine rv_istore (q := 99) (lv' := [_, _, _, _, _, _, _, _, _, _, _, _, _, _]) E.x dX12_lands_97 (Nat.le_of_ble_eq_true rfl) rfl rfl rfl ?_
  refine rv_iload (q := 101) E.x dX12_lands_99 rfl rfl ?_
  refine rv_iload (q := 103) E.x dX12_lands_101 rfl rfl ?_
  refine rv_iconst (q := 104) E.x dX12_lands_103 rv_kim1 rfl ?_
  refine rv_icmp_ne (q := 107) (tgt := 114) E.x dX12_lands_104 (by decide) rfl ?_ ?_
  · refine rv_iconst (q := 108) E.x dX12_lands_107 rv_ki1 rfl ?_
    refine rv_iload (q := 110) E.x dX12_lands_108 rfl rfl ?_
    refine rv_ishl (q := 111) E.x dX12_lands_110 rfl ?_
    refine rv_goto (q := 115) E.x dX12_lands_111 (by decide) ?_
    refine rv_wk [true, false, true, true, true, true, true, true, false, true, true, true, false, false] ?_
    exact b12_lands_115 E k47 h47 M x2 x3 x4 x5 x6 (x7 &&& ((1 <<< (x10 &&& 31)) ^^^ (-1))) s0 x10 x11 x8 (1 <<< (x10 &&& 31))
  · refine rv_iconst (q := 115) E.x dX12_lands_114 rv_ki0 rfl ?_
    refine rv_wk [true, false, true, true, true, true, true, true, false, true, true, true, false, false] ?_
    exact b12_lands_115 E k47 h47 M x2 x3 x4 x5 x6 (x7 &&& ((1 <<< (x10 &&& 31)) ^^^ (-1))) s0 x10 x11 x8 0
set_option maxRecDepth 100000 in
theorem b12_lands_217 {p : Program} {l : Launch} {e : Env} {s : State} {m : MethodId} {args : Array Value} {below : List Frame} {meth : Method} {c : Code} {D : va_G} {cI cZ : ClassId} {ad : Nat → Nat} (E : rR_E D cI cZ ad cX12_lands 14 (some .int) p s m args meth c)   : ∀ (M : rv_Mem) (x2 : Int32) (x3 : Int32) (x4 : Int32) (x5 : Int32) (x6 : Int32) (x8 : Int32) (x9 : Bool), rv_M (rR_G D cI cZ ad) (rR_A ad) p l e rm12_lands s m args below meth c 0 0 (rR_qIW D cI cZ ad below args s) (f12_lands_217 M x2 x3 x4 x5 x6 x8 x9) 217 [some (.ref (ad 67)), none, some (.int x2), some (.int x3), some (.int x4), some (.int x5), some (.int x6), none, some (.int x8), some (.int (rv_i x9)), none, none, none, none] [] M := by
  intro M x2 x3 x4 x5 x6 x8 x9
  unfold f12_lands_217
  refine rv_iload (q := 219) E.x dX12_lands_217 rfl rfl ?_
  refine rv_ifz_ne (q := 222) (tgt := 246) E.x dX12_lands_219 (by decide) rfl ?_ ?_
  · refine rv_aload_n (q := 223) E.x dX12_lands_222 rfl rfl ?_
    refine rv_iload (q := 225) E.x dX12_lands_223 rfl rfl ?_
    refine rR_put (q := 228) E 0 wf12_0 rfl (Nat.le_of_ble_eq_true rfl) rfl rfl rfl dX12_lands_225 rfl ?_
    refine rv_ltm (fun M1 => ?_)
    refine rv_aload_n (q := 229) E.x dX12_lands_228 rfl rfl ?_
    refine rR_get (q := 232) E 9 wf12_9 rfl (Nat.le_of_ble_eq_true rfl) rfl dX12_lands_229 rfl ?_
    refine rv_iconst (q := 233) E.x dX12_lands_232 rv_ki0 rfl ?_
    refine rv_iload (q := 235) E.x dX12_lands_233 rfl rfl ?_
    refine rR_iast (q := 236) (n := 2) E (Nat.le_of_ble_eq_true rfl) rfl rfl dX12_lands_235 rfl ?_
    refine rv_ltm (fun M2 => ?_)
    refine rv_aload_n (q := 237) E.x dX12_lands_236 rfl rfl ?_
    refine rR_get (q := 240) E 9 wf12_9 rfl (Nat.le_of_ble_eq_true rfl) rfl dX12_lands_237 rfl ?_
    refine rv_iconst (q := 241) E.x dX12_lands_240 rv_ki1 rfl ?_
    refine rv_iload (q := 243) E.x dX12_lands_241 rfl rfl ?_
    refine rR_iast (q := 244) (n := 2) E (Nat.le_of_ble_eq_true rfl) rfl rfl dX12_lands_243 rfl ?_
    refine rv_ltm (fun M3 => ?_)
    refine rv_iconst (q := 245) E.x dX12_lands_244 rv_kim1 rfl ?_
    exact rR_iret E rfl dX12_lands_245
  · refine rv_aload_n (q := 247) E.x dX12_lands_246 rfl rfl ?_
    refine rv_iload_n (q := 248) E.x dX12_lands_247 rfl rfl ?_
    refine rv_iload (q := 250) E.x dX12_lands_248 rfl rfl ?_
    refine rv_b1 (fun M5 e4 => ?_)
    refine rR_callv (q := 253) E (c12_names E.2.2.1 e4) gX12_names hX12_names ⟨rfl, rfl⟩ ⟨Nat.le_of_ble_eq_true rfl, Nat.le_of_ble_eq_true rfl⟩ rfl rfl rfl (Nat.le_of_ble_eq_true rfl) dX12_lands_250 rfl ?_
    refine rv_aload_n (q := 254) E.x dX12_lands_253 rfl rfl ?_
    refine rv_iload_n (q := 255) E.x dX12_lands_254 rfl rfl ?_
    refine rv_iload_n (q := 256) E.x dX12_lands_255 rfl rfl ?_
    refine rv_b1 (fun M7 e6 => ?_)
    refine rR_callv (q := 259) E (c12_landed E.2.2.1 e6) gX12_landed hX12_landed ⟨rfl, rfl⟩ ⟨Nat.le_of_ble_eq_true rfl, Nat.le_of_ble_eq_true rfl⟩ rfl rfl rfl (Nat.le_of_ble_eq_true rfl) dX12_lands_256 rfl ?_
    refine rv_iload_n (q := 260) E.x dX12_lands_259 rfl rfl ?_
    refine rv_b1 (fun r9 e8 => ?_)
    refine rR_calls (q := 263) E (c12_bits e8) gX12_bits hX12_bits ⟨rfl, rfl⟩ ⟨Nat.le_of_ble_eq_true rfl, Nat.le_of_ble_eq_true rfl⟩ rfl rfl rfl (Nat.le_of_ble_eq_true rfl) dX12_lands_260 rfl ?_
    exact rR_iret E rfl dX12_lands_263
set_option maxRecDepth 100000 in
theorem b12_lands_47_s {p : Program} {l : Launch} {e : Env} {s : State} {m : MethodId} {args : Array Value} {below : List Frame} {meth : Method} {c : Code} {D : va_G} {cI cZ : ClassId} {ad : Nat → Nat} (E : rR_E D cI cZ ad cX12_lands 14 (some .int) p s m args meth c)   (k47 : rv_Mem → Int32 → Int32 → Int32 → Int32 → Int32 → Int32 → Int32 → Bool → Option (Int32 × rv_Mem)) (h47 : ∀ (M : rv_Mem) (x2 : Int32) (x3 : Int32) (x4 : Int32) (x5 : Int32) (x6 : Int32) (x7 : Int32) (x8 : Int32) (x9 : Bool), rv_M (rR_G D cI cZ ad) (rR_A ad) p l e rm12_lands s m args below meth c 0 0 (rR_qIW D cI cZ ad below args s) (k47 M x2 x3 x4 x5 x6 x7 x8 x9) 47 [some (.ref (ad 67)), none, some (.int x2), some (.int x3), some (.int x4), some (.int x5), some (.int x6), some (.int x7), some (.int x8), some (.int (rv_i x9)), none, none, none, none] [] M) : ∀ (M : rv_Mem) (x2 : Int32) (x3 : Int32) (x4 : Int32) (x5 : Int32) (x6 : Int32) (x7 : Int32) (x8 : Int32) (x9 : Bool), rv_M (rR_G D cI cZ ad) (rR_A ad) p l e rm12_lands s m args below meth c 0 0 (rR_qIW D cI cZ ad below args s) (f12_lands_47_s k47 M x2 x3 x4 x5 x6 x7 x8 x9) 47 [some (.ref (ad 67)), none, some (.int x2), some (.int x3), some (.int x4), some (.int x5), some (.int x6), some (.int x7), some (.int x8), some (.int (rv_i x9)), none, none, none, none] [] M := by
  intro M x2 x3 x4 x5 x6 x7 x8 x9
  unfold f12_lands_47_s
  refine rv_iload (q := 49) E.x dX12_lands_47 rfl rfl ?_
  refine rv_if_eq (q := 52) (tgt := 217) E.x dX12_lands_49 (by decide) rfl ?_ ?_
  · refine rv_iload (q := 54) E.x dX12_lands_52 rfl rfl ?_
    refine rv_ifz_eq (q := 57) (tgt := 217) E.x dX12_lands_54 (by decide) rfl ?_ ?_
    · refine rv_aload_n (q := 58) E.x dX12_lands_57 rfl rfl ?_
      refine rv_iload (q := 60) E.x dX12_lands_58 rfl rfl ?_
      refine rv_b1 (fun r2 e1 => ?_)
      refine rR_calli (q := 63) E (c12_nextOf E.2.2.1 e1) gX12_nextOf hX12_nextOf ⟨rfl, rfl⟩ ⟨Nat.le_of_ble_eq_true rfl, Nat.le_of_ble_eq_true rfl⟩ rfl rfl rfl (Nat.le_of_ble_eq_true rfl) dX12_lands_60 rfl ?_
      refine rv_istore (q := 65) (lv' := [_, _, _, _, _, _, _, _, _, _, _, _, _, _]) E.x dX12_lands_63 (Nat.le_of_ble_eq_true rfl) rfl rfl rfl ?_
      refine rv_aload_n (q := 66) E.x dX12_lands_65 rfl rfl ?_
      refine rv_iload (q := 68) E.x dX12_lands_66 rfl rfl ?_
      refine rv_iload_n (q := 69) E.x dX12_lands_68 rfl rfl ?_
      refine rv_b2 (fun r4 M5 e3 => ?_)
      refine rR_calli (q := 72) E (c12_landsOne E.2.2.1 e3) gX12_landsOne hX12_landsOne ⟨rfl, rfl⟩ ⟨Nat.le_of_ble_eq_true rfl, Nat.le_of_ble_eq_true rfl⟩ rfl rfl rfl (Nat.le_of_ble_eq_true rfl) dX12_lands_69 rfl ?_
      refine rv_istore (q := 74) (lv' := [_, _, _, _, _, _, _, _, _, _, _, _, _, _]) E.x dX12_lands_72 (Nat.le_of_ble_eq_true rfl) rfl rfl rfl ?_
      refine rv_iload (q := 76) E.x dX12_lands_74 rfl rfl ?_
      refine rv_bipush (q := 78) E.x dX12_lands_76 rv_kbm2 rfl ?_
      refine rv_icmp_eq (q := 81) (tgt := 85) E.x dX12_lands_78 (by decide) rfl ?_ ?_
      · refine rv_iconst (q := 82) E.x dX12_lands_81 rv_ki1 rfl ?_
        refine rv_goto (q := 86) E.x dX12_lands_82 (by decide) ?_
        refine rv_wk [true, false, true, true, true, true, true, true, true, false, true, true, false, false] ?_
        exact b12_lands_86 E k47 h47 M5 x2 x3 x4 x5 x6 x7 x8 r2 r4 true
      · refine rv_iconst (q := 86) E.x dX12_lands_85 rv_ki0 rfl ?_
        refine rv_wk [true, false, true, true, true, true, true, true, true, false, true, true, false, false] ?_
        exact b12_lands_86 E k47 h47 M5 x2 x3 x4 x5 x6 x7 x8 r2 r4 false
    · refine rv_wk [true, false, true, true, true, true, true, false, true, true, false, false, false, false] ?_
      exact b12_lands_217 E M x2 x3 x4 x5 x6 x8 x9
  · refine rv_wk [true, false, true, true, true, true, true, false, true, true, false, false, false, false] ?_
    exact b12_lands_217 E M x2 x3 x4 x5 x6 x8 x9
theorem b12_lands_47 {p : Program} {l : Launch} {e : Env} {s : State} {m : MethodId} {args : Array Value} {below : List Frame} {meth : Method} {c : Code} {D : va_G} {cI cZ : ClassId} {ad : Nat → Nat} (E : rR_E D cI cZ ad cX12_lands 14 (some .int) p s m args meth c)   : ∀ (n : Nat), ∀ (M : rv_Mem) (x2 : Int32) (x3 : Int32) (x4 : Int32) (x5 : Int32) (x6 : Int32) (x7 : Int32) (x8 : Int32) (x9 : Bool), rv_M (rR_G D cI cZ ad) (rR_A ad) p l e rm12_lands s m args below meth c 0 0 (rR_qIW D cI cZ ad below args s) (f12_lands_47 n M x2 x3 x4 x5 x6 x7 x8 x9) 47 [some (.ref (ad 67)), none, some (.int x2), some (.int x3), some (.int x4), some (.int x5), some (.int x6), some (.int x7), some (.int x8), some (.int (rv_i x9)), none, none, none, none] [] M := by
  intro n
  induction n with
  | zero => exact fun _ _ _ _ _ _ _ _ _ => rv_stuck
  | succ n ih => exact b12_lands_47_s E  (f12_lands_47 n) ih
set_option maxRecDepth 100000 in
theorem b12_lands {p : Program} {l : Launch} {e : Env} {s : State} {m : MethodId} {args : Array Value} {below : List Frame} {meth : Method} {c : Code} {D : va_G} {cI cZ : ClassId} {ad : Nat → Nat} (E : rR_E D cI cZ ad cX12_lands 14 (some .int) p s m args meth c) (M : rv_Mem) (a1 : Int32) (a2 : Int32) : rv_M (rR_G D cI cZ ad) (rR_A ad) p l e rm12_lands s m args below meth c 0 0  (rR_qIW D cI cZ ad below args s) (f12_lands M a1 a2) 0 [some (.ref (ad 67)), some (.int a1), some (.int a2), none, none, none, none, none, none, none, none, none, none, none] [] M := by
  unfold f12_lands
  refine rv_aload_n (q := 1) E.x dX12_lands_0 rfl rfl ?_
  refine rv_iload_n (q := 2) E.x dX12_lands_1 rfl rfl ?_
  refine rv_b1 (fun r2 e1 => ?_)
  refine rR_calli (q := 5) E (c12_groupOf E.2.2.1 e1) gX12_groupOf hX12_groupOf ⟨rfl, rfl⟩ ⟨Nat.le_of_ble_eq_true rfl, Nat.le_of_ble_eq_true rfl⟩ rfl rfl rfl (Nat.le_of_ble_eq_true rfl) dX12_lands_2 rfl ?_
  refine rv_istore_n (q := 6) (lv' := [_, _, _, _, _, _, _, _, _, _, _, _, _, _]) E.x dX12_lands_5 (Nat.le_of_ble_eq_true rfl) rfl rfl rfl ?_
  refine rv_aload_n (q := 7) E.x dX12_lands_6 rfl rfl ?_
  refine rv_iload_n (q := 8) E.x dX12_lands_7 rfl rfl ?_
  refine rv_b2 (fun r4 M5 e3 => ?_)
  refine rR_calli (q := 11) E (c12_areLandable E.2.2.1 e3) gX12_areLandable hX12_areLandable ⟨rfl, rfl⟩ ⟨Nat.le_of_ble_eq_true rfl, Nat.le_of_ble_eq_true rfl⟩ rfl rfl rfl (Nat.le_of_ble_eq_true rfl) dX12_lands_8 rfl ?_
  refine rv_ifz_ne (q := 14) (tgt := 16) E.x dX12_lands_11 (by decide) rfl ?_ ?_
  · refine rv_iconst (q := 15) E.x dX12_lands_14 rv_ki0 rfl ?_
    exact rR_iret E rfl dX12_lands_15
  · refine rv_aload_n (q := 17) E.x dX12_lands_16 rfl rfl ?_
    refine rR_get (q := 20) E 0 wf12_0 rfl (Nat.le_of_ble_eq_true rfl) rfl dX12_lands_17 rfl ?_
    refine rv_istore (q := 22) (lv' := [_, _, _, _, _, _, _, _, _, _, _, _, _, _]) E.x dX12_lands_20 (Nat.le_of_ble_eq_true rfl) rfl rfl rfl ?_
    refine rv_aload_n (q := 23) E.x dX12_lands_22 rfl rfl ?_
    refine rR_get (q := 26) E 9 wf12_9 rfl (Nat.le_of_ble_eq_true rfl) rfl dX12_lands_23 rfl ?_
    refine rv_iconst (q := 27) E.x dX12_lands_26 rv_ki0 rfl ?_
    refine rR_iald (q := 28) (n := 2) E (Nat.le_of_ble_eq_true rfl) rfl rfl dX12_lands_27 rfl ?_
    refine rv_istore (q := 30) (lv' := [_, _, _, _, _, _, _, _, _, _, _, _, _, _]) E.x dX12_lands_28 (Nat.le_of_ble_eq_true rfl) rfl rfl rfl ?_
    refine rv_aload_n (q := 31) E.x dX12_lands_30 rfl rfl ?_
    refine rR_get (q := 34) E 9 wf12_9 rfl (Nat.le_of_ble_eq_true rfl) rfl dX12_lands_31 rfl ?_
    refine rv_iconst (q := 35) E.x dX12_lands_34 rv_ki1 rfl ?_
    refine rR_iald (q := 36) (n := 2) E (Nat.le_of_ble_eq_true rfl) rfl rfl dX12_lands_35 rfl ?_
    refine rv_istore (q := 38) (lv' := [_, _, _, _, _, _, _, _, _, _, _, _, _, _]) E.x dX12_lands_36 (Nat.le_of_ble_eq_true rfl) rfl rfl rfl ?_
    refine rv_iload_n (q := 39) E.x dX12_lands_38 rfl rfl ?_
    refine rv_istore (q := 41) (lv' := [_, _, _, _, _, _, _, _, _, _, _, _, _, _]) E.x dX12_lands_39 (Nat.le_of_ble_eq_true rfl) rfl rfl rfl ?_
    refine rv_iconst (q := 42) E.x dX12_lands_41 rv_ki0 rfl ?_
    refine rv_istore (q := 44) (lv' := [_, _, _, _, _, _, _, _, _, _, _, _, _, _]) E.x dX12_lands_42 (Nat.le_of_ble_eq_true rfl) rfl rfl rfl ?_
    refine rv_iconst (q := 45) E.x dX12_lands_44 rv_ki1 rfl ?_
    refine rv_istore (q := 47) (lv' := [_, _, _, _, _, _, _, _, _, _, _, _, _, _]) E.x dX12_lands_45 (Nat.le_of_ble_eq_true rfl) rfl rfl rfl ?_
    refine rv_wk [true, false, true, true, true, true, true, true, true, true, false, false, false, false] ?_
    exact b12_lands_47 E rv_FU M5 a2 r2 (M5 0 0) (M5 9 ((0 : Int32)).toNatClampNeg) (M5 9 ((1 : Int32)).toNatClampNeg) r2 0 true
theorem c12_lands {l : Launch} {D : va_G} {cI cZ : ClassId} {ad : Nat → Nat} (hI : rR_I ad) {M : rv_Mem} {a1 : Int32} {a2 : Int32} {r : Int32} {M1 : rv_Mem} (h : f12_lands M a1 a2 = some (r, M1)) : Met l yX12_lands (rv_ws yX12_lands cX12_lands 14 (some .int)) rm12_lands (rR_Pc D cI cZ ad [.ref (ad 67), .int a1, .int a2] M) (rR_QI D cI cZ ad r M1) 0 0 (rR_A ad) := rR_met hI rfl (rv_cat rfl) (Nat.le_of_ble_eq_true rfl) (fun p e s m args below meth c E => ⟨(rR_qIW D cI cZ ad below args s), rfl, b12_lands E M a1 a2⟩) h
abbrev rm12_take : Room := { frames := 2, cells := 0, slots := 0, locals := 43 }
set_option maxRecDepth 100000 in
theorem b12_take_14 {p : Program} {l : Launch} {e : Env} {s : State} {m : MethodId} {args : Array Value} {below : List Frame} {meth : Method} {c : Code} {D : va_G} {cI cZ : ClassId} {ad : Nat → Nat} (E : rR_E D cI cZ ad cX12_take 2 (some .int) p s m args meth c)   : ∀ (M : rv_Mem) (x1 : Int32) (s1 : Bool), rv_M (rR_G D cI cZ ad) (rR_A ad) p l e rm12_take s m args below meth c 0 0 (rR_qIW D cI cZ ad below args s) (f12_take_14 M x1 s1) 14 [some (.ref (ad 67)), some (.int x1)] [.int (rv_i s1), .ref (ad 67)] M := by
  intro M x1 s1
  unfold f12_take_14
  refine rv_b2 (fun r2 M3 e1 => ?_)
  refine rR_calli (q := 17) E (c12_goes E.2.2.1 e1) gX12_goes hX12_goes ⟨rfl, rfl⟩ ⟨Nat.le_of_ble_eq_true rfl, Nat.le_of_ble_eq_true rfl⟩ rfl rfl rfl (Nat.le_of_ble_eq_true rfl) dX12_take_14 rfl ?_
  refine rv_ifz_ne (q := 20) (tgt := 22) E.x dX12_take_17 (by decide) rfl ?_ ?_
  · refine rv_iconst (q := 21) E.x dX12_take_20 rv_ki0 rfl ?_
    exact rR_iret E rfl dX12_take_21
  · refine rv_aload_n (q := 23) E.x dX12_take_22 rfl rfl ?_
    refine rv_iload_n (q := 24) E.x dX12_take_23 rfl rfl ?_
    refine rv_bipush (q := 26) E.x dX12_take_24 rv_kb80 rfl ?_
    refine rv_b1 (fun M5 e4 => ?_)
    refine rR_callv (q := 29) E (c12_copies E.2.2.1 e4) gX12_copies hX12_copies ⟨rfl, rfl⟩ ⟨Nat.le_of_ble_eq_true rfl, Nat.le_of_ble_eq_true rfl⟩ rfl rfl rfl (Nat.le_of_ble_eq_true rfl) dX12_take_26 rfl ?_
    refine rv_aload_n (q := 30) E.x dX12_take_29 rfl rfl ?_
    refine rR_get (q := 33) E 2 wf12_2 rfl (Nat.le_of_ble_eq_true rfl) rfl dX12_take_30 rfl ?_
    refine rv_bipush (q := 35) E.x dX12_take_33 rv_kb80 rfl ?_
    refine rv_iload_n (q := 36) E.x dX12_take_35 rfl rfl ?_
    refine rR_iast (q := 37) (n := 82) E (Nat.le_of_ble_eq_true rfl) rfl rfl dX12_take_36 rfl ?_
    refine rv_ltm (fun M6 => ?_)
    refine rv_aload_n (q := 38) E.x dX12_take_37 rfl rfl ?_
    refine rR_get (q := 41) E 1 wf12_1 rfl (Nat.le_of_ble_eq_true rfl) rfl dX12_take_38 rfl ?_
    refine rv_iload_n (q := 42) E.x dX12_take_41 rfl rfl ?_
    refine rR_iald (q := 43) (n := 82) E (Nat.le_of_ble_eq_true rfl) rfl rfl dX12_take_42 rfl ?_
    exact rR_iret E rfl dX12_take_43
set_option maxRecDepth 100000 in
theorem b12_take {p : Program} {l : Launch} {e : Env} {s : State} {m : MethodId} {args : Array Value} {below : List Frame} {meth : Method} {c : Code} {D : va_G} {cI cZ : ClassId} {ad : Nat → Nat} (E : rR_E D cI cZ ad cX12_take 2 (some .int) p s m args meth c) (M : rv_Mem) (a1 : Int32) : rv_M (rR_G D cI cZ ad) (rR_A ad) p l e rm12_take s m args below meth c 0 0  (rR_qIW D cI cZ ad below args s) (f12_take M a1) 0 [some (.ref (ad 67)), some (.int a1)] [] M := by
  unfold f12_take
  refine rv_aload_n (q := 1) E.x dX12_take_0 rfl rfl ?_
  refine rv_aload_n (q := 2) E.x dX12_take_1 rfl rfl ?_
  refine rv_iload_n (q := 3) E.x dX12_take_2 rfl rfl ?_
  refine rv_b1 (fun r2 e1 => ?_)
  refine rR_calli (q := 6) E (c12_isCommit E.2.2.1 e1) gX12_isCommit hX12_isCommit ⟨rfl, rfl⟩ ⟨Nat.le_of_ble_eq_true rfl, Nat.le_of_ble_eq_true rfl⟩ rfl rfl rfl (Nat.le_of_ble_eq_true rfl) dX12_take_3 rfl ?_
  refine rv_ifz_eq (q := 9) (tgt := 13) E.x dX12_take_6 (by decide) rfl ?_ ?_
  · refine rv_iconst (q := 10) E.x dX12_take_9 rv_ki0 rfl ?_
    refine rv_goto (q := 14) E.x dX12_take_10 (by decide) ?_
    refine rv_wk [true, true] ?_
    exact b12_take_14 E M a1 false
  · refine rv_iconst (q := 14) E.x dX12_take_13 rv_ki1 rfl ?_
    refine rv_wk [true, true] ?_
    exact b12_take_14 E M a1 true
theorem c12_take {l : Launch} {D : va_G} {cI cZ : ClassId} {ad : Nat → Nat} (hI : rR_I ad) {M : rv_Mem} {a1 : Int32} {r : Int32} {M1 : rv_Mem} (h : f12_take M a1 = some (r, M1)) : Met l yX12_take (rv_ws yX12_take cX12_take 2 (some .int)) rm12_take (rR_Pc D cI cZ ad [.ref (ad 67), .int a1] M) (rR_QI D cI cZ ad r M1) 0 0 (rR_A ad) := rR_met hI rfl (rv_cat rfl) (Nat.le_of_ble_eq_true rfl) (fun p e s m args below meth c E => ⟨(rR_qIW D cI cZ ad below args s), rfl, b12_take E M a1⟩) h
abbrev rm12_takeSet : Room := { frames := 3, cells := 0, slots := 0, locals := 65 }
set_option maxRecDepth 100000 in
theorem b12_takeSet_15 {p : Program} {l : Launch} {e : Env} {s : State} {m : MethodId} {args : Array Value} {below : List Frame} {meth : Method} {c : Code} {D : va_G} {cI cZ : ClassId} {ad : Nat → Nat} (E : rR_E D cI cZ ad cX12_takeSet 3 (some .int) p s m args meth c)   : ∀ (M : rv_Mem) (x1 : Int32) (x2 : Int32) (s1 : Bool), rv_M (rR_G D cI cZ ad) (rR_A ad) p l e rm12_takeSet s m args below meth c 0 0 (rR_qIW D cI cZ ad below args s) (f12_takeSet_15 M x1 x2 s1) 15 [some (.ref (ad 67)), some (.int x1), some (.int x2)] [.int (rv_i s1), .ref (ad 67)] M := by
  intro M x1 x2 s1
  unfold f12_takeSet_15
  refine rv_b2 (fun r2 M3 e1 => ?_)
  refine rR_calli (q := 18) E (c12_goes E.2.2.1 e1) gX12_goes hX12_goes ⟨rfl, rfl⟩ ⟨Nat.le_of_ble_eq_true rfl, Nat.le_of_ble_eq_true rfl⟩ rfl rfl rfl (Nat.le_of_ble_eq_true rfl) dX12_takeSet_15 rfl ?_
  refine rv_ifz_ne (q := 21) (tgt := 23) E.x dX12_takeSet_18 (by decide) rfl ?_ ?_
  · refine rv_iconst (q := 22) E.x dX12_takeSet_21 rv_ki0 rfl ?_
    exact rR_iret E rfl dX12_takeSet_22
  · refine rv_aload_n (q := 24) E.x dX12_takeSet_23 rfl rfl ?_
    refine rv_aload_n (q := 25) E.x dX12_takeSet_24 rfl rfl ?_
    refine rv_iload_n (q := 26) E.x dX12_takeSet_25 rfl rfl ?_
    refine rv_iload_n (q := 27) E.x dX12_takeSet_26 rfl rfl ?_
    refine rv_b1 (fun r5 e4 => ?_)
    refine rR_calli (q := 30) E (c12_commitAt E.2.2.1 e4) gX12_commitAt hX12_commitAt ⟨rfl, rfl⟩ ⟨Nat.le_of_ble_eq_true rfl, Nat.le_of_ble_eq_true rfl⟩ rfl rfl rfl (Nat.le_of_ble_eq_true rfl) dX12_takeSet_27 rfl ?_
    refine rv_bipush (q := 32) E.x dX12_takeSet_30 rv_kb80 rfl ?_
    refine rv_b1 (fun M7 e6 => ?_)
    refine rR_callv (q := 35) E (c12_copies E.2.2.1 e6) gX12_copies hX12_copies ⟨rfl, rfl⟩ ⟨Nat.le_of_ble_eq_true rfl, Nat.le_of_ble_eq_true rfl⟩ rfl rfl rfl (Nat.le_of_ble_eq_true rfl) dX12_takeSet_32 rfl ?_
    refine rv_aload_n (q := 36) E.x dX12_takeSet_35 rfl rfl ?_
    refine rR_get (q := 39) E 2 wf12_2 rfl (Nat.le_of_ble_eq_true rfl) rfl dX12_takeSet_36 rfl ?_
    refine rv_bipush (q := 41) E.x dX12_takeSet_39 rv_kb80 rfl ?_
    refine rv_aload_n (q := 42) E.x dX12_takeSet_41 rfl rfl ?_
    refine rR_get (q := 45) E 2 wf12_2 rfl (Nat.le_of_ble_eq_true rfl) rfl dX12_takeSet_42 rfl ?_
    refine rv_aload_n (q := 46) E.x dX12_takeSet_45 rfl rfl ?_
    refine rv_iload_n (q := 47) E.x dX12_takeSet_46 rfl rfl ?_
    refine rv_iload_n (q := 48) E.x dX12_takeSet_47 rfl rfl ?_
    refine rv_b1 (fun r9 e8 => ?_)
    refine rR_calli (q := 51) E (c12_commitAt E.2.2.1 e8) gX12_commitAt hX12_commitAt ⟨rfl, rfl⟩ ⟨Nat.le_of_ble_eq_true rfl, Nat.le_of_ble_eq_true rfl⟩ rfl rfl rfl (Nat.le_of_ble_eq_true rfl) dX12_takeSet_48 rfl ?_
    refine rR_iald (q := 52) (n := 82) E (Nat.le_of_ble_eq_true rfl) rfl rfl dX12_takeSet_51 rfl ?_
    refine rR_iast (q := 53) (n := 82) E (Nat.le_of_ble_eq_true rfl) rfl rfl dX12_takeSet_52 rfl ?_
    refine rv_ltm (fun M10 => ?_)
    refine rv_aload_n (q := 54) E.x dX12_takeSet_53 rfl rfl ?_
    refine rR_get (q := 57) E 2 wf12_2 rfl (Nat.le_of_ble_eq_true rfl) rfl dX12_takeSet_54 rfl ?_
    refine rv_bipush (q := 59) E.x dX12_takeSet_57 rv_kb80 rfl ?_
    refine rR_iald (q := 60) (n := 82) E (Nat.le_of_ble_eq_true rfl) rfl rfl dX12_takeSet_59 rfl ?_
    exact rR_iret E rfl dX12_takeSet_60
set_option maxRecDepth 100000 in
theorem b12_takeSet {p : Program} {l : Launch} {e : Env} {s : State} {m : MethodId} {args : Array Value} {below : List Frame} {meth : Method} {c : Code} {D : va_G} {cI cZ : ClassId} {ad : Nat → Nat} (E : rR_E D cI cZ ad cX12_takeSet 3 (some .int) p s m args meth c) (M : rv_Mem) (a1 : Int32) (a2 : Int32) : rv_M (rR_G D cI cZ ad) (rR_A ad) p l e rm12_takeSet s m args below meth c 0 0  (rR_qIW D cI cZ ad below args s) (f12_takeSet M a1 a2) 0 [some (.ref (ad 67)), some (.int a1), some (.int a2)] [] M := by
  unfold f12_takeSet
  refine rv_aload_n (q := 1) E.x dX12_takeSet_0 rfl rfl ?_
  refine rv_aload_n (q := 2) E.x dX12_takeSet_1 rfl rfl ?_
  refine rv_iload_n (q := 3) E.x dX12_takeSet_2 rfl rfl ?_
  refine rv_iload_n (q := 4) E.x dX12_takeSet_3 rfl rfl ?_
  refine rv_b1 (fun r2 e1 => ?_)
  refine rR_calli (q := 7) E (c12_isSet E.2.2.1 e1) gX12_isSet hX12_isSet ⟨rfl, rfl⟩ ⟨Nat.le_of_ble_eq_true rfl, Nat.le_of_ble_eq_true rfl⟩ rfl rfl rfl (Nat.le_of_ble_eq_true rfl) dX12_takeSet_4 rfl ?_
  refine rv_ifz_eq (q := 10) (tgt := 14) E.x dX12_takeSet_7 (by decide) rfl ?_ ?_
  · refine rv_iconst (q := 11) E.x dX12_takeSet_10 rv_ki0 rfl ?_
    refine rv_goto (q := 15) E.x dX12_takeSet_11 (by decide) ?_
    refine rv_wk [true, true, true] ?_
    exact b12_takeSet_15 E M a1 a2 false
  · refine rv_iconst (q := 15) E.x dX12_takeSet_14 rv_ki1 rfl ?_
    refine rv_wk [true, true, true] ?_
    exact b12_takeSet_15 E M a1 a2 true
theorem c12_takeSet {l : Launch} {D : va_G} {cI cZ : ClassId} {ad : Nat → Nat} (hI : rR_I ad) {M : rv_Mem} {a1 : Int32} {a2 : Int32} {r : Int32} {M1 : rv_Mem} (h : f12_takeSet M a1 a2 = some (r, M1)) : Met l yX12_takeSet (rv_ws yX12_takeSet cX12_takeSet 3 (some .int)) rm12_takeSet (rR_Pc D cI cZ ad [.ref (ad 67), .int a1, .int a2] M) (rR_QI D cI cZ ad r M1) 0 0 (rR_A ad) := rR_met hI rfl (rv_cat rfl) (Nat.le_of_ble_eq_true rfl) (fun p e s m args below meth c E => ⟨(rR_qIW D cI cZ ad below args s), rfl, b12_takeSet E M a1 a2⟩) h
abbrev rm12_put : Room := { frames := 2, cells := 0, slots := 0, locals := 42 }
set_option maxRecDepth 100000 in
theorem b12_put_89_s {p : Program} {l : Launch} {e : Env} {s : State} {m : MethodId} {args : Array Value} {below : List Frame} {meth : Method} {c : Code} {D : va_G} {cI cZ : ClassId} {ad : Nat → Nat} (E : rR_E D cI cZ ad cX12_put 6 (some .int) p s m args meth c)   (k89 : rv_Mem → Int32 → Int32 → Int32 → Int32 → Int32 → Option (Int32 × rv_Mem)) (h89 : ∀ (M : rv_Mem) (x1 : Int32) (x2 : Int32) (x3 : Int32) (x4 : Int32) (x5 : Int32), rv_M (rR_G D cI cZ ad) (rR_A ad) p l e rm12_put s m args below meth c 0 0 (rR_qIW D cI cZ ad below args s) (k89 M x1 x2 x3 x4 x5) 89 [some (.ref (ad 67)), some (.int x1), some (.int x2), some (.int x3), some (.int x4), some (.int x5)] [] M) : ∀ (M : rv_Mem) (x1 : Int32) (x2 : Int32) (x3 : Int32) (x4 : Int32) (x5 : Int32), rv_M (rR_G D cI cZ ad) (rR_A ad) p l e rm12_put s m args below meth c 0 0 (rR_qIW D cI cZ ad below args s) (f12_put_89_s k89 M x1 x2 x3 x4 x5) 89 [some (.ref (ad 67)), some (.int x1), some (.int x2), some (.int x3), some (.int x4), some (.int x5)] [] M := by
  intro M x1 x2 x3 x4 x5
  unfold f12_put_89_s
  refine rv_iload (q := 91) E.x dX12_put_89 rfl rfl ?_
  refine rv_iload (q := 93) E.x dX12_put_91 rfl rfl ?_
  refine rv_iload_n (q := 94) E.x dX12_put_93 rfl rfl ?_
  refine rv_iadd (q := 95) E.x dX12_put_94 rfl ?_
  refine rv_icmp_le (q := 98) (tgt := 120) E.x dX12_put_95 (by decide) rfl ?_ ?_
  · refine rv_aload_n (q := 99) E.x dX12_put_98 rfl rfl ?_
    refine rR_get (q := 102) E 4 wf12_4 rfl (Nat.le_of_ble_eq_true rfl) rfl dX12_put_99 rfl ?_
    refine rv_iload (q := 104) E.x dX12_put_102 rfl rfl ?_
    refine rv_aload_n (q := 105) E.x dX12_put_104 rfl rfl ?_
    refine rR_get (q := 108) E 4 wf12_4 rfl (Nat.le_of_ble_eq_true rfl) rfl dX12_put_105 rfl ?_
    refine rv_iload (q := 110) E.x dX12_put_108 rfl rfl ?_
    refine rv_iconst (q := 111) E.x dX12_put_110 rv_ki1 rfl ?_
    refine rv_isub (q := 112) E.x dX12_put_111 rfl ?_
    refine rR_iald (q := 113) (n := 3280) E (Nat.le_of_ble_eq_true rfl) rfl rfl dX12_put_112 rfl ?_
    refine rR_iast (q := 114) (n := 3280) E (Nat.le_of_ble_eq_true rfl) rfl rfl dX12_put_113 rfl ?_
    refine rv_ltm (fun M1 => ?_)
    refine rv_iinc (q := 117) (lv' := [_, _, _, _, _, _]) E.x dX12_put_114 rv_kim1 rfl rfl rfl rfl ?_
    refine rv_goto (q := 89) E.x dX12_put_117 (by decide) ?_
    refine rv_wk [true, true, true, true, true, true] ?_
    exact h89 M1 x1 x2 x3 x4 (x5 + (-1))
  · refine rv_aload_n (q := 121) E.x dX12_put_120 rfl rfl ?_
    refine rR_get (q := 124) E 4 wf12_4 rfl (Nat.le_of_ble_eq_true rfl) rfl dX12_put_121 rfl ?_
    refine rv_iload (q := 126) E.x dX12_put_124 rfl rfl ?_
    refine rv_iload_n (q := 127) E.x dX12_put_126 rfl rfl ?_
    refine rv_iadd (q := 128) E.x dX12_put_127 rfl ?_
    refine rv_iload_n (q := 129) E.x dX12_put_128 rfl rfl ?_
    refine rR_iast (q := 130) (n := 3280) E (Nat.le_of_ble_eq_true rfl) rfl rfl dX12_put_129 rfl ?_
    refine rv_ltm (fun M2 => ?_)
    refine rv_aload_n (q := 131) E.x dX12_put_130 rfl rfl ?_
    refine rR_get (q := 134) E 3 wf12_3 rfl (Nat.le_of_ble_eq_true rfl) rfl dX12_put_131 rfl ?_
    refine rv_sipush (q := 137) E.x dX12_put_134 rv_ks320 rfl ?_
    refine rv_iload_n (q := 138) E.x dX12_put_137 rfl rfl ?_
    refine rv_iadd (q := 139) E.x dX12_put_138 rfl ?_
    refine rv_dup2 (q := 140) E.x dX12_put_139 rfl rfl rfl ?_
    refine rR_iald (q := 141) (n := 328) E (Nat.le_of_ble_eq_true rfl) rfl rfl dX12_put_140 rfl ?_
    refine rv_iconst (q := 142) E.x dX12_put_141 rv_ki1 rfl ?_
    refine rv_iadd (q := 143) E.x dX12_put_142 rfl ?_
    refine rR_iast (q := 144) (n := 328) E (Nat.le_of_ble_eq_true rfl) rfl rfl dX12_put_143 rfl ?_
    refine rv_ltm (fun M3 => ?_)
    refine rv_aload_n (q := 145) E.x dX12_put_144 rfl rfl ?_
    refine rv_bipush (q := 147) E.x dX12_put_145 rv_kb80 rfl ?_
    refine rv_iload_n (q := 148) E.x dX12_put_147 rfl rfl ?_
    refine rv_b1 (fun r5 e4 => ?_)
    refine rR_calli (q := 151) E (c12_sizeOf E.2.2.1 e4) gX12_sizeOf hX12_sizeOf ⟨rfl, rfl⟩ ⟨Nat.le_of_ble_eq_true rfl, Nat.le_of_ble_eq_true rfl⟩ rfl rfl rfl (Nat.le_of_ble_eq_true rfl) dX12_put_148 rfl ?_
    exact rR_iret E rfl dX12_put_151
theorem b12_put_89 {p : Program} {l : Launch} {e : Env} {s : State} {m : MethodId} {args : Array Value} {below : List Frame} {meth : Method} {c : Code} {D : va_G} {cI cZ : ClassId} {ad : Nat → Nat} (E : rR_E D cI cZ ad cX12_put 6 (some .int) p s m args meth c)   : ∀ (n : Nat), ∀ (M : rv_Mem) (x1 : Int32) (x2 : Int32) (x3 : Int32) (x4 : Int32) (x5 : Int32), rv_M (rR_G D cI cZ ad) (rR_A ad) p l e rm12_put s m args below meth c 0 0 (rR_qIW D cI cZ ad below args s) (f12_put_89 n M x1 x2 x3 x4 x5) 89 [some (.ref (ad 67)), some (.int x1), some (.int x2), some (.int x3), some (.int x4), some (.int x5)] [] M := by
  intro n
  induction n with
  | zero => exact fun _ _ _ _ _ _ => rv_stuck
  | succ n ih => exact b12_put_89_s E  (f12_put_89 n) ih
set_option maxRecDepth 100000 in
theorem b12_put_59 {p : Program} {l : Launch} {e : Env} {s : State} {m : MethodId} {args : Array Value} {below : List Frame} {meth : Method} {c : Code} {D : va_G} {cI cZ : ClassId} {ad : Nat → Nat} (E : rR_E D cI cZ ad cX12_put 6 (some .int) p s m args meth c)   : ∀ (M : rv_Mem) (x1 : Int32) (x2 : Int32) (x3 : Int32) (s1 : Int32), rv_M (rR_G D cI cZ ad) (rR_A ad) p l e rm12_put s m args below meth c 0 0 (rR_qIW D cI cZ ad below args s) (f12_put_59 M x1 x2 x3 s1) 59 [some (.ref (ad 67)), some (.int x1), some (.int x2), some (.int x3), none, none] [.int s1, .ref (ad 67)] M := by
  intro M x1 x2 x3 s1
  unfold f12_put_59
  refine rv_b2 (fun r2 M3 e1 => ?_)
  refine rR_calli (q := 62) E (c12_goes E.2.2.1 e1) gX12_goes hX12_goes ⟨rfl, rfl⟩ ⟨Nat.le_of_ble_eq_true rfl, Nat.le_of_ble_eq_true rfl⟩ rfl rfl rfl (Nat.le_of_ble_eq_true rfl) dX12_put_59 rfl ?_
  refine rv_ifz_ne (q := 65) (tgt := 67) E.x dX12_put_62 (by decide) rfl ?_ ?_
  · refine rv_iconst (q := 66) E.x dX12_put_65 rv_ki0 rfl ?_
    exact rR_iret E rfl dX12_put_66
  · refine rv_bipush (q := 69) E.x dX12_put_67 rv_kb10 rfl ?_
    refine rv_sipush (q := 72) E.x dX12_put_69 rv_ks320 rfl ?_
    refine rv_iload_n (q := 73) E.x dX12_put_72 rfl rfl ?_
    refine rv_iadd (q := 74) E.x dX12_put_73 rfl ?_
    refine rv_imul (q := 75) E.x dX12_put_74 rfl ?_
    refine rv_istore (q := 77) (lv' := [_, _, _, _, _, _]) E.x dX12_put_75 (Nat.le_of_ble_eq_true rfl) rfl rfl rfl ?_
    refine rv_iload (q := 79) E.x dX12_put_77 rfl rfl ?_
    refine rv_aload_n (q := 80) E.x dX12_put_79 rfl rfl ?_
    refine rv_bipush (q := 82) E.x dX12_put_80 rv_kb80 rfl ?_
    refine rv_iload_n (q := 83) E.x dX12_put_82 rfl rfl ?_
    refine rv_b1 (fun r5 e4 => ?_)
    refine rR_calli (q := 86) E (c12_sizeOf E.2.2.1 e4) gX12_sizeOf hX12_sizeOf ⟨rfl, rfl⟩ ⟨Nat.le_of_ble_eq_true rfl, Nat.le_of_ble_eq_true rfl⟩ rfl rfl rfl (Nat.le_of_ble_eq_true rfl) dX12_put_83 rfl ?_
    refine rv_iadd (q := 87) E.x dX12_put_86 rfl ?_
    refine rv_istore (q := 89) (lv' := [_, _, _, _, _, _]) E.x dX12_put_87 (Nat.le_of_ble_eq_true rfl) rfl rfl rfl ?_
    refine rv_wk [true, true, true, true, true, true] ?_
    exact b12_put_89 E rv_FU M3 x1 x2 x3 (10 * (320 + x1)) ((10 * (320 + x1)) + r5)
set_option maxRecDepth 100000 in
theorem b12_put_23 {p : Program} {l : Launch} {e : Env} {s : State} {m : MethodId} {args : Array Value} {below : List Frame} {meth : Method} {c : Code} {D : va_G} {cI cZ : ClassId} {ad : Nat → Nat} (E : rR_E D cI cZ ad cX12_put 6 (some .int) p s m args meth c)   : ∀ (M : rv_Mem) (x1 : Int32) (x2 : Int32) (x3 : Int32), rv_M (rR_G D cI cZ ad) (rR_A ad) p l e rm12_put s m args below meth c 0 0 (rR_qIW D cI cZ ad below args s) (f12_put_23 M x1 x2 x3) 23 [some (.ref (ad 67)), some (.int x1), some (.int x2), some (.int x3), none, none] [.ref (ad 67)] M := by
  intro M x1 x2 x3
  unfold f12_put_23
  refine rv_iconst (q := 24) E.x dX12_put_23 rv_ki1 rfl ?_
  refine rv_goto (q := 59) E.x dX12_put_24 (by decide) ?_
  refine rv_wk [true, true, true, true, false, false] ?_
  exact b12_put_59 E M x1 x2 x3 1
set_option maxRecDepth 100000 in
theorem b12_put {p : Program} {l : Launch} {e : Env} {s : State} {m : MethodId} {args : Array Value} {below : List Frame} {meth : Method} {c : Code} {D : va_G} {cI cZ : ClassId} {ad : Nat → Nat} (E : rR_E D cI cZ ad cX12_put 6 (some .int) p s m args meth c) (M : rv_Mem) (a1 : Int32) (a2 : Int32) (a3 : Int32) : rv_M (rR_G D cI cZ ad) (rR_A ad) p l e rm12_put s m args below meth c 0 0  (rR_qIW D cI cZ ad below args s) (f12_put M a1 a2 a3) 0 [some (.ref (ad 67)), some (.int a1), some (.int a2), some (.int a3), none, none] [] M := by
  unfold f12_put
  refine rv_aload_n (q := 1) E.x dX12_put_0 rfl rfl ?_
  refine rv_iload_n (q := 2) E.x dX12_put_1 rfl rfl ?_
  refine rv_b1 (fun r2 e1 => ?_)
  refine rR_calls (q := 5) E (c12_isFile e1) gX12_isFile hX12_isFile ⟨rfl, rfl⟩ ⟨Nat.le_of_ble_eq_true rfl, Nat.le_of_ble_eq_true rfl⟩ rfl rfl rfl (Nat.le_of_ble_eq_true rfl) dX12_put_2 rfl ?_
  refine rv_ifz_eq (q := 8) (tgt := 23) E.x dX12_put_5 (by decide) rfl ?_ ?_
  · refine rv_iload_n (q := 9) E.x dX12_put_8 rfl rfl ?_
    refine rv_iconst (q := 10) E.x dX12_put_9 rv_ki0 rfl ?_
    refine rv_aload_n (q := 11) E.x dX12_put_10 rfl rfl ?_
    refine rv_bipush (q := 13) E.x dX12_put_11 rv_kb80 rfl ?_
    refine rv_iload_n (q := 14) E.x dX12_put_13 rfl rfl ?_
    refine rv_b1 (fun r4 e3 => ?_)
    refine rR_calli (q := 17) E (c12_sizeOf E.2.2.1 e3) gX12_sizeOf hX12_sizeOf ⟨rfl, rfl⟩ ⟨Nat.le_of_ble_eq_true rfl, Nat.le_of_ble_eq_true rfl⟩ rfl rfl rfl (Nat.le_of_ble_eq_true rfl) dX12_put_14 rfl ?_
    refine rv_b1 (fun r6 e5 => ?_)
    refine rR_calls (q := 20) E (c12_isIn e5) gX12_isIn hX12_isIn ⟨rfl, rfl⟩ ⟨Nat.le_of_ble_eq_true rfl, Nat.le_of_ble_eq_true rfl⟩ rfl rfl rfl (Nat.le_of_ble_eq_true rfl) dX12_put_17 rfl ?_
    refine rv_ifz_ne (q := 23) (tgt := 27) E.x dX12_put_20 (by decide) rfl ?_ ?_
    · refine rv_wk [true, true, true, true, false, false] ?_
      exact b12_put_23 E M a1 a2 a3
    · refine rv_iload_n (q := 28) E.x dX12_put_27 rfl rfl ?_
      refine rv_iconst (q := 29) E.x dX12_put_28 rv_ki0 rfl ?_
      refine rv_sipush (q := 32) E.x dX12_put_29 rv_ks399 rfl ?_
      refine rv_b1 (fun r8 e7 => ?_)
      refine rR_calls (q := 35) E (c12_isIn e7) gX12_isIn hX12_isIn ⟨rfl, rfl⟩ ⟨Nat.le_of_ble_eq_true rfl, Nat.le_of_ble_eq_true rfl⟩ rfl rfl rfl (Nat.le_of_ble_eq_true rfl) dX12_put_32 rfl ?_
      refine rv_ifz_ne (q := 38) (tgt := 42) E.x dX12_put_35 (by decide) rfl ?_ ?_
      · refine rv_iconst (q := 39) E.x dX12_put_38 rv_ki2 rfl ?_
        refine rv_goto (q := 59) E.x dX12_put_39 (by decide) ?_
        refine rv_wk [true, true, true, true, false, false] ?_
        exact b12_put_59 E M a1 a2 a3 2
      · refine rv_aload_n (q := 43) E.x dX12_put_42 rfl rfl ?_
        refine rv_bipush (q := 45) E.x dX12_put_43 rv_kb80 rfl ?_
        refine rv_iload_n (q := 46) E.x dX12_put_45 rfl rfl ?_
        refine rv_b1 (fun r10 e9 => ?_)
        refine rR_calli (q := 49) E (c12_sizeOf E.2.2.1 e9) gX12_sizeOf hX12_sizeOf ⟨rfl, rfl⟩ ⟨Nat.le_of_ble_eq_true rfl, Nat.le_of_ble_eq_true rfl⟩ rfl rfl rfl (Nat.le_of_ble_eq_true rfl) dX12_put_46 rfl ?_
        refine rv_bipush (q := 51) E.x dX12_put_49 rv_kb10 rfl ?_
        refine rv_icmp_ne (q := 54) (tgt := 58) E.x dX12_put_51 (by decide) rfl ?_ ?_
        · refine rv_iconst (q := 55) E.x dX12_put_54 rv_ki3 rfl ?_
          refine rv_goto (q := 59) E.x dX12_put_55 (by decide) ?_
          refine rv_wk [true, true, true, true, false, false] ?_
          exact b12_put_59 E M a1 a2 a3 3
        · refine rv_iconst (q := 59) E.x dX12_put_58 rv_ki0 rfl ?_
          refine rv_wk [true, true, true, true, false, false] ?_
          exact b12_put_59 E M a1 a2 a3 0
  · refine rv_wk [true, true, true, true, false, false] ?_
    exact b12_put_23 E M a1 a2 a3
theorem c12_put {l : Launch} {D : va_G} {cI cZ : ClassId} {ad : Nat → Nat} (hI : rR_I ad) {M : rv_Mem} {a1 : Int32} {a2 : Int32} {a3 : Int32} {r : Int32} {M1 : rv_Mem} (h : f12_put M a1 a2 a3 = some (r, M1)) : Met l yX12_put (rv_ws yX12_put cX12_put 6 (some .int)) rm12_put (rR_Pc D cI cZ ad [.ref (ad 67), .int a1, .int a2, .int a3] M) (rR_QI D cI cZ ad r M1) 0 0 (rR_A ad) := rR_met hI rfl (rv_cat rfl) (Nat.le_of_ble_eq_true rfl) (fun p e s m args below meth c E => ⟨(rR_qIW D cI cZ ad below args s), rfl, b12_put E M a1 a2 a3⟩) h
abbrev rm12_cut : Room := { frames := 2, cells := 0, slots := 0, locals := 42 }
set_option maxRecDepth 100000 in
theorem b12_cut_76_s {p : Program} {l : Launch} {e : Env} {s : State} {m : MethodId} {args : Array Value} {below : List Frame} {meth : Method} {c : Code} {D : va_G} {cI cZ : ClassId} {ad : Nat → Nat} (E : rR_E D cI cZ ad cX12_cut 6 (some .int) p s m args meth c)   (k76 : rv_Mem → Int32 → Int32 → Int32 → Int32 → Option (Int32 × rv_Mem)) (h76 : ∀ (M : rv_Mem) (x1 : Int32) (x3 : Int32) (x4 : Int32) (x5 : Int32), rv_M (rR_G D cI cZ ad) (rR_A ad) p l e rm12_cut s m args below meth c 0 0 (rR_qIW D cI cZ ad below args s) (k76 M x1 x3 x4 x5) 76 [some (.ref (ad 67)), some (.int x1), none, some (.int x3), some (.int x4), some (.int x5)] [] M) : ∀ (M : rv_Mem) (x1 : Int32) (x3 : Int32) (x4 : Int32) (x5 : Int32), rv_M (rR_G D cI cZ ad) (rR_A ad) p l e rm12_cut s m args below meth c 0 0 (rR_qIW D cI cZ ad below args s) (f12_cut_76_s k76 M x1 x3 x4 x5) 76 [some (.ref (ad 67)), some (.int x1), none, some (.int x3), some (.int x4), some (.int x5)] [] M := by
  intro M x1 x3 x4 x5
  unfold f12_cut_76_s
  refine rv_iload (q := 78) E.x dX12_cut_76 rfl rfl ?_
  refine rv_iload_n (q := 79) E.x dX12_cut_78 rfl rfl ?_
  refine rv_aload_n (q := 80) E.x dX12_cut_79 rfl rfl ?_
  refine rv_bipush (q := 82) E.x dX12_cut_80 rv_kb80 rfl ?_
  refine rv_iload_n (q := 83) E.x dX12_cut_82 rfl rfl ?_
  refine rv_b1 (fun r2 e1 => ?_)
  refine rR_calli (q := 86) E (c12_sizeOf E.2.2.1 e1) gX12_sizeOf hX12_sizeOf ⟨rfl, rfl⟩ ⟨Nat.le_of_ble_eq_true rfl, Nat.le_of_ble_eq_true rfl⟩ rfl rfl rfl (Nat.le_of_ble_eq_true rfl) dX12_cut_83 rfl ?_
  refine rv_iadd (q := 87) E.x dX12_cut_86 rfl ?_
  refine rv_icmp_ge (q := 90) (tgt := 112) E.x dX12_cut_87 (by decide) rfl ?_ ?_
  · refine rv_aload_n (q := 91) E.x dX12_cut_90 rfl rfl ?_
    refine rR_get (q := 94) E 4 wf12_4 rfl (Nat.le_of_ble_eq_true rfl) rfl dX12_cut_91 rfl ?_
    refine rv_iload (q := 96) E.x dX12_cut_94 rfl rfl ?_
    refine rv_aload_n (q := 97) E.x dX12_cut_96 rfl rfl ?_
    refine rR_get (q := 100) E 4 wf12_4 rfl (Nat.le_of_ble_eq_true rfl) rfl dX12_cut_97 rfl ?_
    refine rv_iload (q := 102) E.x dX12_cut_100 rfl rfl ?_
    refine rv_iconst (q := 103) E.x dX12_cut_102 rv_ki1 rfl ?_
    refine rv_iadd (q := 104) E.x dX12_cut_103 rfl ?_
    refine rR_iald (q := 105) (n := 3280) E (Nat.le_of_ble_eq_true rfl) rfl rfl dX12_cut_104 rfl ?_
    refine rR_iast (q := 106) (n := 3280) E (Nat.le_of_ble_eq_true rfl) rfl rfl dX12_cut_105 rfl ?_
    refine rv_ltm (fun M3 => ?_)
    refine rv_iinc (q := 109) (lv' := [_, _, _, _, _, _]) E.x dX12_cut_106 rv_ki1 rfl rfl rfl rfl ?_
    refine rv_goto (q := 76) E.x dX12_cut_109 (by decide) ?_
    refine rv_wk [true, true, false, true, true, true] ?_
    exact h76 M3 x1 x3 x4 (x5 + 1)
  · refine rv_iload (q := 114) E.x dX12_cut_112 rfl rfl ?_
    exact rR_iret E rfl dX12_cut_114
theorem b12_cut_76 {p : Program} {l : Launch} {e : Env} {s : State} {m : MethodId} {args : Array Value} {below : List Frame} {meth : Method} {c : Code} {D : va_G} {cI cZ : ClassId} {ad : Nat → Nat} (E : rR_E D cI cZ ad cX12_cut 6 (some .int) p s m args meth c)   : ∀ (n : Nat), ∀ (M : rv_Mem) (x1 : Int32) (x3 : Int32) (x4 : Int32) (x5 : Int32), rv_M (rR_G D cI cZ ad) (rR_A ad) p l e rm12_cut s m args below meth c 0 0 (rR_qIW D cI cZ ad below args s) (f12_cut_76 n M x1 x3 x4 x5) 76 [some (.ref (ad 67)), some (.int x1), none, some (.int x3), some (.int x4), some (.int x5)] [] M := by
  intro n
  induction n with
  | zero => exact fun _ _ _ _ _ => rv_stuck
  | succ n ih => exact b12_cut_76_s E  (f12_cut_76 n) ih
set_option maxRecDepth 100000 in
theorem b12_cut_30 {p : Program} {l : Launch} {e : Env} {s : State} {m : MethodId} {args : Array Value} {below : List Frame} {meth : Method} {c : Code} {D : va_G} {cI cZ : ClassId} {ad : Nat → Nat} (E : rR_E D cI cZ ad cX12_cut 6 (some .int) p s m args meth c)   : ∀ (M : rv_Mem) (x1 : Int32) (x2 : Int32) (s1 : Bool), rv_M (rR_G D cI cZ ad) (rR_A ad) p l e rm12_cut s m args below meth c 0 0 (rR_qIW D cI cZ ad below args s) (f12_cut_30 M x1 x2 s1) 30 [some (.ref (ad 67)), some (.int x1), some (.int x2), none, none, none] [.int (rv_i s1), .ref (ad 67)] M := by
  intro M x1 x2 s1
  unfold f12_cut_30
  refine rv_b2 (fun r2 M3 e1 => ?_)
  refine rR_calli (q := 33) E (c12_goes E.2.2.1 e1) gX12_goes hX12_goes ⟨rfl, rfl⟩ ⟨Nat.le_of_ble_eq_true rfl, Nat.le_of_ble_eq_true rfl⟩ rfl rfl rfl (Nat.le_of_ble_eq_true rfl) dX12_cut_30 rfl ?_
  refine rv_ifz_ne (q := 36) (tgt := 38) E.x dX12_cut_33 (by decide) rfl ?_ ?_
  · refine rv_iconst (q := 37) E.x dX12_cut_36 rv_ki0 rfl ?_
    exact rR_iret E rfl dX12_cut_37
  · refine rv_bipush (q := 40) E.x dX12_cut_38 rv_kb10 rfl ?_
    refine rv_sipush (q := 43) E.x dX12_cut_40 rv_ks320 rfl ?_
    refine rv_iload_n (q := 44) E.x dX12_cut_43 rfl rfl ?_
    refine rv_iadd (q := 45) E.x dX12_cut_44 rfl ?_
    refine rv_imul (q := 46) E.x dX12_cut_45 rfl ?_
    refine rv_istore_n (q := 47) (lv' := [_, _, _, _, _, _]) E.x dX12_cut_46 (Nat.le_of_ble_eq_true rfl) rfl rfl rfl ?_
    refine rv_aload_n (q := 48) E.x dX12_cut_47 rfl rfl ?_
    refine rR_get (q := 51) E 4 wf12_4 rfl (Nat.le_of_ble_eq_true rfl) rfl dX12_cut_48 rfl ?_
    refine rv_iload_n (q := 52) E.x dX12_cut_51 rfl rfl ?_
    refine rv_iload_n (q := 53) E.x dX12_cut_52 rfl rfl ?_
    refine rv_iadd (q := 54) E.x dX12_cut_53 rfl ?_
    refine rR_iald (q := 55) (n := 3280) E (Nat.le_of_ble_eq_true rfl) rfl rfl dX12_cut_54 rfl ?_
    refine rv_istore (q := 57) (lv' := [_, _, _, _, _, _]) E.x dX12_cut_55 (Nat.le_of_ble_eq_true rfl) rfl rfl rfl ?_
    refine rv_aload_n (q := 58) E.x dX12_cut_57 rfl rfl ?_
    refine rR_get (q := 61) E 3 wf12_3 rfl (Nat.le_of_ble_eq_true rfl) rfl dX12_cut_58 rfl ?_
    refine rv_sipush (q := 64) E.x dX12_cut_61 rv_ks320 rfl ?_
    refine rv_iload_n (q := 65) E.x dX12_cut_64 rfl rfl ?_
    refine rv_iadd (q := 66) E.x dX12_cut_65 rfl ?_
    refine rv_dup2 (q := 67) E.x dX12_cut_66 rfl rfl rfl ?_
    refine rR_iald (q := 68) (n := 328) E (Nat.le_of_ble_eq_true rfl) rfl rfl dX12_cut_67 rfl ?_
    refine rv_iconst (q := 69) E.x dX12_cut_68 rv_ki1 rfl ?_
    refine rv_isub (q := 70) E.x dX12_cut_69 rfl ?_
    refine rR_iast (q := 71) (n := 328) E (Nat.le_of_ble_eq_true rfl) rfl rfl dX12_cut_70 rfl ?_
    refine rv_ltm (fun M4 => ?_)
    refine rv_iload_n (q := 72) E.x dX12_cut_71 rfl rfl ?_
    refine rv_iload_n (q := 73) E.x dX12_cut_72 rfl rfl ?_
    refine rv_iadd (q := 74) E.x dX12_cut_73 rfl ?_
    refine rv_istore (q := 76) (lv' := [_, _, _, _, _, _]) E.x dX12_cut_74 (Nat.le_of_ble_eq_true rfl) rfl rfl rfl ?_
    refine rv_wk [true, true, false, true, true, true] ?_
    exact b12_cut_76 E rv_FU M4 x1 (10 * (320 + x1)) (M3 4 (((10 * (320 + x1)) + x2)).toNatClampNeg) ((10 * (320 + x1)) + x2)
set_option maxRecDepth 100000 in
theorem b12_cut_25 {p : Program} {l : Launch} {e : Env} {s : State} {m : MethodId} {args : Array Value} {below : List Frame} {meth : Method} {c : Code} {D : va_G} {cI cZ : ClassId} {ad : Nat → Nat} (E : rR_E D cI cZ ad cX12_cut 6 (some .int) p s m args meth c)   : ∀ (M : rv_Mem) (x1 : Int32) (x2 : Int32), rv_M (rR_G D cI cZ ad) (rR_A ad) p l e rm12_cut s m args below meth c 0 0 (rR_qIW D cI cZ ad below args s) (f12_cut_25 M x1 x2) 25 [some (.ref (ad 67)), some (.int x1), some (.int x2), none, none, none] [.ref (ad 67)] M := by
  intro M x1 x2
  unfold f12_cut_25
  refine rv_iconst (q := 26) E.x dX12_cut_25 rv_ki1 rfl ?_
  refine rv_goto (q := 30) E.x dX12_cut_26 (by decide) ?_
  refine rv_wk [true, true, true, false, false, false] ?_
  exact b12_cut_30 E M x1 x2 true
set_option maxRecDepth 100000 in
theorem b12_cut {p : Program} {l : Launch} {e : Env} {s : State} {m : MethodId} {args : Array Value} {below : List Frame} {meth : Method} {c : Code} {D : va_G} {cI cZ : ClassId} {ad : Nat → Nat} (E : rR_E D cI cZ ad cX12_cut 6 (some .int) p s m args meth c) (M : rv_Mem) (a1 : Int32) (a2 : Int32) : rv_M (rR_G D cI cZ ad) (rR_A ad) p l e rm12_cut s m args below meth c 0 0  (rR_qIW D cI cZ ad below args s) (f12_cut M a1 a2) 0 [some (.ref (ad 67)), some (.int a1), some (.int a2), none, none, none] [] M := by
  unfold f12_cut
  refine rv_aload_n (q := 1) E.x dX12_cut_0 rfl rfl ?_
  refine rv_iload_n (q := 2) E.x dX12_cut_1 rfl rfl ?_
  refine rv_b1 (fun r2 e1 => ?_)
  refine rR_calls (q := 5) E (c12_isFile e1) gX12_isFile hX12_isFile ⟨rfl, rfl⟩ ⟨Nat.le_of_ble_eq_true rfl, Nat.le_of_ble_eq_true rfl⟩ rfl rfl rfl (Nat.le_of_ble_eq_true rfl) dX12_cut_2 rfl ?_
  refine rv_ifz_eq (q := 8) (tgt := 25) E.x dX12_cut_5 (by decide) rfl ?_ ?_
  · refine rv_iload_n (q := 9) E.x dX12_cut_8 rfl rfl ?_
    refine rv_iconst (q := 10) E.x dX12_cut_9 rv_ki0 rfl ?_
    refine rv_aload_n (q := 11) E.x dX12_cut_10 rfl rfl ?_
    refine rv_bipush (q := 13) E.x dX12_cut_11 rv_kb80 rfl ?_
    refine rv_iload_n (q := 14) E.x dX12_cut_13 rfl rfl ?_
    refine rv_b1 (fun r4 e3 => ?_)
    refine rR_calli (q := 17) E (c12_sizeOf E.2.2.1 e3) gX12_sizeOf hX12_sizeOf ⟨rfl, rfl⟩ ⟨Nat.le_of_ble_eq_true rfl, Nat.le_of_ble_eq_true rfl⟩ rfl rfl rfl (Nat.le_of_ble_eq_true rfl) dX12_cut_14 rfl ?_
    refine rv_iconst (q := 18) E.x dX12_cut_17 rv_ki1 rfl ?_
    refine rv_isub (q := 19) E.x dX12_cut_18 rfl ?_
    refine rv_b1 (fun r6 e5 => ?_)
    refine rR_calls (q := 22) E (c12_isIn e5) gX12_isIn hX12_isIn ⟨rfl, rfl⟩ ⟨Nat.le_of_ble_eq_true rfl, Nat.le_of_ble_eq_true rfl⟩ rfl rfl rfl (Nat.le_of_ble_eq_true rfl) dX12_cut_19 rfl ?_
    refine rv_ifz_ne (q := 25) (tgt := 29) E.x dX12_cut_22 (by decide) rfl ?_ ?_
    · refine rv_wk [true, true, true, false, false, false] ?_
      exact b12_cut_25 E M a1 a2
    · refine rv_iconst (q := 30) E.x dX12_cut_29 rv_ki0 rfl ?_
      refine rv_wk [true, true, true, false, false, false] ?_
      exact b12_cut_30 E M a1 a2 false
  · refine rv_wk [true, true, true, false, false, false] ?_
    exact b12_cut_25 E M a1 a2
theorem c12_cut {l : Launch} {D : va_G} {cI cZ : ClassId} {ad : Nat → Nat} (hI : rR_I ad) {M : rv_Mem} {a1 : Int32} {a2 : Int32} {r : Int32} {M1 : rv_Mem} (h : f12_cut M a1 a2 = some (r, M1)) : Met l yX12_cut (rv_ws yX12_cut cX12_cut 6 (some .int)) rm12_cut (rR_Pc D cI cZ ad [.ref (ad 67), .int a1, .int a2] M) (rR_QI D cI cZ ad r M1) 0 0 (rR_A ad) := rR_met hI rfl (rv_cat rfl) (Nat.le_of_ble_eq_true rfl) (fun p e s m args below meth c E => ⟨(rR_qIW D cI cZ ad below args s), rfl, b12_cut E M a1 a2⟩) h
abbrev rm12_commits : Room := { frames := 0, cells := 0, slots := 0, locals := 0 }
set_option maxRecDepth 100000 in
theorem b12_commits {p : Program} {l : Launch} {e : Env} {s : State} {m : MethodId} {args : Array Value} {below : List Frame} {meth : Method} {c : Code} {D : va_G} {cI cZ : ClassId} {ad : Nat → Nat} (E : rR_E D cI cZ ad cX12_commits 1 (some .int) p s m args meth c) (M : rv_Mem)  : rv_M (rR_G D cI cZ ad) (rR_A ad) p l e rm12_commits s m args below meth c 0 0  (rR_qIW D cI cZ ad below args s) (f12_commits M) 0 [some (.ref (ad 67))] [] M := by
  unfold f12_commits
  refine rv_aload_n (q := 1) E.x dX12_commits_0 rfl rfl ?_
  refine rv_iconst (q := 2) E.x dX12_commits_1 rv_ki0 rfl ?_
  refine rR_put (q := 5) E 66 wf12_66 rfl (Nat.le_of_ble_eq_true rfl) rfl rfl rfl dX12_commits_2 rfl ?_
  refine rv_ltm (fun M1 => ?_)
  refine rv_aload_n (q := 6) E.x dX12_commits_5 rfl rfl ?_
  refine rR_get (q := 9) E 0 wf12_0 rfl (Nat.le_of_ble_eq_true rfl) rfl dX12_commits_6 rfl ?_
  exact rR_iret E rfl dX12_commits_9
theorem c12_commits {l : Launch} {D : va_G} {cI cZ : ClassId} {ad : Nat → Nat} (hI : rR_I ad) {M : rv_Mem} {r : Int32} {M1 : rv_Mem} (h : f12_commits M = some (r, M1)) : Met l yX12_commits (rv_ws yX12_commits cX12_commits 1 (some .int)) rm12_commits (rR_Pc D cI cZ ad [.ref (ad 67)] M) (rR_QI D cI cZ ad r M1) 0 0 (rR_A ad) := rR_met hI rfl (rv_cat rfl) (Nat.le_of_ble_eq_true rfl) (fun p e s m args below meth c E => ⟨(rR_qIW D cI cZ ad below args s), rfl, b12_commits E M ⟩) h
abbrev rm12_line : Room := { frames := 2, cells := 0, slots := 0, locals := 43 }
set_option maxRecDepth 100000 in
theorem b12_line_61 {p : Program} {l : Launch} {e : Env} {s : State} {m : MethodId} {args : Array Value} {below : List Frame} {meth : Method} {c : Code} {D : va_G} {cI cZ : ClassId} {ad : Nat → Nat} (E : rR_E D cI cZ ad cX12_line 6 (some .int) p s m args meth c)   : ∀ (M : rv_Mem) (x2 : Int32) (x3 : Int32) (s0 : Int32), rv_M (rR_G D cI cZ ad) (rR_A ad) p l e rm12_line s m args below meth c 0 0 (rR_qIW D cI cZ ad below args s) (f12_line_61 M x2 x3 s0) 61 [some (.ref (ad 67)), none, some (.int x2), some (.int x3), none, none] [.int s0] M := by
  intro M x2 x3 s0
  unfold f12_line_61
  refine rv_istore (q := 63) (lv' := [_, _, _, _, _, _]) E.x dX12_line_61 (Nat.le_of_ble_eq_true rfl) rfl rfl rfl ?_
  refine rv_iload_n (q := 64) E.x dX12_line_63 rfl rfl ?_
  refine rv_aload_n (q := 65) E.x dX12_line_64 rfl rfl ?_
  refine rv_iload (q := 67) E.x dX12_line_65 rfl rfl ?_
  refine rv_iload_n (q := 68) E.x dX12_line_67 rfl rfl ?_
  refine rv_b1 (fun r2 e1 => ?_)
  refine rR_calli (q := 71) E (c12_sizeOf E.2.2.1 e1) gX12_sizeOf hX12_sizeOf ⟨rfl, rfl⟩ ⟨Nat.le_of_ble_eq_true rfl, Nat.le_of_ble_eq_true rfl⟩ rfl rfl rfl (Nat.le_of_ble_eq_true rfl) dX12_line_68 rfl ?_
  refine rv_icmp_ge (q := 74) (tgt := 85) E.x dX12_line_71 (by decide) rfl ?_ ?_
  · refine rv_aload_n (q := 75) E.x dX12_line_74 rfl rfl ?_
    refine rv_iload (q := 77) E.x dX12_line_75 rfl rfl ?_
    refine rv_iload_n (q := 78) E.x dX12_line_77 rfl rfl ?_
    refine rv_iload_n (q := 79) E.x dX12_line_78 rfl rfl ?_
    refine rv_b1 (fun r4 e3 => ?_)
    refine rR_calli (q := 82) E (c12_lineAt E.2.2.1 e3) gX12_lineAt hX12_lineAt ⟨rfl, rfl⟩ ⟨Nat.le_of_ble_eq_true rfl, Nat.le_of_ble_eq_true rfl⟩ rfl rfl rfl (Nat.le_of_ble_eq_true rfl) dX12_line_79 rfl ?_
    refine rv_goto (q := 86) E.x dX12_line_82 (by decide) ?_
    exact rR_iret E rfl dX12_line_86
  · refine rv_iconst (q := 86) E.x dX12_line_85 rv_kim1 rfl ?_
    exact rR_iret E rfl dX12_line_86
set_option maxRecDepth 100000 in
theorem b12_line_42 {p : Program} {l : Launch} {e : Env} {s : State} {m : MethodId} {args : Array Value} {below : List Frame} {meth : Method} {c : Code} {D : va_G} {cI cZ : ClassId} {ad : Nat → Nat} (E : rR_E D cI cZ ad cX12_line 6 (some .int) p s m args meth c)   : ∀ (M : rv_Mem) (x1 : Int32) (x2 : Int32) (x3 : Int32) (s1 : Bool), rv_M (rR_G D cI cZ ad) (rR_A ad) p l e rm12_line s m args below meth c 0 0 (rR_qIW D cI cZ ad below args s) (f12_line_42 M x1 x2 x3 s1) 42 [some (.ref (ad 67)), some (.int x1), some (.int x2), some (.int x3), none, none] [.int (rv_i s1), .ref (ad 67)] M := by
  intro M x1 x2 x3 s1
  unfold f12_line_42
  refine rv_b2 (fun r2 M3 e1 => ?_)
  refine rR_calli (q := 45) E (c12_goes E.2.2.1 e1) gX12_goes hX12_goes ⟨rfl, rfl⟩ ⟨Nat.le_of_ble_eq_true rfl, Nat.le_of_ble_eq_true rfl⟩ rfl rfl rfl (Nat.le_of_ble_eq_true rfl) dX12_line_42 rfl ?_
  refine rv_ifz_ne (q := 48) (tgt := 50) E.x dX12_line_45 (by decide) rfl ?_ ?_
  · refine rv_iconst (q := 49) E.x dX12_line_48 rv_ki0 rfl ?_
    exact rR_iret E rfl dX12_line_49
  · refine rv_iload_n (q := 51) E.x dX12_line_50 rfl rfl ?_
    refine rv_iconst (q := 52) E.x dX12_line_51 rv_kim1 rfl ?_
    refine rv_icmp_ne (q := 55) (tgt := 60) E.x dX12_line_52 (by decide) rfl ?_ ?_
    · refine rv_bipush (q := 57) E.x dX12_line_55 rv_kb80 rfl ?_
      refine rv_goto (q := 61) E.x dX12_line_57 (by decide) ?_
      refine rv_wk [true, false, true, true, false, false] ?_
      exact b12_line_61 E M3 x2 x3 80
    · refine rv_iload_n (q := 61) E.x dX12_line_60 rfl rfl ?_
      refine rv_wk [true, false, true, true, false, false] ?_
      exact b12_line_61 E M3 x2 x3 x1
set_option maxRecDepth 100000 in
theorem b12_line_29 {p : Program} {l : Launch} {e : Env} {s : State} {m : MethodId} {args : Array Value} {below : List Frame} {meth : Method} {c : Code} {D : va_G} {cI cZ : ClassId} {ad : Nat → Nat} (E : rR_E D cI cZ ad cX12_line 6 (some .int) p s m args meth c)   : ∀ (M : rv_Mem) (x1 : Int32) (x2 : Int32) (x3 : Int32) (s0 : Bool), rv_M (rR_G D cI cZ ad) (rR_A ad) p l e rm12_line s m args below meth c 0 0 (rR_qIW D cI cZ ad below args s) (f12_line_29 M x1 x2 x3 s0) 29 [some (.ref (ad 67)), some (.int x1), some (.int x2), some (.int x3), none, none] [.int (rv_i s0)] M := by
  intro M x1 x2 x3 s0
  unfold f12_line_29
  refine rv_istore (q := 31) (lv' := [_, _, _, _, _, _]) E.x dX12_line_29 (Nat.le_of_ble_eq_true rfl) rfl rfl rfl ?_
  refine rv_aload_n (q := 32) E.x dX12_line_31 rfl rfl ?_
  refine rv_iload (q := 34) E.x dX12_line_32 rfl rfl ?_
  refine rv_ifz_eq (q := 37) (tgt := 41) E.x dX12_line_34 (by decide) rfl ?_ ?_
  · refine rv_iconst (q := 38) E.x dX12_line_37 rv_ki0 rfl ?_
    refine rv_goto (q := 42) E.x dX12_line_38 (by decide) ?_
    refine rv_wk [true, true, true, true, false, false] ?_
    exact b12_line_42 E M x1 x2 x3 false
  · refine rv_iconst (q := 42) E.x dX12_line_41 rv_ki1 rfl ?_
    refine rv_wk [true, true, true, true, false, false] ?_
    exact b12_line_42 E M x1 x2 x3 true
set_option maxRecDepth 100000 in
theorem b12_line_28 {p : Program} {l : Launch} {e : Env} {s : State} {m : MethodId} {args : Array Value} {below : List Frame} {meth : Method} {c : Code} {D : va_G} {cI cZ : ClassId} {ad : Nat → Nat} (E : rR_E D cI cZ ad cX12_line 6 (some .int) p s m args meth c)   : ∀ (M : rv_Mem) (x1 : Int32) (x2 : Int32) (x3 : Int32), rv_M (rR_G D cI cZ ad) (rR_A ad) p l e rm12_line s m args below meth c 0 0 (rR_qIW D cI cZ ad below args s) (f12_line_28 M x1 x2 x3) 28 [some (.ref (ad 67)), some (.int x1), some (.int x2), some (.int x3), none, none] [] M := by
  intro M x1 x2 x3
  unfold f12_line_28
  refine rv_iconst (q := 29) E.x dX12_line_28 rv_ki0 rfl ?_
  refine rv_wk [true, true, true, true, false, false] ?_
  exact b12_line_29 E M x1 x2 x3 false
set_option maxRecDepth 100000 in
theorem b12_line_13 {p : Program} {l : Launch} {e : Env} {s : State} {m : MethodId} {args : Array Value} {below : List Frame} {meth : Method} {c : Code} {D : va_G} {cI cZ : ClassId} {ad : Nat → Nat} (E : rR_E D cI cZ ad cX12_line 6 (some .int) p s m args meth c)   : ∀ (M : rv_Mem) (x1 : Int32) (x2 : Int32) (x3 : Int32), rv_M (rR_G D cI cZ ad) (rR_A ad) p l e rm12_line s m args below meth c 0 0 (rR_qIW D cI cZ ad below args s) (f12_line_13 M x1 x2 x3) 13 [some (.ref (ad 67)), some (.int x1), some (.int x2), some (.int x3), none, none] [] M := by
  intro M x1 x2 x3
  unfold f12_line_13
  refine rv_iload_n (q := 14) E.x dX12_line_13 rfl rfl ?_
  refine rv_b1 (fun r2 e1 => ?_)
  refine rR_calls (q := 17) E (c12_isFile e1) gX12_isFile hX12_isFile ⟨rfl, rfl⟩ ⟨Nat.le_of_ble_eq_true rfl, Nat.le_of_ble_eq_true rfl⟩ rfl rfl rfl (Nat.le_of_ble_eq_true rfl) dX12_line_14 rfl ?_
  refine rv_ifz_eq (q := 20) (tgt := 28) E.x dX12_line_17 (by decide) rfl ?_ ?_
  · refine rv_iload_n (q := 21) E.x dX12_line_20 rfl rfl ?_
    refine rv_if_lt (q := 24) (tgt := 28) E.x dX12_line_21 (by decide) rfl ?_ ?_
    · refine rv_iconst (q := 25) E.x dX12_line_24 rv_ki1 rfl ?_
      refine rv_goto (q := 29) E.x dX12_line_25 (by decide) ?_
      refine rv_wk [true, true, true, true, false, false] ?_
      exact b12_line_29 E M x1 x2 x3 true
    · refine rv_wk [true, true, true, true, false, false] ?_
      exact b12_line_28 E M x1 x2 x3
  · refine rv_wk [true, true, true, true, false, false] ?_
    exact b12_line_28 E M x1 x2 x3
set_option maxRecDepth 100000 in
theorem b12_line {p : Program} {l : Launch} {e : Env} {s : State} {m : MethodId} {args : Array Value} {below : List Frame} {meth : Method} {c : Code} {D : va_G} {cI cZ : ClassId} {ad : Nat → Nat} (E : rR_E D cI cZ ad cX12_line 6 (some .int) p s m args meth c) (M : rv_Mem) (a1 : Int32) (a2 : Int32) (a3 : Int32) : rv_M (rR_G D cI cZ ad) (rR_A ad) p l e rm12_line s m args below meth c 0 0  (rR_qIW D cI cZ ad below args s) (f12_line M a1 a2 a3) 0 [some (.ref (ad 67)), some (.int a1), some (.int a2), some (.int a3), none, none] [] M := by
  unfold f12_line
  refine rv_iload_n (q := 1) E.x dX12_line_0 rfl rfl ?_
  refine rv_iconst (q := 2) E.x dX12_line_1 rv_kim1 rfl ?_
  refine rv_icmp_eq (q := 5) (tgt := 13) E.x dX12_line_2 (by decide) rfl ?_ ?_
  · refine rv_aload_n (q := 6) E.x dX12_line_5 rfl rfl ?_
    refine rv_iload_n (q := 7) E.x dX12_line_6 rfl rfl ?_
    refine rv_b1 (fun r2 e1 => ?_)
    refine rR_calli (q := 10) E (c12_isCommit E.2.2.1 e1) gX12_isCommit hX12_isCommit ⟨rfl, rfl⟩ ⟨Nat.le_of_ble_eq_true rfl, Nat.le_of_ble_eq_true rfl⟩ rfl rfl rfl (Nat.le_of_ble_eq_true rfl) dX12_line_7 rfl ?_
    refine rv_ifz_eq (q := 13) (tgt := 28) E.x dX12_line_10 (by decide) rfl ?_ ?_
    · refine rv_wk [true, true, true, true, false, false] ?_
      exact b12_line_13 E M a1 a2 a3
    · refine rv_wk [true, true, true, true, false, false] ?_
      exact b12_line_28 E M a1 a2 a3
  · refine rv_wk [true, true, true, true, false, false] ?_
    exact b12_line_13 E M a1 a2 a3
theorem c12_line {l : Launch} {D : va_G} {cI cZ : ClassId} {ad : Nat → Nat} (hI : rR_I ad) {M : rv_Mem} {a1 : Int32} {a2 : Int32} {a3 : Int32} {r : Int32} {M1 : rv_Mem} (h : f12_line M a1 a2 a3 = some (r, M1)) : Met l yX12_line (rv_ws yX12_line cX12_line 6 (some .int)) rm12_line (rR_Pc D cI cZ ad [.ref (ad 67), .int a1, .int a2, .int a3] M) (rR_QI D cI cZ ad r M1) 0 0 (rR_A ad) := rR_met hI rfl (rv_cat rfl) (Nat.le_of_ble_eq_true rfl) (fun p e s m args below meth c E => ⟨(rR_qIW D cI cZ ad below args s), rfl, b12_line E M a1 a2 a3⟩) h
abbrev rm12_before : Room := { frames := 2, cells := 0, slots := 0, locals := 43 }
set_option maxRecDepth 100000 in
theorem b12_before_40 {p : Program} {l : Launch} {e : Env} {s : State} {m : MethodId} {args : Array Value} {below : List Frame} {meth : Method} {c : Code} {D : va_G} {cI cZ : ClassId} {ad : Nat → Nat} (E : rR_E D cI cZ ad cX12_before 2 (some .int) p s m args meth c)   : ∀ (M : rv_Mem) (s1 : Int32), rv_M (rR_G D cI cZ ad) (rR_A ad) p l e rm12_before s m args below meth c 0 0 (rR_qIW D cI cZ ad below args s) (f12_before_40 M s1) 40 [some (.ref (ad 67)), none] [.int s1, .ref (ad 2)] M := by
  intro M s1
  unfold f12_before_40
  refine rR_iald (q := 41) (n := 82) E (Nat.le_of_ble_eq_true rfl) rfl rfl dX12_before_40 rfl ?_
  refine rv_goto (q := 45) E.x dX12_before_41 (by decide) ?_
  exact rR_iret E rfl dX12_before_45
set_option maxRecDepth 100000 in
theorem b12_before_19 {p : Program} {l : Launch} {e : Env} {s : State} {m : MethodId} {args : Array Value} {below : List Frame} {meth : Method} {c : Code} {D : va_G} {cI cZ : ClassId} {ad : Nat → Nat} (E : rR_E D cI cZ ad cX12_before 2 (some .int) p s m args meth c)   : ∀ (M : rv_Mem) (x1 : Int32) (s1 : Bool), rv_M (rR_G D cI cZ ad) (rR_A ad) p l e rm12_before s m args below meth c 0 0 (rR_qIW D cI cZ ad below args s) (f12_before_19 M x1 s1) 19 [some (.ref (ad 67)), some (.int x1)] [.int (rv_i s1), .ref (ad 67)] M := by
  intro M x1 s1
  unfold f12_before_19
  refine rv_b2 (fun r2 M3 e1 => ?_)
  refine rR_calli (q := 22) E (c12_goes E.2.2.1 e1) gX12_goes hX12_goes ⟨rfl, rfl⟩ ⟨Nat.le_of_ble_eq_true rfl, Nat.le_of_ble_eq_true rfl⟩ rfl rfl rfl (Nat.le_of_ble_eq_true rfl) dX12_before_19 rfl ?_
  refine rv_ifz_eq (q := 25) (tgt := 44) E.x dX12_before_22 (by decide) rfl ?_ ?_
  · refine rv_aload_n (q := 26) E.x dX12_before_25 rfl rfl ?_
    refine rR_get (q := 29) E 2 wf12_2 rfl (Nat.le_of_ble_eq_true rfl) rfl dX12_before_26 rfl ?_
    refine rv_iload_n (q := 30) E.x dX12_before_29 rfl rfl ?_
    refine rv_iconst (q := 31) E.x dX12_before_30 rv_kim1 rfl ?_
    refine rv_icmp_ne (q := 34) (tgt := 39) E.x dX12_before_31 (by decide) rfl ?_ ?_
    · refine rv_bipush (q := 36) E.x dX12_before_34 rv_kb80 rfl ?_
      refine rv_goto (q := 40) E.x dX12_before_36 (by decide) ?_
      refine rv_wk [true, false] ?_
      exact b12_before_40 E M3 80
    · refine rv_iload_n (q := 40) E.x dX12_before_39 rfl rfl ?_
      refine rv_wk [true, false] ?_
      exact b12_before_40 E M3 x1
  · refine rv_iconst (q := 45) E.x dX12_before_44 rv_ki0 rfl ?_
    exact rR_iret E rfl dX12_before_45
set_option maxRecDepth 100000 in
theorem b12_before_14 {p : Program} {l : Launch} {e : Env} {s : State} {m : MethodId} {args : Array Value} {below : List Frame} {meth : Method} {c : Code} {D : va_G} {cI cZ : ClassId} {ad : Nat → Nat} (E : rR_E D cI cZ ad cX12_before 2 (some .int) p s m args meth c)   : ∀ (M : rv_Mem) (x1 : Int32), rv_M (rR_G D cI cZ ad) (rR_A ad) p l e rm12_before s m args below meth c 0 0 (rR_qIW D cI cZ ad below args s) (f12_before_14 M x1) 14 [some (.ref (ad 67)), some (.int x1)] [.ref (ad 67)] M := by
  intro M x1
  unfold f12_before_14
  refine rv_iconst (q := 15) E.x dX12_before_14 rv_ki0 rfl ?_
  refine rv_goto (q := 19) E.x dX12_before_15 (by decide) ?_
  refine rv_wk [true, true] ?_
  exact b12_before_19 E M x1 false
set_option maxRecDepth 100000 in
theorem b12_before {p : Program} {l : Launch} {e : Env} {s : State} {m : MethodId} {args : Array Value} {below : List Frame} {meth : Method} {c : Code} {D : va_G} {cI cZ : ClassId} {ad : Nat → Nat} (E : rR_E D cI cZ ad cX12_before 2 (some .int) p s m args meth c) (M : rv_Mem) (a1 : Int32) : rv_M (rR_G D cI cZ ad) (rR_A ad) p l e rm12_before s m args below meth c 0 0  (rR_qIW D cI cZ ad below args s) (f12_before M a1) 0 [some (.ref (ad 67)), some (.int a1)] [] M := by
  unfold f12_before
  refine rv_aload_n (q := 1) E.x dX12_before_0 rfl rfl ?_
  refine rv_iload_n (q := 2) E.x dX12_before_1 rfl rfl ?_
  refine rv_iconst (q := 3) E.x dX12_before_2 rv_kim1 rfl ?_
  refine rv_icmp_eq (q := 6) (tgt := 14) E.x dX12_before_3 (by decide) rfl ?_ ?_
  · refine rv_aload_n (q := 7) E.x dX12_before_6 rfl rfl ?_
    refine rv_iload_n (q := 8) E.x dX12_before_7 rfl rfl ?_
    refine rv_b1 (fun r2 e1 => ?_)
    refine rR_calli (q := 11) E (c12_isCommit E.2.2.1 e1) gX12_isCommit hX12_isCommit ⟨rfl, rfl⟩ ⟨Nat.le_of_ble_eq_true rfl, Nat.le_of_ble_eq_true rfl⟩ rfl rfl rfl (Nat.le_of_ble_eq_true rfl) dX12_before_8 rfl ?_
    refine rv_ifz_eq (q := 14) (tgt := 18) E.x dX12_before_11 (by decide) rfl ?_ ?_
    · refine rv_wk [true, true] ?_
      exact b12_before_14 E M a1
    · refine rv_iconst (q := 19) E.x dX12_before_18 rv_ki1 rfl ?_
      refine rv_wk [true, true] ?_
      exact b12_before_19 E M a1 true
  · refine rv_wk [true, true] ?_
    exact b12_before_14 E M a1
theorem c12_before {l : Launch} {D : va_G} {cI cZ : ClassId} {ad : Nat → Nat} (hI : rR_I ad) {M : rv_Mem} {a1 : Int32} {r : Int32} {M1 : rv_Mem} (h : f12_before M a1 = some (r, M1)) : Met l yX12_before (rv_ws yX12_before cX12_before 2 (some .int)) rm12_before (rR_Pc D cI cZ ad [.ref (ad 67), .int a1] M) (rR_QI D cI cZ ad r M1) 0 0 (rR_A ad) := rR_met hI rfl (rv_cat rfl) (Nat.le_of_ble_eq_true rfl) (fun p e s m args below meth c E => ⟨(rR_qIW D cI cZ ad below args s), rfl, b12_before E M a1⟩) h
abbrev rm12_tip : Room := { frames := 2, cells := 0, slots := 0, locals := 42 }
set_option maxRecDepth 100000 in
theorem b12_tip_13 {p : Program} {l : Launch} {e : Env} {s : State} {m : MethodId} {args : Array Value} {below : List Frame} {meth : Method} {c : Code} {D : va_G} {cI cZ : ClassId} {ad : Nat → Nat} (E : rR_E D cI cZ ad cX12_tip 2 (some .int) p s m args meth c)   : ∀ (M : rv_Mem) (x1 : Int32) (s1 : Bool), rv_M (rR_G D cI cZ ad) (rR_A ad) p l e rm12_tip s m args below meth c 0 0 (rR_qIW D cI cZ ad below args s) (f12_tip_13 M x1 s1) 13 [some (.ref (ad 67)), some (.int x1)] [.int (rv_i s1), .ref (ad 67)] M := by
  intro M x1 s1
  unfold f12_tip_13
  refine rv_b2 (fun r2 M3 e1 => ?_)
  refine rR_calli (q := 16) E (c12_goes E.2.2.1 e1) gX12_goes hX12_goes ⟨rfl, rfl⟩ ⟨Nat.le_of_ble_eq_true rfl, Nat.le_of_ble_eq_true rfl⟩ rfl rfl rfl (Nat.le_of_ble_eq_true rfl) dX12_tip_13 rfl ?_
  refine rv_ifz_eq (q := 19) (tgt := 28) E.x dX12_tip_16 (by decide) rfl ?_ ?_
  · refine rv_aload_n (q := 20) E.x dX12_tip_19 rfl rfl ?_
    refine rR_get (q := 23) E 9 wf12_9 rfl (Nat.le_of_ble_eq_true rfl) rfl dX12_tip_20 rfl ?_
    refine rv_iload_n (q := 24) E.x dX12_tip_23 rfl rfl ?_
    refine rR_iald (q := 25) (n := 2) E (Nat.le_of_ble_eq_true rfl) rfl rfl dX12_tip_24 rfl ?_
    refine rv_goto (q := 29) E.x dX12_tip_25 (by decide) ?_
    exact rR_iret E rfl dX12_tip_29
  · refine rv_iconst (q := 29) E.x dX12_tip_28 rv_ki0 rfl ?_
    exact rR_iret E rfl dX12_tip_29
set_option maxRecDepth 100000 in
theorem b12_tip {p : Program} {l : Launch} {e : Env} {s : State} {m : MethodId} {args : Array Value} {below : List Frame} {meth : Method} {c : Code} {D : va_G} {cI cZ : ClassId} {ad : Nat → Nat} (E : rR_E D cI cZ ad cX12_tip 2 (some .int) p s m args meth c) (M : rv_Mem) (a1 : Int32) : rv_M (rR_G D cI cZ ad) (rR_A ad) p l e rm12_tip s m args below meth c 0 0  (rR_qIW D cI cZ ad below args s) (f12_tip M a1) 0 [some (.ref (ad 67)), some (.int a1)] [] M := by
  unfold f12_tip
  refine rv_aload_n (q := 1) E.x dX12_tip_0 rfl rfl ?_
  refine rv_iload_n (q := 2) E.x dX12_tip_1 rfl rfl ?_
  refine rv_b1 (fun r2 e1 => ?_)
  refine rR_calls (q := 5) E (c12_isRepository e1) gX12_isRepository hX12_isRepository ⟨rfl, rfl⟩ ⟨Nat.le_of_ble_eq_true rfl, Nat.le_of_ble_eq_true rfl⟩ rfl rfl rfl (Nat.le_of_ble_eq_true rfl) dX12_tip_2 rfl ?_
  refine rv_ifz_eq (q := 8) (tgt := 12) E.x dX12_tip_5 (by decide) rfl ?_ ?_
  · refine rv_iconst (q := 9) E.x dX12_tip_8 rv_ki0 rfl ?_
    refine rv_goto (q := 13) E.x dX12_tip_9 (by decide) ?_
    refine rv_wk [true, true] ?_
    exact b12_tip_13 E M a1 false
  · refine rv_iconst (q := 13) E.x dX12_tip_12 rv_ki1 rfl ?_
    refine rv_wk [true, true] ?_
    exact b12_tip_13 E M a1 true
theorem c12_tip {l : Launch} {D : va_G} {cI cZ : ClassId} {ad : Nat → Nat} (hI : rR_I ad) {M : rv_Mem} {a1 : Int32} {r : Int32} {M1 : rv_Mem} (h : f12_tip M a1 = some (r, M1)) : Met l yX12_tip (rv_ws yX12_tip cX12_tip 2 (some .int)) rm12_tip (rR_Pc D cI cZ ad [.ref (ad 67), .int a1] M) (rR_QI D cI cZ ad r M1) 0 0 (rR_A ad) := rR_met hI rfl (rv_cat rfl) (Nat.le_of_ble_eq_true rfl) (fun p e s m args below meth c E => ⟨(rR_qIW D cI cZ ad below args s), rfl, b12_tip E M a1⟩) h
abbrev rm12_namedAfter : Room := { frames := 2, cells := 0, slots := 0, locals := 43 }
set_option maxRecDepth 100000 in
theorem b12_namedAfter_14 {p : Program} {l : Launch} {e : Env} {s : State} {m : MethodId} {args : Array Value} {below : List Frame} {meth : Method} {c : Code} {D : va_G} {cI cZ : ClassId} {ad : Nat → Nat} (E : rR_E D cI cZ ad cX12_namedAfter 2 (some .int) p s m args meth c)   : ∀ (M : rv_Mem) (x1 : Int32) (s1 : Bool), rv_M (rR_G D cI cZ ad) (rR_A ad) p l e rm12_namedAfter s m args below meth c 0 0 (rR_qIW D cI cZ ad below args s) (f12_namedAfter_14 M x1 s1) 14 [some (.ref (ad 67)), some (.int x1)] [.int (rv_i s1), .ref (ad 67)] M := by
  intro M x1 s1
  unfold f12_namedAfter_14
  refine rv_b2 (fun r2 M3 e1 => ?_)
  refine rR_calli (q := 17) E (c12_goes E.2.2.1 e1) gX12_goes hX12_goes ⟨rfl, rfl⟩ ⟨Nat.le_of_ble_eq_true rfl, Nat.le_of_ble_eq_true rfl⟩ rfl rfl rfl (Nat.le_of_ble_eq_true rfl) dX12_namedAfter_14 rfl ?_
  refine rv_ifz_eq (q := 20) (tgt := 29) E.x dX12_namedAfter_17 (by decide) rfl ?_ ?_
  · refine rv_aload_n (q := 21) E.x dX12_namedAfter_20 rfl rfl ?_
    refine rR_get (q := 24) E 8 wf12_8 rfl (Nat.le_of_ble_eq_true rfl) rfl dX12_namedAfter_21 rfl ?_
    refine rv_iload_n (q := 25) E.x dX12_namedAfter_24 rfl rfl ?_
    refine rR_iald (q := 26) (n := 82) E (Nat.le_of_ble_eq_true rfl) rfl rfl dX12_namedAfter_25 rfl ?_
    refine rv_goto (q := 30) E.x dX12_namedAfter_26 (by decide) ?_
    exact rR_iret E rfl dX12_namedAfter_30
  · refine rv_iconst (q := 30) E.x dX12_namedAfter_29 rv_ki0 rfl ?_
    exact rR_iret E rfl dX12_namedAfter_30
set_option maxRecDepth 100000 in
theorem b12_namedAfter {p : Program} {l : Launch} {e : Env} {s : State} {m : MethodId} {args : Array Value} {below : List Frame} {meth : Method} {c : Code} {D : va_G} {cI cZ : ClassId} {ad : Nat → Nat} (E : rR_E D cI cZ ad cX12_namedAfter 2 (some .int) p s m args meth c) (M : rv_Mem) (a1 : Int32) : rv_M (rR_G D cI cZ ad) (rR_A ad) p l e rm12_namedAfter s m args below meth c 0 0  (rR_qIW D cI cZ ad below args s) (f12_namedAfter M a1) 0 [some (.ref (ad 67)), some (.int a1)] [] M := by
  unfold f12_namedAfter
  refine rv_aload_n (q := 1) E.x dX12_namedAfter_0 rfl rfl ?_
  refine rv_aload_n (q := 2) E.x dX12_namedAfter_1 rfl rfl ?_
  refine rv_iload_n (q := 3) E.x dX12_namedAfter_2 rfl rfl ?_
  refine rv_b1 (fun r2 e1 => ?_)
  refine rR_calli (q := 6) E (c12_isCommit E.2.2.1 e1) gX12_isCommit hX12_isCommit ⟨rfl, rfl⟩ ⟨Nat.le_of_ble_eq_true rfl, Nat.le_of_ble_eq_true rfl⟩ rfl rfl rfl (Nat.le_of_ble_eq_true rfl) dX12_namedAfter_3 rfl ?_
  refine rv_ifz_eq (q := 9) (tgt := 13) E.x dX12_namedAfter_6 (by decide) rfl ?_ ?_
  · refine rv_iconst (q := 10) E.x dX12_namedAfter_9 rv_ki0 rfl ?_
    refine rv_goto (q := 14) E.x dX12_namedAfter_10 (by decide) ?_
    refine rv_wk [true, true] ?_
    exact b12_namedAfter_14 E M a1 false
  · refine rv_iconst (q := 14) E.x dX12_namedAfter_13 rv_ki1 rfl ?_
    refine rv_wk [true, true] ?_
    exact b12_namedAfter_14 E M a1 true
theorem c12_namedAfter {l : Launch} {D : va_G} {cI cZ : ClassId} {ad : Nat → Nat} (hI : rR_I ad) {M : rv_Mem} {a1 : Int32} {r : Int32} {M1 : rv_Mem} (h : f12_namedAfter M a1 = some (r, M1)) : Met l yX12_namedAfter (rv_ws yX12_namedAfter cX12_namedAfter 2 (some .int)) rm12_namedAfter (rR_Pc D cI cZ ad [.ref (ad 67), .int a1] M) (rR_QI D cI cZ ad r M1) 0 0 (rR_A ad) := rR_met hI rfl (rv_cat rfl) (Nat.le_of_ble_eq_true rfl) (fun p e s m args below meth c E => ⟨(rR_qIW D cI cZ ad below args s), rfl, b12_namedAfter E M a1⟩) h
abbrev rm12_uploads : Room := { frames := 9, cells := 0, slots := 0, locals := 236 }
set_option maxRecDepth 100000 in
theorem b12_uploads {p : Program} {l : Launch} {e : Env} {s : State} {m : MethodId} {args : Array Value} {below : List Frame} {meth : Method} {c : Code} {D : va_G} {cI cZ : ClassId} {ad : Nat → Nat} (E : rR_E D cI cZ ad cX12_uploads 6 (some .int) p s m args meth c) (M : rv_Mem) (a1 : Int32) (a2 : Int32) (a3 : Int32) (a4 : Int32) : rv_M (rR_G D cI cZ ad) (rR_A ad) p l e rm12_uploads s m args below meth c 0 0  (rR_qIW D cI cZ ad below args s) (f12_uploads M a1 a2 a3 a4) 0 [some (.ref (ad 67)), some (.int a1), some (.int a2), some (.int a3), some (.int a4), none] [] M := by
  unfold f12_uploads
  refine rv_aload_n (q := 1) E.x dX12_uploads_0 rfl rfl ?_
  refine rv_iload_n (q := 2) E.x dX12_uploads_1 rfl rfl ?_
  refine rv_bipush (q := 4) E.x dX12_uploads_2 rv_kb81 rfl ?_
  refine rv_b1 (fun M2 e1 => ?_)
  refine rR_callv (q := 7) E (c12_copies E.2.2.1 e1) gX12_copies hX12_copies ⟨rfl, rfl⟩ ⟨Nat.le_of_ble_eq_true rfl, Nat.le_of_ble_eq_true rfl⟩ rfl rfl rfl (Nat.le_of_ble_eq_true rfl) dX12_uploads_4 rfl ?_
  refine rv_aload_n (q := 8) E.x dX12_uploads_7 rfl rfl ?_
  refine rv_aload_n (q := 9) E.x dX12_uploads_8 rfl rfl ?_
  refine rR_get (q := 12) E 1 wf12_1 rfl (Nat.le_of_ble_eq_true rfl) rfl dX12_uploads_9 rfl ?_
  refine rv_iload (q := 14) E.x dX12_uploads_12 rfl rfl ?_
  refine rR_iald (q := 15) (n := 82) E (Nat.le_of_ble_eq_true rfl) rfl rfl dX12_uploads_14 rfl ?_
  refine rv_iload (q := 17) E.x dX12_uploads_15 rfl rfl ?_
  refine rv_b2 (fun r4 M5 e3 => ?_)
  refine rR_calli (q := 20) E (c12_makes E.2.2.1 e3) gX12_makes hX12_makes ⟨rfl, rfl⟩ ⟨Nat.le_of_ble_eq_true rfl, Nat.le_of_ble_eq_true rfl⟩ rfl rfl rfl (Nat.le_of_ble_eq_true rfl) dX12_uploads_17 rfl ?_
  refine rv_istore (q := 22) (lv' := [_, _, _, _, _, _]) E.x dX12_uploads_20 (Nat.le_of_ble_eq_true rfl) rfl rfl rfl ?_
  refine rv_aload_n (q := 23) E.x dX12_uploads_22 rfl rfl ?_
  refine rR_get (q := 26) E 5 wf12_5 rfl (Nat.le_of_ble_eq_true rfl) rfl dX12_uploads_23 rfl ?_
  refine rv_iload (q := 28) E.x dX12_uploads_26 rfl rfl ?_
  refine rv_iload_n (q := 29) E.x dX12_uploads_28 rfl rfl ?_
  refine rR_iast (q := 30) (n := 82) E (Nat.le_of_ble_eq_true rfl) rfl rfl dX12_uploads_29 rfl ?_
  refine rv_ltm (fun M6 => ?_)
  refine rv_aload_n (q := 31) E.x dX12_uploads_30 rfl rfl ?_
  refine rR_get (q := 34) E 6 wf12_6 rfl (Nat.le_of_ble_eq_true rfl) rfl dX12_uploads_31 rfl ?_
  refine rv_iload (q := 36) E.x dX12_uploads_34 rfl rfl ?_
  refine rv_aload_n (q := 37) E.x dX12_uploads_36 rfl rfl ?_
  refine rR_get (q := 40) E 14 wf12_14 rfl (Nat.le_of_ble_eq_true rfl) rfl dX12_uploads_37 rfl ?_
  refine rv_iload_n (q := 41) E.x dX12_uploads_40 rfl rfl ?_
  refine rR_iald (q := 42) (n := 20) E (Nat.le_of_ble_eq_true rfl) rfl rfl dX12_uploads_41 rfl ?_
  refine rR_iast (q := 43) (n := 82) E (Nat.le_of_ble_eq_true rfl) rfl rfl dX12_uploads_42 rfl ?_
  refine rv_ltm (fun M7 => ?_)
  refine rv_aload_n (q := 44) E.x dX12_uploads_43 rfl rfl ?_
  refine rR_get (q := 47) E 7 wf12_7 rfl (Nat.le_of_ble_eq_true rfl) rfl dX12_uploads_44 rfl ?_
  refine rv_iload (q := 49) E.x dX12_uploads_47 rfl rfl ?_
  refine rv_iload_n (q := 50) E.x dX12_uploads_49 rfl rfl ?_
  refine rR_iast (q := 51) (n := 82) E (Nat.le_of_ble_eq_true rfl) rfl rfl dX12_uploads_50 rfl ?_
  refine rv_ltm (fun M8 => ?_)
  refine rv_aload_n (q := 52) E.x dX12_uploads_51 rfl rfl ?_
  refine rR_get (q := 55) E 14 wf12_14 rfl (Nat.le_of_ble_eq_true rfl) rfl dX12_uploads_52 rfl ?_
  refine rv_iload_n (q := 56) E.x dX12_uploads_55 rfl rfl ?_
  refine rv_dup2 (q := 57) E.x dX12_uploads_56 rfl rfl rfl ?_
  refine rR_iald (q := 58) (n := 20) E (Nat.le_of_ble_eq_true rfl) rfl rfl dX12_uploads_57 rfl ?_
  refine rv_iconst (q := 59) E.x dX12_uploads_58 rv_ki1 rfl ?_
  refine rv_iadd (q := 60) E.x dX12_uploads_59 rfl ?_
  refine rR_iast (q := 61) (n := 20) E (Nat.le_of_ble_eq_true rfl) rfl rfl dX12_uploads_60 rfl ?_
  refine rv_ltm (fun M9 => ?_)
  refine rv_aload_n (q := 62) E.x dX12_uploads_61 rfl rfl ?_
  refine rv_iload_n (q := 63) E.x dX12_uploads_62 rfl rfl ?_
  refine rv_iload_n (q := 64) E.x dX12_uploads_63 rfl rfl ?_
  refine rv_b1 (fun M11 e10 => ?_)
  refine rR_callv (q := 67) E (c12_tells E.2.2.1 e10) gX12_tells hX12_tells ⟨rfl, rfl⟩ ⟨Nat.le_of_ble_eq_true rfl, Nat.le_of_ble_eq_true rfl⟩ rfl rfl rfl (Nat.le_of_ble_eq_true rfl) dX12_uploads_64 rfl ?_
  refine rv_aload_n (q := 68) E.x dX12_uploads_67 rfl rfl ?_
  refine rv_iload_n (q := 69) E.x dX12_uploads_68 rfl rfl ?_
  refine rv_iload_n (q := 70) E.x dX12_uploads_69 rfl rfl ?_
  refine rv_iconst (q := 71) E.x dX12_uploads_70 rv_ki0 rfl ?_
  refine rv_b1 (fun M13 e12 => ?_)
  refine rR_callv (q := 74) E (c12_turnsOn E.2.2.1 e12) gX12_turnsOn hX12_turnsOn ⟨rfl, rfl⟩ ⟨Nat.le_of_ble_eq_true rfl, Nat.le_of_ble_eq_true rfl⟩ rfl rfl rfl (Nat.le_of_ble_eq_true rfl) dX12_uploads_71 rfl ?_
  refine rv_aload_n (q := 75) E.x dX12_uploads_74 rfl rfl ?_
  refine rR_get (q := 78) E 14 wf12_14 rfl (Nat.le_of_ble_eq_true rfl) rfl dX12_uploads_75 rfl ?_
  refine rv_iload_n (q := 79) E.x dX12_uploads_78 rfl rfl ?_
  refine rR_iald (q := 80) (n := 20) E (Nat.le_of_ble_eq_true rfl) rfl rfl dX12_uploads_79 rfl ?_
  refine rv_iconst (q := 81) E.x dX12_uploads_80 rv_ki1 rfl ?_
  refine rv_isub (q := 82) E.x dX12_uploads_81 rfl ?_
  exact rR_iret E rfl dX12_uploads_82
theorem c12_uploads {l : Launch} {D : va_G} {cI cZ : ClassId} {ad : Nat → Nat} (hI : rR_I ad) {M : rv_Mem} {a1 : Int32} {a2 : Int32} {a3 : Int32} {a4 : Int32} {r : Int32} {M1 : rv_Mem} (h : f12_uploads M a1 a2 a3 a4 = some (r, M1)) : Met l yX12_uploads (rv_ws yX12_uploads cX12_uploads 6 (some .int)) rm12_uploads (rR_Pc D cI cZ ad [.ref (ad 67), .int a1, .int a2, .int a3, .int a4] M) (rR_QI D cI cZ ad r M1) 0 0 (rR_A ad) := rR_met hI rfl (rv_cat rfl) (Nat.le_of_ble_eq_true rfl) (fun p e s m args below meth c E => ⟨(rR_qIW D cI cZ ad below args s), rfl, b12_uploads E M a1 a2 a3 a4⟩) h
abbrev rm12_open : Room := { frames := 10, cells := 0, slots := 0, locals := 261 }
set_option maxRecDepth 100000 in
theorem b12_open_35 {p : Program} {l : Launch} {e : Env} {s : State} {m : MethodId} {args : Array Value} {below : List Frame} {meth : Method} {c : Code} {D : va_G} {cI cZ : ClassId} {ad : Nat → Nat} (E : rR_E D cI cZ ad cX12_open 3 (some .int) p s m args meth c)   : ∀ (M : rv_Mem) (x1 : Int32) (s1 : Int32), rv_M (rR_G D cI cZ ad) (rR_A ad) p l e rm12_open s m args below meth c 0 0 (rR_qIW D cI cZ ad below args s) (f12_open_35 M x1 s1) 35 [some (.ref (ad 67)), some (.int x1), none] [.int s1, .ref (ad 67)] M := by
  intro M x1 s1
  unfold f12_open_35
  refine rv_b2 (fun r2 M3 e1 => ?_)
  refine rR_calli (q := 38) E (c12_goes E.2.2.1 e1) gX12_goes hX12_goes ⟨rfl, rfl⟩ ⟨Nat.le_of_ble_eq_true rfl, Nat.le_of_ble_eq_true rfl⟩ rfl rfl rfl (Nat.le_of_ble_eq_true rfl) dX12_open_35 rfl ?_
  refine rv_ifz_ne (q := 41) (tgt := 43) E.x dX12_open_38 (by decide) rfl ?_ ?_
  · refine rv_iconst (q := 42) E.x dX12_open_41 rv_ki0 rfl ?_
    exact rR_iret E rfl dX12_open_42
  · refine rv_aload_n (q := 44) E.x dX12_open_43 rfl rfl ?_
    refine rR_get (q := 47) E 12 wf12_12 rfl (Nat.le_of_ble_eq_true rfl) rfl dX12_open_44 rfl ?_
    refine rv_aload_n (q := 48) E.x dX12_open_47 rfl rfl ?_
    refine rR_get (q := 51) E 11 wf12_11 rfl (Nat.le_of_ble_eq_true rfl) rfl dX12_open_48 rfl ?_
    refine rv_iload_n (q := 52) E.x dX12_open_51 rfl rfl ?_
    refine rR_iast (q := 53) (n := 20) E (Nat.le_of_ble_eq_true rfl) rfl rfl dX12_open_52 rfl ?_
    refine rv_ltm (fun M4 => ?_)
    refine rv_aload_n (q := 54) E.x dX12_open_53 rfl rfl ?_
    refine rR_get (q := 57) E 13 wf12_13 rfl (Nat.le_of_ble_eq_true rfl) rfl dX12_open_54 rfl ?_
    refine rv_aload_n (q := 58) E.x dX12_open_57 rfl rfl ?_
    refine rR_get (q := 61) E 11 wf12_11 rfl (Nat.le_of_ble_eq_true rfl) rfl dX12_open_58 rfl ?_
    refine rv_iconst (q := 62) E.x dX12_open_61 rv_ki0 rfl ?_
    refine rR_iast (q := 63) (n := 20) E (Nat.le_of_ble_eq_true rfl) rfl rfl dX12_open_62 rfl ?_
    refine rv_ltm (fun M5 => ?_)
    refine rv_aload_n (q := 64) E.x dX12_open_63 rfl rfl ?_
    refine rR_get (q := 67) E 14 wf12_14 rfl (Nat.le_of_ble_eq_true rfl) rfl dX12_open_64 rfl ?_
    refine rv_aload_n (q := 68) E.x dX12_open_67 rfl rfl ?_
    refine rR_get (q := 71) E 11 wf12_11 rfl (Nat.le_of_ble_eq_true rfl) rfl dX12_open_68 rfl ?_
    refine rv_iconst (q := 72) E.x dX12_open_71 rv_ki0 rfl ?_
    refine rR_iast (q := 73) (n := 20) E (Nat.le_of_ble_eq_true rfl) rfl rfl dX12_open_72 rfl ?_
    refine rv_ltm (fun M6 => ?_)
    refine rv_aload_n (q := 74) E.x dX12_open_73 rfl rfl ?_
    refine rR_get (q := 77) E 17 wf12_17 rfl (Nat.le_of_ble_eq_true rfl) rfl dX12_open_74 rfl ?_
    refine rv_aload_n (q := 78) E.x dX12_open_77 rfl rfl ?_
    refine rR_get (q := 81) E 11 wf12_11 rfl (Nat.le_of_ble_eq_true rfl) rfl dX12_open_78 rfl ?_
    refine rv_iconst (q := 82) E.x dX12_open_81 rv_kim1 rfl ?_
    refine rR_iast (q := 83) (n := 20) E (Nat.le_of_ble_eq_true rfl) rfl rfl dX12_open_82 rfl ?_
    refine rv_ltm (fun M7 => ?_)
    refine rv_aload_n (q := 84) E.x dX12_open_83 rfl rfl ?_
    refine rv_dup (q := 85) E.x dX12_open_84 rfl rfl ?_
    refine rR_get (q := 88) E 11 wf12_11 rfl (Nat.le_of_ble_eq_true rfl) rfl dX12_open_85 rfl ?_
    refine rv_iconst (q := 89) E.x dX12_open_88 rv_ki1 rfl ?_
    refine rv_iadd (q := 90) E.x dX12_open_89 rfl ?_
    refine rR_put (q := 93) E 11 wf12_11 rfl (Nat.le_of_ble_eq_true rfl) rfl rfl rfl dX12_open_90 rfl ?_
    refine rv_ltm (fun M8 => ?_)
    refine rv_aload_n (q := 94) E.x dX12_open_93 rfl rfl ?_
    refine rv_iload_n (q := 95) E.x dX12_open_94 rfl rfl ?_
    refine rv_aload_n (q := 96) E.x dX12_open_95 rfl rfl ?_
    refine rR_get (q := 99) E 11 wf12_11 rfl (Nat.le_of_ble_eq_true rfl) rfl dX12_open_96 rfl ?_
    refine rv_iconst (q := 100) E.x dX12_open_99 rv_ki1 rfl ?_
    refine rv_isub (q := 101) E.x dX12_open_100 rfl ?_
    refine rv_bipush (q := 103) E.x dX12_open_101 rv_kb80 rfl ?_
    refine rv_aload_n (q := 104) E.x dX12_open_103 rfl rfl ?_
    refine rR_get (q := 107) E 2 wf12_2 rfl (Nat.le_of_ble_eq_true rfl) rfl dX12_open_104 rfl ?_
    refine rv_bipush (q := 109) E.x dX12_open_107 rv_kb80 rfl ?_
    refine rR_iald (q := 110) (n := 82) E (Nat.le_of_ble_eq_true rfl) rfl rfl dX12_open_109 rfl ?_
    refine rv_b2 (fun r10 M11 e9 => ?_)
    refine rR_calli (q := 113) E (c12_uploads E.2.2.1 e9) gX12_uploads hX12_uploads ⟨rfl, rfl⟩ ⟨Nat.le_of_ble_eq_true rfl, Nat.le_of_ble_eq_true rfl⟩ rfl rfl rfl (Nat.le_of_ble_eq_true rfl) dX12_open_110 rfl ?_
    refine rv_istore_n (q := 114) (lv' := [_, _, _]) E.x dX12_open_113 (Nat.le_of_ble_eq_true rfl) rfl rfl rfl ?_
    refine rv_aload_n (q := 115) E.x dX12_open_114 rfl rfl ?_
    refine rR_get (q := 118) E 11 wf12_11 rfl (Nat.le_of_ble_eq_true rfl) rfl dX12_open_115 rfl ?_
    refine rv_iconst (q := 119) E.x dX12_open_118 rv_ki1 rfl ?_
    refine rv_isub (q := 120) E.x dX12_open_119 rfl ?_
    exact rR_iret E rfl dX12_open_120
set_option maxRecDepth 100000 in
theorem b12_open_30 {p : Program} {l : Launch} {e : Env} {s : State} {m : MethodId} {args : Array Value} {below : List Frame} {meth : Method} {c : Code} {D : va_G} {cI cZ : ClassId} {ad : Nat → Nat} (E : rR_E D cI cZ ad cX12_open 3 (some .int) p s m args meth c)   : ∀ (M : rv_Mem) (x1 : Int32), rv_M (rR_G D cI cZ ad) (rR_A ad) p l e rm12_open s m args below meth c 0 0 (rR_qIW D cI cZ ad below args s) (f12_open_30 M x1) 30 [some (.ref (ad 67)), some (.int x1), none] [.ref (ad 67)] M := by
  intro M x1
  unfold f12_open_30
  refine rv_iconst (q := 31) E.x dX12_open_30 rv_ki2 rfl ?_
  refine rv_goto (q := 35) E.x dX12_open_31 (by decide) ?_
  refine rv_wk [true, true, false] ?_
  exact b12_open_35 E M x1 2
set_option maxRecDepth 100000 in
theorem b12_open {p : Program} {l : Launch} {e : Env} {s : State} {m : MethodId} {args : Array Value} {below : List Frame} {meth : Method} {c : Code} {D : va_G} {cI cZ : ClassId} {ad : Nat → Nat} (E : rR_E D cI cZ ad cX12_open 3 (some .int) p s m args meth c) (M : rv_Mem) (a1 : Int32) : rv_M (rR_G D cI cZ ad) (rR_A ad) p l e rm12_open s m args below meth c 0 0  (rR_qIW D cI cZ ad below args s) (f12_open M a1) 0 [some (.ref (ad 67)), some (.int a1), none] [] M := by
  unfold f12_open
  refine rv_aload_n (q := 1) E.x dX12_open_0 rfl rfl ?_
  refine rv_iload_n (q := 2) E.x dX12_open_1 rfl rfl ?_
  refine rv_b1 (fun r2 e1 => ?_)
  refine rR_calls (q := 5) E (c12_isPerson e1) gX12_isPerson hX12_isPerson ⟨rfl, rfl⟩ ⟨Nat.le_of_ble_eq_true rfl, Nat.le_of_ble_eq_true rfl⟩ rfl rfl rfl (Nat.le_of_ble_eq_true rfl) dX12_open_2 rfl ?_
  refine rv_ifz_ne (q := 8) (tgt := 12) E.x dX12_open_5 (by decide) rfl ?_ ?_
  · refine rv_iconst (q := 9) E.x dX12_open_8 rv_ki1 rfl ?_
    refine rv_goto (q := 35) E.x dX12_open_9 (by decide) ?_
    refine rv_wk [true, true, false] ?_
    exact b12_open_35 E M a1 1
  · refine rv_aload_n (q := 13) E.x dX12_open_12 rfl rfl ?_
    refine rR_get (q := 16) E 11 wf12_11 rfl (Nat.le_of_ble_eq_true rfl) rfl dX12_open_13 rfl ?_
    refine rv_bipush (q := 18) E.x dX12_open_16 rv_kb20 rfl ?_
    refine rv_icmp_eq (q := 21) (tgt := 30) E.x dX12_open_18 (by decide) rfl ?_ ?_
    · refine rv_aload_n (q := 22) E.x dX12_open_21 rfl rfl ?_
      refine rR_get (q := 25) E 0 wf12_0 rfl (Nat.le_of_ble_eq_true rfl) rfl dX12_open_22 rfl ?_
      refine rv_bipush (q := 27) E.x dX12_open_25 rv_kb80 rfl ?_
      refine rv_icmp_ne (q := 30) (tgt := 34) E.x dX12_open_27 (by decide) rfl ?_ ?_
      · refine rv_wk [true, true, false] ?_
        exact b12_open_30 E M a1
      · refine rv_iconst (q := 35) E.x dX12_open_34 rv_ki0 rfl ?_
        refine rv_wk [true, true, false] ?_
        exact b12_open_35 E M a1 0
    · refine rv_wk [true, true, false] ?_
      exact b12_open_30 E M a1
theorem c12_open {l : Launch} {D : va_G} {cI cZ : ClassId} {ad : Nat → Nat} (hI : rR_I ad) {M : rv_Mem} {a1 : Int32} {r : Int32} {M1 : rv_Mem} (h : f12_open M a1 = some (r, M1)) : Met l yX12_open (rv_ws yX12_open cX12_open 3 (some .int)) rm12_open (rR_Pc D cI cZ ad [.ref (ad 67), .int a1] M) (rR_QI D cI cZ ad r M1) 0 0 (rR_A ad) := rR_met hI rfl (rv_cat rfl) (Nat.le_of_ble_eq_true rfl) (fun p e s m args below meth c E => ⟨(rR_qIW D cI cZ ad below args s), rfl, b12_open E M a1⟩) h
abbrev rm12_isAbove : Room := { frames := 3, cells := 0, slots := 0, locals := 67 }
set_option maxRecDepth 100000 in
theorem b12_isAbove_30 {p : Program} {l : Launch} {e : Env} {s : State} {m : MethodId} {args : Array Value} {below : List Frame} {meth : Method} {c : Code} {D : va_G} {cI cZ : ClassId} {ad : Nat → Nat} (E : rR_E D cI cZ ad cX12_isAbove 5 (some .boolean) p s m args meth c) (M : rv_Mem) (k10 : Int32 → Int32 → Bool → Option (Bool)) (h10 : ∀ (x1 : Int32) (x3 : Int32) (x4 : Bool), rv_M (rR_G D cI cZ ad) (rR_A ad) p l e rm12_isAbove s m args below meth c 0 0 (rR_qZ D cI cZ ad below args s M) (k10 x1 x3 x4) 10 [some (.ref (ad 67)), some (.int x1), none, some (.int x3), some (.int (rv_i x4))] [] M) : ∀ (x1 : Int32) (x3 : Int32) (s0 : Bool), rv_M (rR_G D cI cZ ad) (rR_A ad) p l e rm12_isAbove s m args below meth c 0 0 (rR_qZ D cI cZ ad below args s M) (f12_isAbove_30 M k10 x1 x3 s0) 30 [some (.ref (ad 67)), some (.int x1), none, some (.int x3), none] [.int (rv_i s0)] M := by
  intro x1 x3 s0
  unfold f12_isAbove_30
  refine rv_istore (q := 32) (lv' := [_, _, _, _, _]) E.x dX12_isAbove_30 (Nat.le_of_ble_eq_true rfl) rfl rfl rfl ?_
  refine rv_aload_n (q := 33) E.x dX12_isAbove_32 rfl rfl ?_
  refine rv_iload_n (q := 34) E.x dX12_isAbove_33 rfl rfl ?_
  refine rv_b1 (fun r2 e1 => ?_)
  refine rR_calli (q := 37) E (c12_parent E.2.2.1 e1) gX12_parent hX12_parent ⟨rfl, rfl⟩ ⟨Nat.le_of_ble_eq_true rfl, Nat.le_of_ble_eq_true rfl⟩ rfl rfl rfl (Nat.le_of_ble_eq_true rfl) dX12_isAbove_34 rfl ?_
  refine rv_istore_n (q := 38) (lv' := [_, _, _, _, _]) E.x dX12_isAbove_37 (Nat.le_of_ble_eq_true rfl) rfl rfl rfl ?_
  refine rv_goto (q := 10) E.x dX12_isAbove_38 (by decide) ?_
  refine rv_wk [true, true, false, true, true] ?_
  exact h10 x1 r2 s0
set_option maxRecDepth 100000 in
theorem b12_isAbove_10_s {p : Program} {l : Launch} {e : Env} {s : State} {m : MethodId} {args : Array Value} {below : List Frame} {meth : Method} {c : Code} {D : va_G} {cI cZ : ClassId} {ad : Nat → Nat} (E : rR_E D cI cZ ad cX12_isAbove 5 (some .boolean) p s m args meth c) (M : rv_Mem)   (k10 : Int32 → Int32 → Bool → Option (Bool)) (h10 : ∀ (x1 : Int32) (x3 : Int32) (x4 : Bool), rv_M (rR_G D cI cZ ad) (rR_A ad) p l e rm12_isAbove s m args below meth c 0 0 (rR_qZ D cI cZ ad below args s M) (k10 x1 x3 x4) 10 [some (.ref (ad 67)), some (.int x1), none, some (.int x3), some (.int (rv_i x4))] [] M) : ∀ (x1 : Int32) (x3 : Int32) (x4 : Bool), rv_M (rR_G D cI cZ ad) (rR_A ad) p l e rm12_isAbove s m args below meth c 0 0 (rR_qZ D cI cZ ad below args s M) (f12_isAbove_10_s M k10 x1 x3 x4) 10 [some (.ref (ad 67)), some (.int x1), none, some (.int x3), some (.int (rv_i x4))] [] M := by
  intro x1 x3 x4
  unfold f12_isAbove_10_s
  refine rv_iload_n (q := 11) E.x dX12_isAbove_10 rfl rfl ?_
  refine rv_iconst (q := 12) E.x dX12_isAbove_11 rv_kim1 rfl ?_
  refine rv_icmp_eq (q := 15) (tgt := 41) E.x dX12_isAbove_12 (by decide) rfl ?_ ?_
  · refine rv_iload (q := 17) E.x dX12_isAbove_15 rfl rfl ?_
    refine rv_ifz_ne (q := 20) (tgt := 41) E.x dX12_isAbove_17 (by decide) rfl ?_ ?_
    · refine rv_iload_n (q := 21) E.x dX12_isAbove_20 rfl rfl ?_
      refine rv_iload_n (q := 22) E.x dX12_isAbove_21 rfl rfl ?_
      refine rv_icmp_ne (q := 25) (tgt := 29) E.x dX12_isAbove_22 (by decide) rfl ?_ ?_
      · refine rv_iconst (q := 26) E.x dX12_isAbove_25 rv_ki1 rfl ?_
        refine rv_goto (q := 30) E.x dX12_isAbove_26 (by decide) ?_
        refine rv_wk [true, true, false, true, false] ?_
        exact b12_isAbove_30 E M k10 h10 x1 x3 true
      · refine rv_iconst (q := 30) E.x dX12_isAbove_29 rv_ki0 rfl ?_
        refine rv_wk [true, true, false, true, false] ?_
        exact b12_isAbove_30 E M k10 h10 x1 x3 false
    · refine rv_iload (q := 43) E.x dX12_isAbove_41 rfl rfl ?_
      exact rR_zret E x4 rfl dX12_isAbove_43
  · refine rv_iload (q := 43) E.x dX12_isAbove_41 rfl rfl ?_
    exact rR_zret E x4 rfl dX12_isAbove_43
theorem b12_isAbove_10 {p : Program} {l : Launch} {e : Env} {s : State} {m : MethodId} {args : Array Value} {below : List Frame} {meth : Method} {c : Code} {D : va_G} {cI cZ : ClassId} {ad : Nat → Nat} (E : rR_E D cI cZ ad cX12_isAbove 5 (some .boolean) p s m args meth c) (M : rv_Mem)   : ∀ (n : Nat), ∀ (x1 : Int32) (x3 : Int32) (x4 : Bool), rv_M (rR_G D cI cZ ad) (rR_A ad) p l e rm12_isAbove s m args below meth c 0 0 (rR_qZ D cI cZ ad below args s M) (f12_isAbove_10 M n x1 x3 x4) 10 [some (.ref (ad 67)), some (.int x1), none, some (.int x3), some (.int (rv_i x4))] [] M := by
  intro n
  induction n with
  | zero => exact fun _ _ _ => rv_stuck
  | succ n ih => exact b12_isAbove_10_s E M (f12_isAbove_10 M n) ih
set_option maxRecDepth 100000 in
theorem b12_isAbove {p : Program} {l : Launch} {e : Env} {s : State} {m : MethodId} {args : Array Value} {below : List Frame} {meth : Method} {c : Code} {D : va_G} {cI cZ : ClassId} {ad : Nat → Nat} (E : rR_E D cI cZ ad cX12_isAbove 5 (some .boolean) p s m args meth c) (M : rv_Mem) (a1 : Int32) (a2 : Int32) : rv_M (rR_G D cI cZ ad) (rR_A ad) p l e rm12_isAbove s m args below meth c 0 0  (rR_qZ D cI cZ ad below args s M) (f12_isAbove M a1 a2) 0 [some (.ref (ad 67)), some (.int a1), some (.int a2), none, none] [] M := by
  unfold f12_isAbove
  refine rv_aload_n (q := 1) E.x dX12_isAbove_0 rfl rfl ?_
  refine rR_get (q := 4) E 5 wf12_5 rfl (Nat.le_of_ble_eq_true rfl) rfl dX12_isAbove_1 rfl ?_
  refine rv_iload_n (q := 5) E.x dX12_isAbove_4 rfl rfl ?_
  refine rR_iald (q := 6) (n := 82) E (Nat.le_of_ble_eq_true rfl) rfl rfl dX12_isAbove_5 rfl ?_
  refine rv_istore_n (q := 7) (lv' := [_, _, _, _, _]) E.x dX12_isAbove_6 (Nat.le_of_ble_eq_true rfl) rfl rfl rfl ?_
  refine rv_iconst (q := 8) E.x dX12_isAbove_7 rv_ki0 rfl ?_
  refine rv_istore (q := 10) (lv' := [_, _, _, _, _]) E.x dX12_isAbove_8 (Nat.le_of_ble_eq_true rfl) rfl rfl rfl ?_
  refine rv_wk [true, true, false, true, true] ?_
  exact b12_isAbove_10 E M rv_FU a1 (M 5 (a2).toNatClampNeg) false
theorem c12_isAbove {l : Launch} {D : va_G} {cI cZ : ClassId} {ad : Nat → Nat} (hI : rR_I ad) {M : rv_Mem} {a1 : Int32} {a2 : Int32} {r : Bool} (h : f12_isAbove M a1 a2 = some r) : Met l yX12_isAbove (rv_ws yX12_isAbove cX12_isAbove 5 (some .boolean)) rm12_isAbove (rR_Pc D cI cZ ad [.ref (ad 67), .int a1, .int a2] M) (rR_QI D cI cZ ad (rv_i r) M) 0 0 (rR_A ad) := rR_met hI rfl (rv_cat rfl) (Nat.le_of_ble_eq_true rfl) (fun p e s m args below meth c E => ⟨(rR_qZ D cI cZ ad below args s M), rfl, b12_isAbove E M a1 a2⟩) h
abbrev rm12_wrong : Room := { frames := 2, cells := 0, slots := 0, locals := 43 }
set_option maxRecDepth 100000 in
theorem b12_wrong {p : Program} {l : Launch} {e : Env} {s : State} {m : MethodId} {args : Array Value} {below : List Frame} {meth : Method} {c : Code} {D : va_G} {cI cZ : ClassId} {ad : Nat → Nat} (E : rR_E D cI cZ ad cX12_wrong 3 (some .int) p s m args meth c) (M : rv_Mem) (a1 : Int32) (a2 : Int32) : rv_M (rR_G D cI cZ ad) (rR_A ad) p l e rm12_wrong s m args below meth c 0 0  (rR_qI D cI cZ ad below args s M) (f12_wrong M a1 a2) 0 [some (.ref (ad 67)), some (.int a1), some (.int a2)] [] M := by
  unfold f12_wrong
  refine rv_iload_n (q := 1) E.x dX12_wrong_0 rfl rfl ?_
  refine rv_b1 (fun r2 e1 => ?_)
  refine rR_calls (q := 4) E (c12_isPerson e1) gX12_isPerson hX12_isPerson ⟨rfl, rfl⟩ ⟨Nat.le_of_ble_eq_true rfl, Nat.le_of_ble_eq_true rfl⟩ rfl rfl rfl (Nat.le_of_ble_eq_true rfl) dX12_wrong_1 rfl ?_
  refine rv_ifz_eq (q := 7) (tgt := 19) E.x dX12_wrong_4 (by decide) rfl ?_ ?_
  · refine rv_aload_n (q := 8) E.x dX12_wrong_7 rfl rfl ?_
    refine rv_iload_n (q := 9) E.x dX12_wrong_8 rfl rfl ?_
    refine rv_b1 (fun r4 e3 => ?_)
    refine rR_calli (q := 12) E (c12_isChange E.2.2.1 e3) gX12_isChange hX12_isChange ⟨rfl, rfl⟩ ⟨Nat.le_of_ble_eq_true rfl, Nat.le_of_ble_eq_true rfl⟩ rfl rfl rfl (Nat.le_of_ble_eq_true rfl) dX12_wrong_9 rfl ?_
    refine rv_ifz_eq (q := 15) (tgt := 19) E.x dX12_wrong_12 (by decide) rfl ?_ ?_
    · refine rv_iconst (q := 16) E.x dX12_wrong_15 rv_ki0 rfl ?_
      refine rv_goto (q := 20) E.x dX12_wrong_16 (by decide) ?_
      exact rR_iret E rfl dX12_wrong_20
    · refine rv_iconst (q := 20) E.x dX12_wrong_19 rv_ki1 rfl ?_
      exact rR_iret E rfl dX12_wrong_20
  · refine rv_iconst (q := 20) E.x dX12_wrong_19 rv_ki1 rfl ?_
    exact rR_iret E rfl dX12_wrong_20
theorem c12_wrong {l : Launch} {D : va_G} {cI cZ : ClassId} {ad : Nat → Nat} (hI : rR_I ad) {M : rv_Mem} {a1 : Int32} {a2 : Int32} {r : Int32} (h : f12_wrong M a1 a2 = some r) : Met l yX12_wrong (rv_ws yX12_wrong cX12_wrong 3 (some .int)) rm12_wrong (rR_Pc D cI cZ ad [.ref (ad 67), .int a1, .int a2] M) (rR_QI D cI cZ ad r M) 0 0 (rR_A ad) := rR_met hI rfl (rv_cat rfl) (Nat.le_of_ble_eq_true rfl) (fun p e s m args below meth c E => ⟨(rR_qI D cI cZ ad below args s M), rfl, b12_wrong E M a1 a2⟩) h
abbrev rm12_isShut : Room := { frames := 2, cells := 0, slots := 0, locals := 47 }
set_option maxRecDepth 100000 in
theorem b12_isShut_18 {p : Program} {l : Launch} {e : Env} {s : State} {m : MethodId} {args : Array Value} {below : List Frame} {meth : Method} {c : Code} {D : va_G} {cI cZ : ClassId} {ad : Nat → Nat} (E : rR_E D cI cZ ad cX12_isShut 3 (some .boolean) p s m args meth c) (M : rv_Mem)   : rv_M (rR_G D cI cZ ad) (rR_A ad) p l e rm12_isShut s m args below meth c 0 0 (rR_qZ D cI cZ ad below args s M) (f12_isShut_18 M) 18 [some (.ref (ad 67)), none, none] [] M := by
  unfold f12_isShut_18
  refine rv_iconst (q := 19) E.x dX12_isShut_18 rv_ki1 rfl ?_
  refine rv_goto (q := 23) E.x dX12_isShut_19 (by decide) ?_
  exact rR_zret E true rfl dX12_isShut_23
set_option maxRecDepth 100000 in
theorem b12_isShut {p : Program} {l : Launch} {e : Env} {s : State} {m : MethodId} {args : Array Value} {below : List Frame} {meth : Method} {c : Code} {D : va_G} {cI cZ : ClassId} {ad : Nat → Nat} (E : rR_E D cI cZ ad cX12_isShut 3 (some .boolean) p s m args meth c) (M : rv_Mem) (a1 : Int32) (a2 : Int32) : rv_M (rR_G D cI cZ ad) (rR_A ad) p l e rm12_isShut s m args below meth c 0 0  (rR_qZ D cI cZ ad below args s M) (f12_isShut M a1 a2) 0 [some (.ref (ad 67)), some (.int a1), some (.int a2)] [] M := by
  unfold f12_isShut
  refine rv_aload_n (q := 1) E.x dX12_isShut_0 rfl rfl ?_
  refine rR_get (q := 4) E 13 wf12_13 rfl (Nat.le_of_ble_eq_true rfl) rfl dX12_isShut_1 rfl ?_
  refine rv_iload_n (q := 5) E.x dX12_isShut_4 rfl rfl ?_
  refine rR_iald (q := 6) (n := 20) E (Nat.le_of_ble_eq_true rfl) rfl rfl dX12_isShut_5 rfl ?_
  refine rv_if_ne (q := 9) (tgt := 18) E.x dX12_isShut_6 (by decide) rfl ?_ ?_
  · refine rv_aload_n (q := 10) E.x dX12_isShut_9 rfl rfl ?_
    refine rv_iload_n (q := 11) E.x dX12_isShut_10 rfl rfl ?_
    refine rv_iload_n (q := 12) E.x dX12_isShut_11 rfl rfl ?_
    refine rv_b1 (fun r2 e1 => ?_)
    refine rR_calli (q := 15) E (c12_canSee E.2.2.1 e1) gX12_canSee hX12_canSee ⟨rfl, rfl⟩ ⟨Nat.le_of_ble_eq_true rfl, Nat.le_of_ble_eq_true rfl⟩ rfl rfl rfl (Nat.le_of_ble_eq_true rfl) dX12_isShut_12 rfl ?_
    refine rv_ifz_ne (q := 18) (tgt := 22) E.x dX12_isShut_15 (by decide) rfl ?_ ?_
    · refine rv_wk [true, false, false] ?_
      exact b12_isShut_18 E M
    · refine rv_iconst (q := 23) E.x dX12_isShut_22 rv_ki0 rfl ?_
      exact rR_zret E false rfl dX12_isShut_23
  · refine rv_wk [true, false, false] ?_
    exact b12_isShut_18 E M
theorem c12_isShut {l : Launch} {D : va_G} {cI cZ : ClassId} {ad : Nat → Nat} (hI : rR_I ad) {M : rv_Mem} {a1 : Int32} {a2 : Int32} {r : Bool} (h : f12_isShut M a1 a2 = some r) : Met l yX12_isShut (rv_ws yX12_isShut cX12_isShut 3 (some .boolean)) rm12_isShut (rR_Pc D cI cZ ad [.ref (ad 67), .int a1, .int a2] M) (rR_QI D cI cZ ad (rv_i r) M) 0 0 (rR_A ad) := rR_met hI rfl (rv_cat rfl) (Nat.le_of_ble_eq_true rfl) (fun p e s m args below meth c E => ⟨(rR_qZ D cI cZ ad below args s M), rfl, b12_isShut E M a1 a2⟩) h
abbrev rm12_upload : Room := { frames := 10, cells := 0, slots := 0, locals := 261 }
set_option maxRecDepth 100000 in
theorem b12_upload_84 {p : Program} {l : Launch} {e : Env} {s : State} {m : MethodId} {args : Array Value} {below : List Frame} {meth : Method} {c : Code} {D : va_G} {cI cZ : ClassId} {ad : Nat → Nat} (E : rR_E D cI cZ ad cX12_upload 4 (some .int) p s m args meth c)   : ∀ (M : rv_Mem) (x1 : Int32) (x2 : Int32) (s1 : Int32), rv_M (rR_G D cI cZ ad) (rR_A ad) p l e rm12_upload s m args below meth c 0 0 (rR_qIW D cI cZ ad below args s) (f12_upload_84 M x1 x2 s1) 84 [some (.ref (ad 67)), some (.int x1), some (.int x2), none] [.int s1, .ref (ad 67)] M := by
  intro M x1 x2 s1
  unfold f12_upload_84
  refine rv_b2 (fun r2 M3 e1 => ?_)
  refine rR_calli (q := 87) E (c12_goes E.2.2.1 e1) gX12_goes hX12_goes ⟨rfl, rfl⟩ ⟨Nat.le_of_ble_eq_true rfl, Nat.le_of_ble_eq_true rfl⟩ rfl rfl rfl (Nat.le_of_ble_eq_true rfl) dX12_upload_84 rfl ?_
  refine rv_ifz_ne (q := 90) (tgt := 92) E.x dX12_upload_87 (by decide) rfl ?_ ?_
  · refine rv_iconst (q := 91) E.x dX12_upload_90 rv_ki0 rfl ?_
    exact rR_iret E rfl dX12_upload_91
  · refine rv_aload_n (q := 93) E.x dX12_upload_92 rfl rfl ?_
    refine rv_iload_n (q := 94) E.x dX12_upload_93 rfl rfl ?_
    refine rv_iload_n (q := 95) E.x dX12_upload_94 rfl rfl ?_
    refine rv_bipush (q := 97) E.x dX12_upload_95 rv_kb80 rfl ?_
    refine rv_aload_n (q := 98) E.x dX12_upload_97 rfl rfl ?_
    refine rR_get (q := 101) E 2 wf12_2 rfl (Nat.le_of_ble_eq_true rfl) rfl dX12_upload_98 rfl ?_
    refine rv_bipush (q := 103) E.x dX12_upload_101 rv_kb80 rfl ?_
    refine rR_iald (q := 104) (n := 82) E (Nat.le_of_ble_eq_true rfl) rfl rfl dX12_upload_103 rfl ?_
    refine rv_b2 (fun r5 M6 e4 => ?_)
    refine rR_calli (q := 107) E (c12_uploads E.2.2.1 e4) gX12_uploads hX12_uploads ⟨rfl, rfl⟩ ⟨Nat.le_of_ble_eq_true rfl, Nat.le_of_ble_eq_true rfl⟩ rfl rfl rfl (Nat.le_of_ble_eq_true rfl) dX12_upload_104 rfl ?_
    exact rR_iret E rfl dX12_upload_107
set_option maxRecDepth 100000 in
theorem b12_upload_79 {p : Program} {l : Launch} {e : Env} {s : State} {m : MethodId} {args : Array Value} {below : List Frame} {meth : Method} {c : Code} {D : va_G} {cI cZ : ClassId} {ad : Nat → Nat} (E : rR_E D cI cZ ad cX12_upload 4 (some .int) p s m args meth c)   : ∀ (M : rv_Mem) (x1 : Int32) (x2 : Int32), rv_M (rR_G D cI cZ ad) (rR_A ad) p l e rm12_upload s m args below meth c 0 0 (rR_qIW D cI cZ ad below args s) (f12_upload_79 M x1 x2) 79 [some (.ref (ad 67)), some (.int x1), some (.int x2), none] [.ref (ad 67)] M := by
  intro M x1 x2
  unfold f12_upload_79
  refine rv_iconst (q := 80) E.x dX12_upload_79 rv_ki2 rfl ?_
  refine rv_goto (q := 84) E.x dX12_upload_80 (by decide) ?_
  refine rv_wk [true, true, true, false] ?_
  exact b12_upload_84 E M x1 x2 2
set_option maxRecDepth 100000 in
theorem b12_upload_55 {p : Program} {l : Launch} {e : Env} {s : State} {m : MethodId} {args : Array Value} {below : List Frame} {meth : Method} {c : Code} {D : va_G} {cI cZ : ClassId} {ad : Nat → Nat} (E : rR_E D cI cZ ad cX12_upload 4 (some .int) p s m args meth c)   : ∀ (M : rv_Mem) (x1 : Int32) (x2 : Int32) (s0 : Bool), rv_M (rR_G D cI cZ ad) (rR_A ad) p l e rm12_upload s m args below meth c 0 0 (rR_qIW D cI cZ ad below args s) (f12_upload_55 M x1 x2 s0) 55 [some (.ref (ad 67)), some (.int x1), some (.int x2), none] [.int (rv_i s0)] M := by
  intro M x1 x2 s0
  unfold f12_upload_55
  refine rv_istore_n (q := 56) (lv' := [_, _, _, _]) E.x dX12_upload_55 (Nat.le_of_ble_eq_true rfl) rfl rfl rfl ?_
  refine rv_aload_n (q := 57) E.x dX12_upload_56 rfl rfl ?_
  refine rv_aload_n (q := 58) E.x dX12_upload_57 rfl rfl ?_
  refine rv_iload_n (q := 59) E.x dX12_upload_58 rfl rfl ?_
  refine rv_iload_n (q := 60) E.x dX12_upload_59 rfl rfl ?_
  refine rv_b1 (fun r2 e1 => ?_)
  refine rR_calli (q := 63) E (c12_isShut E.2.2.1 e1) gX12_isShut hX12_isShut ⟨rfl, rfl⟩ ⟨Nat.le_of_ble_eq_true rfl, Nat.le_of_ble_eq_true rfl⟩ rfl rfl rfl (Nat.le_of_ble_eq_true rfl) dX12_upload_60 rfl ?_
  refine rv_ifz_ne (q := 66) (tgt := 79) E.x dX12_upload_63 (by decide) rfl ?_ ?_
  · refine rv_iload_n (q := 67) E.x dX12_upload_66 rfl rfl ?_
    refine rv_ifz_ne (q := 70) (tgt := 79) E.x dX12_upload_67 (by decide) rfl ?_ ?_
    · refine rv_aload_n (q := 71) E.x dX12_upload_70 rfl rfl ?_
      refine rR_get (q := 74) E 0 wf12_0 rfl (Nat.le_of_ble_eq_true rfl) rfl dX12_upload_71 rfl ?_
      refine rv_bipush (q := 76) E.x dX12_upload_74 rv_kb80 rfl ?_
      refine rv_icmp_ne (q := 79) (tgt := 83) E.x dX12_upload_76 (by decide) rfl ?_ ?_
      · refine rv_wk [true, true, true, false] ?_
        exact b12_upload_79 E M x1 x2
      · refine rv_iconst (q := 84) E.x dX12_upload_83 rv_ki0 rfl ?_
        refine rv_wk [true, true, true, false] ?_
        exact b12_upload_84 E M x1 x2 0
    · refine rv_wk [true, true, true, false] ?_
      exact b12_upload_79 E M x1 x2
  · refine rv_wk [true, true, true, false] ?_
    exact b12_upload_79 E M x1 x2
set_option maxRecDepth 100000 in
theorem b12_upload_50 {p : Program} {l : Launch} {e : Env} {s : State} {m : MethodId} {args : Array Value} {below : List Frame} {meth : Method} {c : Code} {D : va_G} {cI cZ : ClassId} {ad : Nat → Nat} (E : rR_E D cI cZ ad cX12_upload 4 (some .int) p s m args meth c)   : ∀ (M : rv_Mem) (x1 : Int32) (x2 : Int32), rv_M (rR_G D cI cZ ad) (rR_A ad) p l e rm12_upload s m args below meth c 0 0 (rR_qIW D cI cZ ad below args s) (f12_upload_50 M x1 x2) 50 [some (.ref (ad 67)), some (.int x1), some (.int x2), none] [] M := by
  intro M x1 x2
  unfold f12_upload_50
  refine rv_iconst (q := 51) E.x dX12_upload_50 rv_ki1 rfl ?_
  refine rv_goto (q := 55) E.x dX12_upload_51 (by decide) ?_
  refine rv_wk [true, true, true, false] ?_
  exact b12_upload_55 E M x1 x2 true
set_option maxRecDepth 100000 in
theorem b12_upload {p : Program} {l : Launch} {e : Env} {s : State} {m : MethodId} {args : Array Value} {below : List Frame} {meth : Method} {c : Code} {D : va_G} {cI cZ : ClassId} {ad : Nat → Nat} (E : rR_E D cI cZ ad cX12_upload 4 (some .int) p s m args meth c) (M : rv_Mem) (a1 : Int32) (a2 : Int32) : rv_M (rR_G D cI cZ ad) (rR_A ad) p l e rm12_upload s m args below meth c 0 0  (rR_qIW D cI cZ ad below args s) (f12_upload M a1 a2) 0 [some (.ref (ad 67)), some (.int a1), some (.int a2), none] [] M := by
  unfold f12_upload
  refine rv_aload_n (q := 1) E.x dX12_upload_0 rfl rfl ?_
  refine rv_aload_n (q := 2) E.x dX12_upload_1 rfl rfl ?_
  refine rv_iload_n (q := 3) E.x dX12_upload_2 rfl rfl ?_
  refine rv_iload_n (q := 4) E.x dX12_upload_3 rfl rfl ?_
  refine rv_b1 (fun r2 e1 => ?_)
  refine rR_calli (q := 7) E (c12_wrong E.2.2.1 e1) gX12_wrong hX12_wrong ⟨rfl, rfl⟩ ⟨Nat.le_of_ble_eq_true rfl, Nat.le_of_ble_eq_true rfl⟩ rfl rfl rfl (Nat.le_of_ble_eq_true rfl) dX12_upload_4 rfl ?_
  refine rv_b2 (fun r4 M5 e3 => ?_)
  refine rR_calli (q := 10) E (c12_goes E.2.2.1 e3) gX12_goes hX12_goes ⟨rfl, rfl⟩ ⟨Nat.le_of_ble_eq_true rfl, Nat.le_of_ble_eq_true rfl⟩ rfl rfl rfl (Nat.le_of_ble_eq_true rfl) dX12_upload_7 rfl ?_
  refine rv_ifz_ne (q := 13) (tgt := 15) E.x dX12_upload_10 (by decide) rfl ?_ ?_
  · refine rv_iconst (q := 14) E.x dX12_upload_13 rv_ki0 rfl ?_
    exact rR_iret E rfl dX12_upload_14
  · refine rv_aload_n (q := 16) E.x dX12_upload_15 rfl rfl ?_
    refine rR_get (q := 19) E 1 wf12_1 rfl (Nat.le_of_ble_eq_true rfl) rfl dX12_upload_16 rfl ?_
    refine rv_aload_n (q := 20) E.x dX12_upload_19 rfl rfl ?_
    refine rR_get (q := 23) E 2 wf12_2 rfl (Nat.le_of_ble_eq_true rfl) rfl dX12_upload_20 rfl ?_
    refine rv_bipush (q := 25) E.x dX12_upload_23 rv_kb80 rfl ?_
    refine rR_iald (q := 26) (n := 82) E (Nat.le_of_ble_eq_true rfl) rfl rfl dX12_upload_25 rfl ?_
    refine rR_iald (q := 27) (n := 82) E (Nat.le_of_ble_eq_true rfl) rfl rfl dX12_upload_26 rfl ?_
    refine rv_aload_n (q := 28) E.x dX12_upload_27 rfl rfl ?_
    refine rv_iload_n (q := 29) E.x dX12_upload_28 rfl rfl ?_
    refine rv_b1 (fun r7 e6 => ?_)
    refine rR_calli (q := 32) E (c12_repoOf E.2.2.1 e6) gX12_repoOf hX12_repoOf ⟨rfl, rfl⟩ ⟨Nat.le_of_ble_eq_true rfl, Nat.le_of_ble_eq_true rfl⟩ rfl rfl rfl (Nat.le_of_ble_eq_true rfl) dX12_upload_29 rfl ?_
    refine rv_icmp_ne (q := 35) (tgt := 50) E.x dX12_upload_32 (by decide) rfl ?_ ?_
    · refine rv_aload_n (q := 36) E.x dX12_upload_35 rfl rfl ?_
      refine rv_iload_n (q := 37) E.x dX12_upload_36 rfl rfl ?_
      refine rv_aload_n (q := 38) E.x dX12_upload_37 rfl rfl ?_
      refine rR_get (q := 41) E 2 wf12_2 rfl (Nat.le_of_ble_eq_true rfl) rfl dX12_upload_38 rfl ?_
      refine rv_bipush (q := 43) E.x dX12_upload_41 rv_kb80 rfl ?_
      refine rR_iald (q := 44) (n := 82) E (Nat.le_of_ble_eq_true rfl) rfl rfl dX12_upload_43 rfl ?_
      refine rv_b1 (fun r9 e8 => ?_)
      refine rR_calli (q := 47) E (c12_isAbove E.2.2.1 e8) gX12_isAbove hX12_isAbove ⟨rfl, rfl⟩ ⟨Nat.le_of_ble_eq_true rfl, Nat.le_of_ble_eq_true rfl⟩ rfl rfl rfl (Nat.le_of_ble_eq_true rfl) dX12_upload_44 rfl ?_
      refine rv_ifz_eq (q := 50) (tgt := 54) E.x dX12_upload_47 (by decide) rfl ?_ ?_
      · refine rv_wk [true, true, true, false] ?_
        exact b12_upload_50 E M5 a1 a2
      · refine rv_iconst (q := 55) E.x dX12_upload_54 rv_ki0 rfl ?_
        refine rv_wk [true, true, true, false] ?_
        exact b12_upload_55 E M5 a1 a2 false
    · refine rv_wk [true, true, true, false] ?_
      exact b12_upload_50 E M5 a1 a2
theorem c12_upload {l : Launch} {D : va_G} {cI cZ : ClassId} {ad : Nat → Nat} (hI : rR_I ad) {M : rv_Mem} {a1 : Int32} {a2 : Int32} {r : Int32} {M1 : rv_Mem} (h : f12_upload M a1 a2 = some (r, M1)) : Met l yX12_upload (rv_ws yX12_upload cX12_upload 4 (some .int)) rm12_upload (rR_Pc D cI cZ ad [.ref (ad 67), .int a1, .int a2] M) (rR_QI D cI cZ ad r M1) 0 0 (rR_A ad) := rR_met hI rfl (rv_cat rfl) (Nat.le_of_ble_eq_true rfl) (fun p e s m args below meth c E => ⟨(rR_qIW D cI cZ ad below args s), rfl, b12_upload E M a1 a2⟩) h
abbrev rm12_newBase : Room := { frames := 3, cells := 0, slots := 0, locals := 67 }
set_option maxRecDepth 100000 in
theorem b12_newBase_21 {p : Program} {l : Launch} {e : Env} {s : State} {m : MethodId} {args : Array Value} {below : List Frame} {meth : Method} {c : Code} {D : va_G} {cI cZ : ClassId} {ad : Nat → Nat} (E : rR_E D cI cZ ad cX12_newBase 3 (some .int) p s m args meth c) (M : rv_Mem)   : ∀ (x1 : Int32), rv_M (rR_G D cI cZ ad) (rR_A ad) p l e rm12_newBase s m args below meth c 0 0 (rR_qI D cI cZ ad below args s M) (f12_newBase_21 M x1) 21 [some (.ref (ad 67)), some (.int x1), none] [] M := by
  intro x1
  unfold f12_newBase_21
  refine rv_aload_n (q := 22) E.x dX12_newBase_21 rfl rfl ?_
  refine rR_get (q := 25) E 9 wf12_9 rfl (Nat.le_of_ble_eq_true rfl) rfl dX12_newBase_22 rfl ?_
  refine rv_aload_n (q := 26) E.x dX12_newBase_25 rfl rfl ?_
  refine rv_iload_n (q := 27) E.x dX12_newBase_26 rfl rfl ?_
  refine rv_b1 (fun r2 e1 => ?_)
  refine rR_calli (q := 30) E (c12_repoOf E.2.2.1 e1) gX12_repoOf hX12_repoOf ⟨rfl, rfl⟩ ⟨Nat.le_of_ble_eq_true rfl, Nat.le_of_ble_eq_true rfl⟩ rfl rfl rfl (Nat.le_of_ble_eq_true rfl) dX12_newBase_27 rfl ?_
  refine rR_iald (q := 31) (n := 2) E (Nat.le_of_ble_eq_true rfl) rfl rfl dX12_newBase_30 rfl ?_
  exact rR_iret E rfl dX12_newBase_31
set_option maxRecDepth 100000 in
theorem b12_newBase {p : Program} {l : Launch} {e : Env} {s : State} {m : MethodId} {args : Array Value} {below : List Frame} {meth : Method} {c : Code} {D : va_G} {cI cZ : ClassId} {ad : Nat → Nat} (E : rR_E D cI cZ ad cX12_newBase 3 (some .int) p s m args meth c) (M : rv_Mem) (a1 : Int32) : rv_M (rR_G D cI cZ ad) (rR_A ad) p l e rm12_newBase s m args below meth c 0 0  (rR_qI D cI cZ ad below args s M) (f12_newBase M a1) 0 [some (.ref (ad 67)), some (.int a1), none] [] M := by
  unfold f12_newBase
  refine rv_aload_n (q := 1) E.x dX12_newBase_0 rfl rfl ?_
  refine rv_iload_n (q := 2) E.x dX12_newBase_1 rfl rfl ?_
  refine rv_b1 (fun r2 e1 => ?_)
  refine rR_calli (q := 5) E (c12_parent E.2.2.1 e1) gX12_parent hX12_parent ⟨rfl, rfl⟩ ⟨Nat.le_of_ble_eq_true rfl, Nat.le_of_ble_eq_true rfl⟩ rfl rfl rfl (Nat.le_of_ble_eq_true rfl) dX12_newBase_2 rfl ?_
  refine rv_istore_n (q := 6) (lv' := [_, _, _]) E.x dX12_newBase_5 (Nat.le_of_ble_eq_true rfl) rfl rfl rfl ?_
  refine rv_iload_n (q := 7) E.x dX12_newBase_6 rfl rfl ?_
  refine rv_iconst (q := 8) E.x dX12_newBase_7 rv_kim1 rfl ?_
  refine rv_icmp_eq (q := 11) (tgt := 21) E.x dX12_newBase_8 (by decide) rfl ?_ ?_
  · refine rv_aload_n (q := 12) E.x dX12_newBase_11 rfl rfl ?_
    refine rR_get (q := 15) E 13 wf12_13 rfl (Nat.le_of_ble_eq_true rfl) rfl dX12_newBase_12 rfl ?_
    refine rv_iload_n (q := 16) E.x dX12_newBase_15 rfl rfl ?_
    refine rR_iald (q := 17) (n := 20) E (Nat.le_of_ble_eq_true rfl) rfl rfl dX12_newBase_16 rfl ?_
    refine rv_iconst (q := 18) E.x dX12_newBase_17 rv_ki2 rfl ?_
    refine rv_icmp_ne (q := 21) (tgt := 32) E.x dX12_newBase_18 (by decide) rfl ?_ ?_
    · refine rv_wk [true, true, false] ?_
      exact b12_newBase_21 E M a1
    · refine rv_aload_n (q := 33) E.x dX12_newBase_32 rfl rfl ?_
      refine rR_get (q := 36) E 13 wf12_13 rfl (Nat.le_of_ble_eq_true rfl) rfl dX12_newBase_33 rfl ?_
      refine rv_iload_n (q := 37) E.x dX12_newBase_36 rfl rfl ?_
      refine rR_iald (q := 38) (n := 20) E (Nat.le_of_ble_eq_true rfl) rfl rfl dX12_newBase_37 rfl ?_
      refine rv_if_ne (q := 41) (tgt := 49) E.x dX12_newBase_38 (by decide) rfl ?_ ?_
      · refine rv_aload_n (q := 42) E.x dX12_newBase_41 rfl rfl ?_
        refine rv_iload_n (q := 43) E.x dX12_newBase_42 rfl rfl ?_
        refine rv_b1 (fun r4 e3 => ?_)
        refine rR_calli (q := 46) E (c12_current E.2.2.1 e3) gX12_current hX12_current ⟨rfl, rfl⟩ ⟨Nat.le_of_ble_eq_true rfl, Nat.le_of_ble_eq_true rfl⟩ rfl rfl rfl (Nat.le_of_ble_eq_true rfl) dX12_newBase_43 rfl ?_
        refine rv_goto (q := 55) E.x dX12_newBase_46 (by decide) ?_
        exact rR_iret E rfl dX12_newBase_55
      · refine rv_aload_n (q := 50) E.x dX12_newBase_49 rfl rfl ?_
        refine rR_get (q := 53) E 18 wf12_18 rfl (Nat.le_of_ble_eq_true rfl) rfl dX12_newBase_50 rfl ?_
        refine rv_iload_n (q := 54) E.x dX12_newBase_53 rfl rfl ?_
        refine rR_iald (q := 55) (n := 20) E (Nat.le_of_ble_eq_true rfl) rfl rfl dX12_newBase_54 rfl ?_
        exact rR_iret E rfl dX12_newBase_55
  · refine rv_wk [true, true, false] ?_
    exact b12_newBase_21 E M a1
theorem c12_newBase {l : Launch} {D : va_G} {cI cZ : ClassId} {ad : Nat → Nat} (hI : rR_I ad) {M : rv_Mem} {a1 : Int32} {r : Int32} (h : f12_newBase M a1 = some r) : Met l yX12_newBase (rv_ws yX12_newBase cX12_newBase 3 (some .int)) rm12_newBase (rR_Pc D cI cZ ad [.ref (ad 67), .int a1] M) (rR_QI D cI cZ ad r M) 0 0 (rR_A ad) := rR_met hI rfl (rv_cat rfl) (Nat.le_of_ble_eq_true rfl) (fun p e s m args below meth c E => ⟨(rR_qI D cI cZ ad below args s M), rfl, b12_newBase E M a1⟩) h
