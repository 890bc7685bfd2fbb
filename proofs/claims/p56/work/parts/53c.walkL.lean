abbrev rmp_isLanded : Room := { frames := 11, cells := 4, slots := 199, locals := 271 }
set_option maxRecDepth 100000 in
theorem bp_isLanded_84 {p : Program} {l : Launch} {e : Env} {s : State} {m : MethodId} {args : Array Value} {below : List Frame} {meth : Method} {c : Code} {D : va_G} {cI cZ cO : ClassId} {mi de z0 o b L : Nat} {k : Nat → Nat} {xs : Nat → Int32} (E : lk_E D cI cZ cO mi de z0 b L k xs cL_isLanded 15 (some .boolean) p l s m args meth c) (A : rv_Mem)   : ∀ (gh : rC_gh) (M : rv_Mem), rv_M (lk_G D cI cZ cO de z0 o k) (fun q => z0 ≤ q) p l e rmp_isLanded s m args below meth c 4 199 (lk_qWZ D cI cZ cO de z0 o k A below args s 4 199) (gp_isLanded_84 A gh M) 84 [none, none, none, none, none, none, none, none, none, none, none, none, none, none, none] [] (gh, M, A) := by
  intro gh M
  unfold gp_isLanded_84
  refine rv_iconst (q := 85) E.x dL_isLanded_84 rv_ki1 rfl ?_
  refine rv_goto (q := 89) E.x dL_isLanded_85 (by decide) ?_
  exact lk_zret E true rfl ⟨Nat.le_of_ble_eq_true rfl, Nat.le_of_ble_eq_true rfl⟩ dL_isLanded_89
set_option maxRecDepth 100000 in
theorem bp_isLanded_177 {p : Program} {l : Launch} {e : Env} {s : State} {m : MethodId} {args : Array Value} {below : List Frame} {meth : Method} {c : Code} {D : va_G} {cI cZ cO : ClassId} {mi de z0 o b L : Nat} {k : Nat → Nat} {xs : Nat → Int32} (E : lk_E D cI cZ cO mi de z0 b L k xs cL_isLanded 15 (some .boolean) p l s m args meth c) (A : rv_Mem) (k102 : rC_gh → rv_Mem → Int32 → Int32 → Int32 → Int32 → Int32 → Int32 → Bool → Int32 → Option (Bool × rC_gh × rv_Mem)) (h102 : ∀ (gh : rC_gh) (M : rv_Mem) (x3 : Int32) (x6 : Int32) (x7 : Int32) (x8 : Int32) (x9 : Int32) (x10 : Int32) (x12 : Bool) (x13 : Int32), rv_M (lk_G D cI cZ cO de z0 o k) (fun q => z0 ≤ q) p l e rmp_isLanded s m args below meth c 4 199 (lk_qWZ D cI cZ cO de z0 o k A below args s 4 199) (k102 gh M x3 x6 x7 x8 x9 x10 x12 x13) 102 [some (.ref o), none, none, some (.int x3), none, none, some (.int x6), some (.int x7), some (.int x8), some (.int x9), some (.int x10), some (.int 0), some (.int (rv_i x12)), some (.int x13), none] [] (gh, M, A)) : ∀ (gh : rC_gh) (M : rv_Mem) (x3 : Int32) (x6 : Int32) (x7 : Int32) (x8 : Int32) (x9 : Int32) (x10 : Int32) (x13 : Int32) (s0 : Bool), rv_M (lk_G D cI cZ cO de z0 o k) (fun q => z0 ≤ q) p l e rmp_isLanded s m args below meth c 4 199 (lk_qWZ D cI cZ cO de z0 o k A below args s 4 199) (gp_isLanded_177 A k102 gh M x3 x6 x7 x8 x9 x10 x13 s0) 177 [some (.ref o), none, none, some (.int x3), none, none, some (.int x6), some (.int x7), some (.int x8), some (.int x9), some (.int x10), some (.int 0), none, some (.int x13), none] [.int (rv_i s0)] (gh, M, A) := by
  intro gh M x3 x6 x7 x8 x9 x10 x13 s0
  unfold gp_isLanded_177
  refine rv_istore (q := 179) (lv' := [_, _, _, _, _, _, _, _, _, _, _, _, _, _, _]) E.x dL_isLanded_177 (Nat.le_of_ble_eq_true rfl) rfl rfl rfl ?_
  refine rv_iinc (q := 182) (lv' := [_, _, _, _, _, _, _, _, _, _, _, _, _, _, _]) E.x dL_isLanded_179 rv_ki1 rfl rfl rfl rfl ?_
  refine rv_goto (q := 102) E.x dL_isLanded_182 (by decide) ?_
  refine rv_wk [true, false, false, true, false, false, true, true, true, true, true, true, true, true, false] ?_
  exact h102 gh M x3 x6 x7 x8 x9 x10 s0 (x13 + 1)
set_option maxRecDepth 100000 in
theorem bp_isLanded_172 {p : Program} {l : Launch} {e : Env} {s : State} {m : MethodId} {args : Array Value} {below : List Frame} {meth : Method} {c : Code} {D : va_G} {cI cZ cO : ClassId} {mi de z0 o b L : Nat} {k : Nat → Nat} {xs : Nat → Int32} (E : lk_E D cI cZ cO mi de z0 b L k xs cL_isLanded 15 (some .boolean) p l s m args meth c) (A : rv_Mem) (k102 : rC_gh → rv_Mem → Int32 → Int32 → Int32 → Int32 → Int32 → Int32 → Bool → Int32 → Option (Bool × rC_gh × rv_Mem)) (h102 : ∀ (gh : rC_gh) (M : rv_Mem) (x3 : Int32) (x6 : Int32) (x7 : Int32) (x8 : Int32) (x9 : Int32) (x10 : Int32) (x12 : Bool) (x13 : Int32), rv_M (lk_G D cI cZ cO de z0 o k) (fun q => z0 ≤ q) p l e rmp_isLanded s m args below meth c 4 199 (lk_qWZ D cI cZ cO de z0 o k A below args s 4 199) (k102 gh M x3 x6 x7 x8 x9 x10 x12 x13) 102 [some (.ref o), none, none, some (.int x3), none, none, some (.int x6), some (.int x7), some (.int x8), some (.int x9), some (.int x10), some (.int 0), some (.int (rv_i x12)), some (.int x13), none] [] (gh, M, A)) : ∀ (gh : rC_gh) (M : rv_Mem) (x3 : Int32) (x6 : Int32) (x7 : Int32) (x8 : Int32) (x9 : Int32) (x10 : Int32) (x13 : Int32), rv_M (lk_G D cI cZ cO de z0 o k) (fun q => z0 ≤ q) p l e rmp_isLanded s m args below meth c 4 199 (lk_qWZ D cI cZ cO de z0 o k A below args s 4 199) (gp_isLanded_172 A k102 gh M x3 x6 x7 x8 x9 x10 x13) 172 [some (.ref o), none, none, some (.int x3), none, none, some (.int x6), some (.int x7), some (.int x8), some (.int x9), some (.int x10), some (.int 0), none, some (.int x13), none] [] (gh, M, A) := by
  intro gh M x3 x6 x7 x8 x9 x10 x13
  unfold gp_isLanded_172
  refine rv_iconst (q := 173) E.x dL_isLanded_172 rv_ki1 rfl ?_
  refine rv_goto (q := 177) E.x dL_isLanded_173 (by decide) ?_
  refine rv_wk [true, false, false, true, false, false, true, true, true, true, true, true, false, true, false] ?_
  exact bp_isLanded_177 E A k102 h102 gh M x3 x6 x7 x8 x9 x10 x13 true
set_option maxRecDepth 100000 in
theorem bp_isLanded_176 {p : Program} {l : Launch} {e : Env} {s : State} {m : MethodId} {args : Array Value} {below : List Frame} {meth : Method} {c : Code} {D : va_G} {cI cZ cO : ClassId} {mi de z0 o b L : Nat} {k : Nat → Nat} {xs : Nat → Int32} (E : lk_E D cI cZ cO mi de z0 b L k xs cL_isLanded 15 (some .boolean) p l s m args meth c) (A : rv_Mem) (k102 : rC_gh → rv_Mem → Int32 → Int32 → Int32 → Int32 → Int32 → Int32 → Bool → Int32 → Option (Bool × rC_gh × rv_Mem)) (h102 : ∀ (gh : rC_gh) (M : rv_Mem) (x3 : Int32) (x6 : Int32) (x7 : Int32) (x8 : Int32) (x9 : Int32) (x10 : Int32) (x12 : Bool) (x13 : Int32), rv_M (lk_G D cI cZ cO de z0 o k) (fun q => z0 ≤ q) p l e rmp_isLanded s m args below meth c 4 199 (lk_qWZ D cI cZ cO de z0 o k A below args s 4 199) (k102 gh M x3 x6 x7 x8 x9 x10 x12 x13) 102 [some (.ref o), none, none, some (.int x3), none, none, some (.int x6), some (.int x7), some (.int x8), some (.int x9), some (.int x10), some (.int 0), some (.int (rv_i x12)), some (.int x13), none] [] (gh, M, A)) : ∀ (gh : rC_gh) (M : rv_Mem) (x3 : Int32) (x6 : Int32) (x7 : Int32) (x8 : Int32) (x9 : Int32) (x10 : Int32) (x13 : Int32), rv_M (lk_G D cI cZ cO de z0 o k) (fun q => z0 ≤ q) p l e rmp_isLanded s m args below meth c 4 199 (lk_qWZ D cI cZ cO de z0 o k A below args s 4 199) (gp_isLanded_176 A k102 gh M x3 x6 x7 x8 x9 x10 x13) 176 [some (.ref o), none, none, some (.int x3), none, none, some (.int x6), some (.int x7), some (.int x8), some (.int x9), some (.int x10), some (.int 0), none, some (.int x13), none] [] (gh, M, A) := by
  intro gh M x3 x6 x7 x8 x9 x10 x13
  unfold gp_isLanded_176
  refine rv_iconst (q := 177) E.x dL_isLanded_176 rv_ki0 rfl ?_
  refine rv_wk [true, false, false, true, false, false, true, true, true, true, true, true, false, true, false] ?_
  exact bp_isLanded_177 E A k102 h102 gh M x3 x6 x7 x8 x9 x10 x13 false
set_option maxRecDepth 100000 in
theorem bp_isLanded_140 {p : Program} {l : Launch} {e : Env} {s : State} {m : MethodId} {args : Array Value} {below : List Frame} {meth : Method} {c : Code} {D : va_G} {cI cZ cO : ClassId} {mi de z0 o b L : Nat} {k : Nat → Nat} {xs : Nat → Int32} (E : lk_E D cI cZ cO mi de z0 b L k xs cL_isLanded 15 (some .boolean) p l s m args meth c) (A : rv_Mem) (k102 : rC_gh → rv_Mem → Int32 → Int32 → Int32 → Int32 → Int32 → Int32 → Bool → Int32 → Option (Bool × rC_gh × rv_Mem)) (h102 : ∀ (gh : rC_gh) (M : rv_Mem) (x3 : Int32) (x6 : Int32) (x7 : Int32) (x8 : Int32) (x9 : Int32) (x10 : Int32) (x12 : Bool) (x13 : Int32), rv_M (lk_G D cI cZ cO de z0 o k) (fun q => z0 ≤ q) p l e rmp_isLanded s m args below meth c 4 199 (lk_qWZ D cI cZ cO de z0 o k A below args s 4 199) (k102 gh M x3 x6 x7 x8 x9 x10 x12 x13) 102 [some (.ref o), none, none, some (.int x3), none, none, some (.int x6), some (.int x7), some (.int x8), some (.int x9), some (.int x10), some (.int 0), some (.int (rv_i x12)), some (.int x13), none] [] (gh, M, A)) : ∀ (gh : rC_gh) (M : rv_Mem) (x3 : Int32) (x6 : Int32) (x7 : Int32) (x8 : Int32) (x9 : Int32) (x12 : Bool) (x13 : Int32) (x14 : Bool) (s0 : Int32) (s1 : Bool), rv_M (lk_G D cI cZ cO de z0 o k) (fun q => z0 ≤ q) p l e rmp_isLanded s m args below meth c 4 199 (lk_qWZ D cI cZ cO de z0 o k A below args s 4 199) (gp_isLanded_140 A k102 gh M x3 x6 x7 x8 x9 x12 x13 x14 s0 s1) 140 [some (.ref o), none, none, some (.int x3), none, none, some (.int x6), some (.int x7), some (.int x8), some (.int x9), none, some (.int 0), some (.int (rv_i x12)), some (.int x13), some (.int (rv_i x14))] [.int (rv_i s1), .int s0] (gh, M, A) := by
  intro gh M x3 x6 x7 x8 x9 x12 x13 x14 s0 s1
  unfold gp_isLanded_140
  refine rv_iadd (q := 141) E.x dL_isLanded_140 rfl ?_
  refine rv_istore (q := 143) (lv' := [_, _, _, _, _, _, _, _, _, _, _, _, _, _, _]) E.x dL_isLanded_141 (Nat.le_of_ble_eq_true rfl) rfl rfl rfl ?_
  refine rv_iload (q := 145) E.x dL_isLanded_143 rfl rfl ?_
  refine rv_ifz_eq (q := 148) (tgt := 176) E.x dL_isLanded_145 (by decide) rfl ?_ ?_
  · refine rv_iload (q := 150) E.x dL_isLanded_148 rfl rfl ?_
    refine rv_ifz_eq (q := 153) (tgt := 172) E.x dL_isLanded_150 (by decide) rfl ?_ ?_
    · refine rv_aload_n (q := 154) E.x dL_isLanded_153 rfl rfl ?_
      refine rv_iload (q := 156) E.x dL_isLanded_154 rfl rfl ?_
      refine lk_x1r (fun r2 e1 => ?_) (fun w3 e4 => rv_stuck)
      refine lk_ci (q := 159) (v := r2) (M1 := M) E (fun u hI _ => c11_stateOf E.2.2.1.1 hI e1) gP_124 hX11_stateOf ⟨rfl, rfl⟩ ⟨Nat.le_of_ble_eq_true rfl, Nat.le_of_ble_eq_true rfl⟩ ⟨Nat.le_of_ble_eq_true rfl, Nat.le_of_ble_eq_true rfl⟩ rfl rfl rfl (Nat.le_of_ble_eq_true rfl) dL_isLanded_156 rfl ?_
      refine rv_iconst (q := 160) E.x dL_isLanded_159 rv_ki1 rfl ?_
      refine rv_icmp_ne (q := 163) (tgt := 176) E.x dL_isLanded_160 (by decide) rfl ?_ ?_
      · refine rv_aload_n (q := 164) E.x dL_isLanded_163 rfl rfl ?_
        refine rv_iload (q := 166) E.x dL_isLanded_164 rfl rfl ?_
        refine lk_x1r (fun r6 e5 => ?_) (fun w7 e8 => rv_stuck)
        refine lk_ci (q := 169) (v := r6) (M1 := M) E (fun u hI _ => c11_whoseTurn E.2.2.1.1 hI e5) gP_155 hX11_whoseTurn ⟨rfl, rfl⟩ ⟨Nat.le_of_ble_eq_true rfl, Nat.le_of_ble_eq_true rfl⟩ ⟨Nat.le_of_ble_eq_true rfl, Nat.le_of_ble_eq_true rfl⟩ rfl rfl rfl (Nat.le_of_ble_eq_true rfl) dL_isLanded_166 rfl ?_
        refine rv_if_ne (q := 172) (tgt := 176) E.x dL_isLanded_169 (by decide) rfl ?_ ?_
        · refine rv_wk [true, false, false, true, false, false, true, true, true, true, true, true, false, true, false] ?_
          exact bp_isLanded_172 E A k102 h102 gh M x3 x6 x7 x8 x9 (s0 + (rv_i s1)) x13
        · refine rv_wk [true, false, false, true, false, false, true, true, true, true, true, true, false, true, false] ?_
          exact bp_isLanded_176 E A k102 h102 gh M x3 x6 x7 x8 x9 (s0 + (rv_i s1)) x13
      · refine rv_wk [true, false, false, true, false, false, true, true, true, true, true, true, false, true, false] ?_
        exact bp_isLanded_176 E A k102 h102 gh M x3 x6 x7 x8 x9 (s0 + (rv_i s1)) x13
    · refine rv_wk [true, false, false, true, false, false, true, true, true, true, true, true, false, true, false] ?_
      exact bp_isLanded_172 E A k102 h102 gh M x3 x6 x7 x8 x9 (s0 + (rv_i s1)) x13
  · refine rv_wk [true, false, false, true, false, false, true, true, true, true, true, true, false, true, false] ?_
    exact bp_isLanded_176 E A k102 h102 gh M x3 x6 x7 x8 x9 (s0 + (rv_i s1)) x13
set_option maxRecDepth 100000 in
theorem bp_isLanded_126 {p : Program} {l : Launch} {e : Env} {s : State} {m : MethodId} {args : Array Value} {below : List Frame} {meth : Method} {c : Code} {D : va_G} {cI cZ cO : ClassId} {mi de z0 o b L : Nat} {k : Nat → Nat} {xs : Nat → Int32} (E : lk_E D cI cZ cO mi de z0 b L k xs cL_isLanded 15 (some .boolean) p l s m args meth c) (A : rv_Mem) (k102 : rC_gh → rv_Mem → Int32 → Int32 → Int32 → Int32 → Int32 → Int32 → Bool → Int32 → Option (Bool × rC_gh × rv_Mem)) (h102 : ∀ (gh : rC_gh) (M : rv_Mem) (x3 : Int32) (x6 : Int32) (x7 : Int32) (x8 : Int32) (x9 : Int32) (x10 : Int32) (x12 : Bool) (x13 : Int32), rv_M (lk_G D cI cZ cO de z0 o k) (fun q => z0 ≤ q) p l e rmp_isLanded s m args below meth c 4 199 (lk_qWZ D cI cZ cO de z0 o k A below args s 4 199) (k102 gh M x3 x6 x7 x8 x9 x10 x12 x13) 102 [some (.ref o), none, none, some (.int x3), none, none, some (.int x6), some (.int x7), some (.int x8), some (.int x9), some (.int x10), some (.int 0), some (.int (rv_i x12)), some (.int x13), none] [] (gh, M, A)) : ∀ (gh : rC_gh) (M : rv_Mem) (x3 : Int32) (x6 : Int32) (x7 : Int32) (x8 : Int32) (x9 : Int32) (x10 : Int32) (x12 : Bool) (x13 : Int32) (s0 : Bool), rv_M (lk_G D cI cZ cO de z0 o k) (fun q => z0 ≤ q) p l e rmp_isLanded s m args below meth c 4 199 (lk_qWZ D cI cZ cO de z0 o k A below args s 4 199) (gp_isLanded_126 A k102 gh M x3 x6 x7 x8 x9 x10 x12 x13 s0) 126 [some (.ref o), none, none, some (.int x3), none, none, some (.int x6), some (.int x7), some (.int x8), some (.int x9), some (.int x10), some (.int 0), some (.int (rv_i x12)), some (.int x13), none] [.int (rv_i s0)] (gh, M, A) := by
  intro gh M x3 x6 x7 x8 x9 x10 x12 x13 s0
  unfold gp_isLanded_126
  refine rv_istore (q := 128) (lv' := [_, _, _, _, _, _, _, _, _, _, _, _, _, _, _]) E.x dL_isLanded_126 (Nat.le_of_ble_eq_true rfl) rfl rfl rfl ?_
  refine rv_iload (q := 130) E.x dL_isLanded_128 rfl rfl ?_
  refine rv_iload (q := 132) E.x dL_isLanded_130 rfl rfl ?_
  refine rv_ifz_eq (q := 135) (tgt := 139) E.x dL_isLanded_132 (by decide) rfl ?_ ?_
  · refine rv_iconst (q := 136) E.x dL_isLanded_135 rv_ki1 rfl ?_
    refine rv_goto (q := 140) E.x dL_isLanded_136 (by decide) ?_
    refine rv_wk [true, false, false, true, false, false, true, true, true, true, false, true, true, true, true] ?_
    exact bp_isLanded_140 E A k102 h102 gh M x3 x6 x7 x8 x9 x12 x13 s0 x10 true
  · refine rv_iconst (q := 140) E.x dL_isLanded_139 rv_ki0 rfl ?_
    refine rv_wk [true, false, false, true, false, false, true, true, true, true, false, true, true, true, true] ?_
    exact bp_isLanded_140 E A k102 h102 gh M x3 x6 x7 x8 x9 x12 x13 s0 x10 false
set_option maxRecDepth 100000 in
theorem bp_isLanded_284 {p : Program} {l : Launch} {e : Env} {s : State} {m : MethodId} {args : Array Value} {below : List Frame} {meth : Method} {c : Code} {D : va_G} {cI cZ cO : ClassId} {mi de z0 o b L : Nat} {k : Nat → Nat} {xs : Nat → Int32} (E : lk_E D cI cZ cO mi de z0 b L k xs cL_isLanded 15 (some .boolean) p l s m args meth c) (A : rv_Mem) (k188 : rC_gh → rv_Mem → Int32 → Int32 → Int32 → Int32 → Int32 → Int32 → Int32 → Bool → Int32 → Option (Bool × rC_gh × rv_Mem)) (k207 : rC_gh → rv_Mem → Int32 → Int32 → Int32 → Int32 → Int32 → Int32 → Int32 → Bool → Int32 → Int32 → Option (Bool × rC_gh × rv_Mem)) (h188 : ∀ (gh : rC_gh) (M : rv_Mem) (x3 : Int32) (x6 : Int32) (x7 : Int32) (x8 : Int32) (x9 : Int32) (x10 : Int32) (x11 : Int32) (x12 : Bool) (x13 : Int32), rv_M (lk_G D cI cZ cO de z0 o k) (fun q => z0 ≤ q) p l e rmp_isLanded s m args below meth c 4 199 (lk_qWZ D cI cZ cO de z0 o k A below args s 4 199) (k188 gh M x3 x6 x7 x8 x9 x10 x11 x12 x13) 188 [some (.ref o), none, none, some (.int x3), none, none, some (.int x6), some (.int x7), some (.int x8), some (.int x9), some (.int x10), some (.int x11), some (.int (rv_i x12)), some (.int x13), none] [] (gh, M, A)) (h207 : ∀ (gh : rC_gh) (M : rv_Mem) (x3 : Int32) (x6 : Int32) (x7 : Int32) (x8 : Int32) (x9 : Int32) (x10 : Int32) (x11 : Int32) (x12 : Bool) (x13 : Int32) (x14 : Int32), rv_M (lk_G D cI cZ cO de z0 o k) (fun q => z0 ≤ q) p l e rmp_isLanded s m args below meth c 4 199 (lk_qWZ D cI cZ cO de z0 o k A below args s 4 199) (k207 gh M x3 x6 x7 x8 x9 x10 x11 x12 x13 x14) 207 [some (.ref o), none, none, some (.int x3), none, none, some (.int x6), some (.int x7), some (.int x8), some (.int x9), some (.int x10), some (.int x11), some (.int (rv_i x12)), some (.int x13), some (.int x14)] [] (gh, M, A)) : ∀ (gh : rC_gh) (M : rv_Mem) (x3 : Int32) (x6 : Int32) (x7 : Int32) (x8 : Int32) (x9 : Int32) (x10 : Int32) (x11 : Int32) (x13 : Int32) (x14 : Int32) (s0 : Bool), rv_M (lk_G D cI cZ cO de z0 o k) (fun q => z0 ≤ q) p l e rmp_isLanded s m args below meth c 4 199 (lk_qWZ D cI cZ cO de z0 o k A below args s 4 199) (gp_isLanded_284 A k188 k207 gh M x3 x6 x7 x8 x9 x10 x11 x13 x14 s0) 284 [some (.ref o), none, none, some (.int x3), none, none, some (.int x6), some (.int x7), some (.int x8), some (.int x9), some (.int x10), some (.int x11), none, some (.int x13), some (.int x14)] [.int (rv_i s0)] (gh, M, A) := by
  intro gh M x3 x6 x7 x8 x9 x10 x11 x13 x14 s0
  unfold gp_isLanded_284
  refine rv_istore (q := 286) (lv' := [_, _, _, _, _, _, _, _, _, _, _, _, _, _, _]) E.x dL_isLanded_284 (Nat.le_of_ble_eq_true rfl) rfl rfl rfl ?_
  refine rv_iinc (q := 289) (lv' := [_, _, _, _, _, _, _, _, _, _, _, _, _, _, _]) E.x dL_isLanded_286 rv_ki1 rfl rfl rfl rfl ?_
  refine rv_aload_n (q := 290) E.x dL_isLanded_289 rfl rfl ?_
  refine rv_iload (q := 292) E.x dL_isLanded_290 rfl rfl ?_
  refine lk_x1r (fun r2 e1 => ?_) (fun w3 e4 => rv_stuck)
  refine lk_ci (q := 295) (v := r2) (M1 := M) E (fun u hI _ => c11_before E.2.2.1.1 hI e1) gP_115 hX11_before ⟨rfl, rfl⟩ ⟨Nat.le_of_ble_eq_true rfl, Nat.le_of_ble_eq_true rfl⟩ ⟨Nat.le_of_ble_eq_true rfl, Nat.le_of_ble_eq_true rfl⟩ rfl rfl rfl (Nat.le_of_ble_eq_true rfl) dL_isLanded_292 rfl ?_
  refine rv_istore (q := 297) (lv' := [_, _, _, _, _, _, _, _, _, _, _, _, _, _, _]) E.x dL_isLanded_295 (Nat.le_of_ble_eq_true rfl) rfl rfl rfl ?_
  refine rv_goto (q := 207) E.x dL_isLanded_297 (by decide) ?_
  refine rv_wk [true, false, false, true, false, false, true, true, true, true, true, true, true, true, true] ?_
  exact h207 gh M x3 x6 x7 x8 x9 x10 (x11 + 1) s0 x13 r2
set_option maxRecDepth 100000 in
theorem bp_isLanded_279 {p : Program} {l : Launch} {e : Env} {s : State} {m : MethodId} {args : Array Value} {below : List Frame} {meth : Method} {c : Code} {D : va_G} {cI cZ cO : ClassId} {mi de z0 o b L : Nat} {k : Nat → Nat} {xs : Nat → Int32} (E : lk_E D cI cZ cO mi de z0 b L k xs cL_isLanded 15 (some .boolean) p l s m args meth c) (A : rv_Mem) (k188 : rC_gh → rv_Mem → Int32 → Int32 → Int32 → Int32 → Int32 → Int32 → Int32 → Bool → Int32 → Option (Bool × rC_gh × rv_Mem)) (k207 : rC_gh → rv_Mem → Int32 → Int32 → Int32 → Int32 → Int32 → Int32 → Int32 → Bool → Int32 → Int32 → Option (Bool × rC_gh × rv_Mem)) (h188 : ∀ (gh : rC_gh) (M : rv_Mem) (x3 : Int32) (x6 : Int32) (x7 : Int32) (x8 : Int32) (x9 : Int32) (x10 : Int32) (x11 : Int32) (x12 : Bool) (x13 : Int32), rv_M (lk_G D cI cZ cO de z0 o k) (fun q => z0 ≤ q) p l e rmp_isLanded s m args below meth c 4 199 (lk_qWZ D cI cZ cO de z0 o k A below args s 4 199) (k188 gh M x3 x6 x7 x8 x9 x10 x11 x12 x13) 188 [some (.ref o), none, none, some (.int x3), none, none, some (.int x6), some (.int x7), some (.int x8), some (.int x9), some (.int x10), some (.int x11), some (.int (rv_i x12)), some (.int x13), none] [] (gh, M, A)) (h207 : ∀ (gh : rC_gh) (M : rv_Mem) (x3 : Int32) (x6 : Int32) (x7 : Int32) (x8 : Int32) (x9 : Int32) (x10 : Int32) (x11 : Int32) (x12 : Bool) (x13 : Int32) (x14 : Int32), rv_M (lk_G D cI cZ cO de z0 o k) (fun q => z0 ≤ q) p l e rmp_isLanded s m args below meth c 4 199 (lk_qWZ D cI cZ cO de z0 o k A below args s 4 199) (k207 gh M x3 x6 x7 x8 x9 x10 x11 x12 x13 x14) 207 [some (.ref o), none, none, some (.int x3), none, none, some (.int x6), some (.int x7), some (.int x8), some (.int x9), some (.int x10), some (.int x11), some (.int (rv_i x12)), some (.int x13), some (.int x14)] [] (gh, M, A)) : ∀ (gh : rC_gh) (M : rv_Mem) (x3 : Int32) (x6 : Int32) (x7 : Int32) (x8 : Int32) (x9 : Int32) (x10 : Int32) (x11 : Int32) (x13 : Int32) (x14 : Int32), rv_M (lk_G D cI cZ cO de z0 o k) (fun q => z0 ≤ q) p l e rmp_isLanded s m args below meth c 4 199 (lk_qWZ D cI cZ cO de z0 o k A below args s 4 199) (gp_isLanded_279 A k188 k207 gh M x3 x6 x7 x8 x9 x10 x11 x13 x14) 279 [some (.ref o), none, none, some (.int x3), none, none, some (.int x6), some (.int x7), some (.int x8), some (.int x9), some (.int x10), some (.int x11), none, some (.int x13), some (.int x14)] [] (gh, M, A) := by
  intro gh M x3 x6 x7 x8 x9 x10 x11 x13 x14
  unfold gp_isLanded_279
  refine rv_iconst (q := 280) E.x dL_isLanded_279 rv_ki1 rfl ?_
  refine rv_goto (q := 284) E.x dL_isLanded_280 (by decide) ?_
  refine rv_wk [true, false, false, true, false, false, true, true, true, true, true, true, false, true, true] ?_
  exact bp_isLanded_284 E A k188 k207 h188 h207 gh M x3 x6 x7 x8 x9 x10 x11 x13 x14 true
set_option maxRecDepth 100000 in
theorem bp_isLanded_283 {p : Program} {l : Launch} {e : Env} {s : State} {m : MethodId} {args : Array Value} {below : List Frame} {meth : Method} {c : Code} {D : va_G} {cI cZ cO : ClassId} {mi de z0 o b L : Nat} {k : Nat → Nat} {xs : Nat → Int32} (E : lk_E D cI cZ cO mi de z0 b L k xs cL_isLanded 15 (some .boolean) p l s m args meth c) (A : rv_Mem) (k188 : rC_gh → rv_Mem → Int32 → Int32 → Int32 → Int32 → Int32 → Int32 → Int32 → Bool → Int32 → Option (Bool × rC_gh × rv_Mem)) (k207 : rC_gh → rv_Mem → Int32 → Int32 → Int32 → Int32 → Int32 → Int32 → Int32 → Bool → Int32 → Int32 → Option (Bool × rC_gh × rv_Mem)) (h188 : ∀ (gh : rC_gh) (M : rv_Mem) (x3 : Int32) (x6 : Int32) (x7 : Int32) (x8 : Int32) (x9 : Int32) (x10 : Int32) (x11 : Int32) (x12 : Bool) (x13 : Int32), rv_M (lk_G D cI cZ cO de z0 o k) (fun q => z0 ≤ q) p l e rmp_isLanded s m args below meth c 4 199 (lk_qWZ D cI cZ cO de z0 o k A below args s 4 199) (k188 gh M x3 x6 x7 x8 x9 x10 x11 x12 x13) 188 [some (.ref o), none, none, some (.int x3), none, none, some (.int x6), some (.int x7), some (.int x8), some (.int x9), some (.int x10), some (.int x11), some (.int (rv_i x12)), some (.int x13), none] [] (gh, M, A)) (h207 : ∀ (gh : rC_gh) (M : rv_Mem) (x3 : Int32) (x6 : Int32) (x7 : Int32) (x8 : Int32) (x9 : Int32) (x10 : Int32) (x11 : Int32) (x12 : Bool) (x13 : Int32) (x14 : Int32), rv_M (lk_G D cI cZ cO de z0 o k) (fun q => z0 ≤ q) p l e rmp_isLanded s m args below meth c 4 199 (lk_qWZ D cI cZ cO de z0 o k A below args s 4 199) (k207 gh M x3 x6 x7 x8 x9 x10 x11 x12 x13 x14) 207 [some (.ref o), none, none, some (.int x3), none, none, some (.int x6), some (.int x7), some (.int x8), some (.int x9), some (.int x10), some (.int x11), some (.int (rv_i x12)), some (.int x13), some (.int x14)] [] (gh, M, A)) : ∀ (gh : rC_gh) (M : rv_Mem) (x3 : Int32) (x6 : Int32) (x7 : Int32) (x8 : Int32) (x9 : Int32) (x10 : Int32) (x11 : Int32) (x13 : Int32) (x14 : Int32), rv_M (lk_G D cI cZ cO de z0 o k) (fun q => z0 ≤ q) p l e rmp_isLanded s m args below meth c 4 199 (lk_qWZ D cI cZ cO de z0 o k A below args s 4 199) (gp_isLanded_283 A k188 k207 gh M x3 x6 x7 x8 x9 x10 x11 x13 x14) 283 [some (.ref o), none, none, some (.int x3), none, none, some (.int x6), some (.int x7), some (.int x8), some (.int x9), some (.int x10), some (.int x11), none, some (.int x13), some (.int x14)] [] (gh, M, A) := by
  intro gh M x3 x6 x7 x8 x9 x10 x11 x13 x14
  unfold gp_isLanded_283
  refine rv_iconst (q := 284) E.x dL_isLanded_283 rv_ki0 rfl ?_
  refine rv_wk [true, false, false, true, false, false, true, true, true, true, true, true, false, true, true] ?_
  exact bp_isLanded_284 E A k188 k207 h188 h207 gh M x3 x6 x7 x8 x9 x10 x11 x13 x14 false
set_option maxRecDepth 100000 in
theorem bp_isLanded_315 {p : Program} {l : Launch} {e : Env} {s : State} {m : MethodId} {args : Array Value} {below : List Frame} {meth : Method} {c : Code} {D : va_G} {cI cZ cO : ClassId} {mi de z0 o b L : Nat} {k : Nat → Nat} {xs : Nat → Int32} (E : lk_E D cI cZ cO mi de z0 b L k xs cL_isLanded 15 (some .boolean) p l s m args meth c) (A : rv_Mem) (k188 : rC_gh → rv_Mem → Int32 → Int32 → Int32 → Int32 → Int32 → Int32 → Int32 → Bool → Int32 → Option (Bool × rC_gh × rv_Mem)) (h188 : ∀ (gh : rC_gh) (M : rv_Mem) (x3 : Int32) (x6 : Int32) (x7 : Int32) (x8 : Int32) (x9 : Int32) (x10 : Int32) (x11 : Int32) (x12 : Bool) (x13 : Int32), rv_M (lk_G D cI cZ cO de z0 o k) (fun q => z0 ≤ q) p l e rmp_isLanded s m args below meth c 4 199 (lk_qWZ D cI cZ cO de z0 o k A below args s 4 199) (k188 gh M x3 x6 x7 x8 x9 x10 x11 x12 x13) 188 [some (.ref o), none, none, some (.int x3), none, none, some (.int x6), some (.int x7), some (.int x8), some (.int x9), some (.int x10), some (.int x11), some (.int (rv_i x12)), some (.int x13), none] [] (gh, M, A)) : ∀ (gh : rC_gh) (M : rv_Mem) (x3 : Int32) (x6 : Int32) (x7 : Int32) (x8 : Int32) (x9 : Int32) (x10 : Int32) (x11 : Int32) (x13 : Int32) (s0 : Bool), rv_M (lk_G D cI cZ cO de z0 o k) (fun q => z0 ≤ q) p l e rmp_isLanded s m args below meth c 4 199 (lk_qWZ D cI cZ cO de z0 o k A below args s 4 199) (gp_isLanded_315 A k188 gh M x3 x6 x7 x8 x9 x10 x11 x13 s0) 315 [some (.ref o), none, none, some (.int x3), none, none, some (.int x6), some (.int x7), some (.int x8), some (.int x9), some (.int x10), some (.int x11), none, some (.int x13), none] [.int (rv_i s0)] (gh, M, A) := by
  intro gh M x3 x6 x7 x8 x9 x10 x11 x13 s0
  unfold gp_isLanded_315
  refine rv_istore (q := 317) (lv' := [_, _, _, _, _, _, _, _, _, _, _, _, _, _, _]) E.x dL_isLanded_315 (Nat.le_of_ble_eq_true rfl) rfl rfl rfl ?_
  refine rv_iinc (q := 320) (lv' := [_, _, _, _, _, _, _, _, _, _, _, _, _, _, _]) E.x dL_isLanded_317 rv_ki1 rfl rfl rfl rfl ?_
  refine rv_goto (q := 188) E.x dL_isLanded_320 (by decide) ?_
  refine rv_wk [true, false, false, true, false, false, true, true, true, true, true, true, true, true, false] ?_
  exact h188 gh M x3 x6 x7 x8 x9 x10 x11 s0 (x13 + 1)
set_option maxRecDepth 100000 in
theorem bp_isLanded_314 {p : Program} {l : Launch} {e : Env} {s : State} {m : MethodId} {args : Array Value} {below : List Frame} {meth : Method} {c : Code} {D : va_G} {cI cZ cO : ClassId} {mi de z0 o b L : Nat} {k : Nat → Nat} {xs : Nat → Int32} (E : lk_E D cI cZ cO mi de z0 b L k xs cL_isLanded 15 (some .boolean) p l s m args meth c) (A : rv_Mem) (k188 : rC_gh → rv_Mem → Int32 → Int32 → Int32 → Int32 → Int32 → Int32 → Int32 → Bool → Int32 → Option (Bool × rC_gh × rv_Mem)) (h188 : ∀ (gh : rC_gh) (M : rv_Mem) (x3 : Int32) (x6 : Int32) (x7 : Int32) (x8 : Int32) (x9 : Int32) (x10 : Int32) (x11 : Int32) (x12 : Bool) (x13 : Int32), rv_M (lk_G D cI cZ cO de z0 o k) (fun q => z0 ≤ q) p l e rmp_isLanded s m args below meth c 4 199 (lk_qWZ D cI cZ cO de z0 o k A below args s 4 199) (k188 gh M x3 x6 x7 x8 x9 x10 x11 x12 x13) 188 [some (.ref o), none, none, some (.int x3), none, none, some (.int x6), some (.int x7), some (.int x8), some (.int x9), some (.int x10), some (.int x11), some (.int (rv_i x12)), some (.int x13), none] [] (gh, M, A)) : ∀ (gh : rC_gh) (M : rv_Mem) (x3 : Int32) (x6 : Int32) (x7 : Int32) (x8 : Int32) (x9 : Int32) (x10 : Int32) (x11 : Int32) (x13 : Int32), rv_M (lk_G D cI cZ cO de z0 o k) (fun q => z0 ≤ q) p l e rmp_isLanded s m args below meth c 4 199 (lk_qWZ D cI cZ cO de z0 o k A below args s 4 199) (gp_isLanded_314 A k188 gh M x3 x6 x7 x8 x9 x10 x11 x13) 314 [some (.ref o), none, none, some (.int x3), none, none, some (.int x6), some (.int x7), some (.int x8), some (.int x9), some (.int x10), some (.int x11), none, some (.int x13), none] [] (gh, M, A) := by
  intro gh M x3 x6 x7 x8 x9 x10 x11 x13
  unfold gp_isLanded_314
  refine rv_iconst (q := 315) E.x dL_isLanded_314 rv_ki0 rfl ?_
  refine rv_wk [true, false, false, true, false, false, true, true, true, true, true, true, false, true, false] ?_
  exact bp_isLanded_315 E A k188 h188 gh M x3 x6 x7 x8 x9 x10 x11 x13 false
set_option maxRecDepth 100000 in
theorem bp_isLanded_300 {p : Program} {l : Launch} {e : Env} {s : State} {m : MethodId} {args : Array Value} {below : List Frame} {meth : Method} {c : Code} {D : va_G} {cI cZ cO : ClassId} {mi de z0 o b L : Nat} {k : Nat → Nat} {xs : Nat → Int32} (E : lk_E D cI cZ cO mi de z0 b L k xs cL_isLanded 15 (some .boolean) p l s m args meth c) (A : rv_Mem) (k188 : rC_gh → rv_Mem → Int32 → Int32 → Int32 → Int32 → Int32 → Int32 → Int32 → Bool → Int32 → Option (Bool × rC_gh × rv_Mem)) (h188 : ∀ (gh : rC_gh) (M : rv_Mem) (x3 : Int32) (x6 : Int32) (x7 : Int32) (x8 : Int32) (x9 : Int32) (x10 : Int32) (x11 : Int32) (x12 : Bool) (x13 : Int32), rv_M (lk_G D cI cZ cO de z0 o k) (fun q => z0 ≤ q) p l e rmp_isLanded s m args below meth c 4 199 (lk_qWZ D cI cZ cO de z0 o k A below args s 4 199) (k188 gh M x3 x6 x7 x8 x9 x10 x11 x12 x13) 188 [some (.ref o), none, none, some (.int x3), none, none, some (.int x6), some (.int x7), some (.int x8), some (.int x9), some (.int x10), some (.int x11), some (.int (rv_i x12)), some (.int x13), none] [] (gh, M, A)) : ∀ (gh : rC_gh) (M : rv_Mem) (x3 : Int32) (x6 : Int32) (x7 : Int32) (x8 : Int32) (x9 : Int32) (x10 : Int32) (x11 : Int32) (x12 : Bool) (x13 : Int32) (x14 : Int32), rv_M (lk_G D cI cZ cO de z0 o k) (fun q => z0 ≤ q) p l e rmp_isLanded s m args below meth c 4 199 (lk_qWZ D cI cZ cO de z0 o k A below args s 4 199) (gp_isLanded_300 A k188 gh M x3 x6 x7 x8 x9 x10 x11 x12 x13 x14) 300 [some (.ref o), none, none, some (.int x3), none, none, some (.int x6), some (.int x7), some (.int x8), some (.int x9), some (.int x10), some (.int x11), some (.int (rv_i x12)), some (.int x13), some (.int x14)] [] (gh, M, A) := by
  intro gh M x3 x6 x7 x8 x9 x10 x11 x12 x13 x14
  unfold gp_isLanded_300
  refine rv_iload (q := 302) E.x dL_isLanded_300 rfl rfl ?_
  refine rv_ifz_eq (q := 305) (tgt := 314) E.x dL_isLanded_302 (by decide) rfl ?_ ?_
  · refine rv_iload (q := 307) E.x dL_isLanded_305 rfl rfl ?_
    refine rv_if_lt (q := 310) (tgt := 314) E.x dL_isLanded_307 (by decide) rfl ?_ ?_
    · refine rv_iconst (q := 311) E.x dL_isLanded_310 rv_ki1 rfl ?_
      refine rv_goto (q := 315) E.x dL_isLanded_311 (by decide) ?_
      refine rv_wk [true, false, false, true, false, false, true, true, true, true, true, true, false, true, false] ?_
      exact bp_isLanded_315 E A k188 h188 gh M x3 x6 x7 x8 x9 x10 x11 x13 true
    · refine rv_wk [true, false, false, true, false, false, true, true, true, true, true, true, false, true, false] ?_
      exact bp_isLanded_314 E A k188 h188 gh M x3 x6 x7 x8 x9 x10 x11 x13
  · refine rv_wk [true, false, false, true, false, false, true, true, true, true, true, true, false, true, false] ?_
    exact bp_isLanded_314 E A k188 h188 gh M x3 x6 x7 x8 x9 x10 x11 x13
set_option maxRecDepth 100000 in
theorem bp_isLanded_221 {p : Program} {l : Launch} {e : Env} {s : State} {m : MethodId} {args : Array Value} {below : List Frame} {meth : Method} {c : Code} {D : va_G} {cI cZ cO : ClassId} {mi de z0 o b L : Nat} {k : Nat → Nat} {xs : Nat → Int32} (E : lk_E D cI cZ cO mi de z0 b L k xs cL_isLanded 15 (some .boolean) p l s m args meth c) (A : rv_Mem) (k188 : rC_gh → rv_Mem → Int32 → Int32 → Int32 → Int32 → Int32 → Int32 → Int32 → Bool → Int32 → Option (Bool × rC_gh × rv_Mem)) (k207 : rC_gh → rv_Mem → Int32 → Int32 → Int32 → Int32 → Int32 → Int32 → Int32 → Bool → Int32 → Int32 → Option (Bool × rC_gh × rv_Mem)) (h188 : ∀ (gh : rC_gh) (M : rv_Mem) (x3 : Int32) (x6 : Int32) (x7 : Int32) (x8 : Int32) (x9 : Int32) (x10 : Int32) (x11 : Int32) (x12 : Bool) (x13 : Int32), rv_M (lk_G D cI cZ cO de z0 o k) (fun q => z0 ≤ q) p l e rmp_isLanded s m args below meth c 4 199 (lk_qWZ D cI cZ cO de z0 o k A below args s 4 199) (k188 gh M x3 x6 x7 x8 x9 x10 x11 x12 x13) 188 [some (.ref o), none, none, some (.int x3), none, none, some (.int x6), some (.int x7), some (.int x8), some (.int x9), some (.int x10), some (.int x11), some (.int (rv_i x12)), some (.int x13), none] [] (gh, M, A)) (h207 : ∀ (gh : rC_gh) (M : rv_Mem) (x3 : Int32) (x6 : Int32) (x7 : Int32) (x8 : Int32) (x9 : Int32) (x10 : Int32) (x11 : Int32) (x12 : Bool) (x13 : Int32) (x14 : Int32), rv_M (lk_G D cI cZ cO de z0 o k) (fun q => z0 ≤ q) p l e rmp_isLanded s m args below meth c 4 199 (lk_qWZ D cI cZ cO de z0 o k A below args s 4 199) (k207 gh M x3 x6 x7 x8 x9 x10 x11 x12 x13 x14) 207 [some (.ref o), none, none, some (.int x3), none, none, some (.int x6), some (.int x7), some (.int x8), some (.int x9), some (.int x10), some (.int x11), some (.int (rv_i x12)), some (.int x13), some (.int x14)] [] (gh, M, A)) : ∀ (gh : rC_gh) (M : rv_Mem) (x3 : Int32) (x6 : Int32) (x7 : Int32) (x8 : Int32) (x9 : Int32) (x10 : Int32) (x11 : Int32) (x12 : Bool) (x13 : Int32) (x14 : Int32) (s0 : Int32) (s1 : Int32), rv_M (lk_G D cI cZ cO de z0 o k) (fun q => z0 ≤ q) p l e rmp_isLanded s m args below meth c 4 199 (lk_qWZ D cI cZ cO de z0 o k A below args s 4 199) (gp_isLanded_221 A k188 k207 gh M x3 x6 x7 x8 x9 x10 x11 x12 x13 x14 s0 s1) 221 [some (.ref o), none, none, some (.int x3), none, none, some (.int x6), some (.int x7), some (.int x8), some (.int x9), some (.int x10), some (.int x11), some (.int (rv_i x12)), some (.int x13), some (.int x14)] [.int s1, .int s0] (gh, M, A) := by
  intro gh M x3 x6 x7 x8 x9 x10 x11 x12 x13 x14 s0 s1
  unfold gp_isLanded_221
  refine rv_icmp_eq (q := 224) (tgt := 300) E.x dL_isLanded_221 (by decide) rfl ?_ ?_
  · refine rv_iload (q := 226) E.x dL_isLanded_224 rfl rfl ?_
    refine rv_if_lt (q := 229) (tgt := 300) E.x dL_isLanded_226 (by decide) rfl ?_ ?_
    · refine rv_iload (q := 231) E.x dL_isLanded_229 rfl rfl ?_
      refine rv_ifz_eq (q := 234) (tgt := 300) E.x dL_isLanded_231 (by decide) rfl ?_ ?_
      · refine rv_aload_n (q := 235) E.x dL_isLanded_234 rfl rfl ?_
        refine rv_iload (q := 237) E.x dL_isLanded_235 rfl rfl ?_
        refine lk_x1r (fun r2 e1 => ?_) (fun w3 e4 => rv_stuck)
        refine lk_ci (q := 240) (v := r2) (M1 := M) E (fun u hI _ => c11_namedAfter E.2.2.1.1 hI e1) gP_121 hX11_namedAfter ⟨rfl, rfl⟩ ⟨Nat.le_of_ble_eq_true rfl, Nat.le_of_ble_eq_true rfl⟩ ⟨Nat.le_of_ble_eq_true rfl, Nat.le_of_ble_eq_true rfl⟩ rfl rfl rfl (Nat.le_of_ble_eq_true rfl) dL_isLanded_237 rfl ?_
        refine rv_if_lt (q := 243) (tgt := 283) E.x dL_isLanded_240 (by decide) rfl ?_ ?_
        · refine rv_iload_n (q := 244) E.x dL_isLanded_243 rfl rfl ?_
          refine rv_aload_n (q := 245) E.x dL_isLanded_244 rfl rfl ?_
          refine rv_iload (q := 247) E.x dL_isLanded_245 rfl rfl ?_
          refine lk_x1r (fun r6 e5 => ?_) (fun w7 e8 => rv_stuck)
          refine lk_ci (q := 250) (v := r6) (M1 := M) E (fun u hI _ => c11_namedAfter E.2.2.1.1 hI e5) gP_121 hX11_namedAfter ⟨rfl, rfl⟩ ⟨Nat.le_of_ble_eq_true rfl, Nat.le_of_ble_eq_true rfl⟩ ⟨Nat.le_of_ble_eq_true rfl, Nat.le_of_ble_eq_true rfl⟩ rfl rfl rfl (Nat.le_of_ble_eq_true rfl) dL_isLanded_247 rfl ?_
          refine rv_ishr (q := 251) E.x dL_isLanded_250 rfl ?_
          refine rv_iconst (q := 252) E.x dL_isLanded_251 rv_ki1 rfl ?_
          refine rv_iand (q := 253) E.x dL_isLanded_252 rfl ?_
          refine rv_iconst (q := 254) E.x dL_isLanded_253 rv_ki1 rfl ?_
          refine rv_icmp_ne (q := 257) (tgt := 283) E.x dL_isLanded_254 (by decide) rfl ?_ ?_
          · refine rv_iload (q := 259) E.x dL_isLanded_257 rfl rfl ?_
            refine rv_iload (q := 261) E.x dL_isLanded_259 rfl rfl ?_
            refine rv_icmp_ge (q := 264) (tgt := 279) E.x dL_isLanded_261 (by decide) rfl ?_ ?_
            · refine rv_iload (q := 266) E.x dL_isLanded_264 rfl rfl ?_
              refine rv_aload_n (q := 267) E.x dL_isLanded_266 rfl rfl ?_
              refine rv_aload_n (q := 268) E.x dL_isLanded_267 rfl rfl ?_
              refine rv_iload (q := 270) E.x dL_isLanded_268 rfl rfl ?_
              refine lk_x1r (fun r10 e9 => ?_) (fun w11 e12 => rv_stuck)
              refine lk_ci (q := 273) (v := r10) (M1 := M) E (fun u hI _ => c11_namedAfter E.2.2.1.1 hI e9) gP_121 hX11_namedAfter ⟨rfl, rfl⟩ ⟨Nat.le_of_ble_eq_true rfl, Nat.le_of_ble_eq_true rfl⟩ ⟨Nat.le_of_ble_eq_true rfl, Nat.le_of_ble_eq_true rfl⟩ rfl rfl rfl (Nat.le_of_ble_eq_true rfl) dL_isLanded_270 rfl ?_
              refine rv_b2 (fun r14 M15 e13 => ?_)
              refine lk_cs0 (q := 276) (v := r14) (σ' := (gh, M15, A)) E (wP_now E.2.2.1 e13) gPs_222 hP_now ⟨rfl, rfl⟩ ⟨Nat.le_of_ble_eq_true rfl, Nat.le_of_ble_eq_true rfl⟩ ⟨Nat.le_of_ble_eq_true rfl, Nat.le_of_ble_eq_true rfl⟩ rfl rfl rfl (Nat.le_of_ble_eq_true rfl) dL_isLanded_273 rfl ?_
              refine rv_icmp_ne (q := 279) (tgt := 283) E.x dL_isLanded_276 (by decide) rfl ?_ ?_
              · refine rv_wk [true, false, false, true, false, false, true, true, true, true, true, true, false, true, true] ?_
                exact bp_isLanded_279 E A k188 k207 h188 h207 gh M15 x3 x6 x7 x8 x9 x10 x11 x13 x14
              · refine rv_wk [true, false, false, true, false, false, true, true, true, true, true, true, false, true, true] ?_
                exact bp_isLanded_283 E A k188 k207 h188 h207 gh M15 x3 x6 x7 x8 x9 x10 x11 x13 x14
            · refine rv_wk [true, false, false, true, false, false, true, true, true, true, true, true, false, true, true] ?_
              exact bp_isLanded_279 E A k188 k207 h188 h207 gh M x3 x6 x7 x8 x9 x10 x11 x13 x14
          · refine rv_wk [true, false, false, true, false, false, true, true, true, true, true, true, false, true, true] ?_
            exact bp_isLanded_283 E A k188 k207 h188 h207 gh M x3 x6 x7 x8 x9 x10 x11 x13 x14
        · refine rv_wk [true, false, false, true, false, false, true, true, true, true, true, true, false, true, true] ?_
          exact bp_isLanded_283 E A k188 k207 h188 h207 gh M x3 x6 x7 x8 x9 x10 x11 x13 x14
      · refine rv_wk [true, false, false, true, false, false, true, true, true, true, true, true, true, true, true] ?_
        exact bp_isLanded_300 E A k188 h188 gh M x3 x6 x7 x8 x9 x10 x11 x12 x13 x14
    · refine rv_wk [true, false, false, true, false, false, true, true, true, true, true, true, true, true, true] ?_
      exact bp_isLanded_300 E A k188 h188 gh M x3 x6 x7 x8 x9 x10 x11 x12 x13 x14
  · refine rv_wk [true, false, false, true, false, false, true, true, true, true, true, true, true, true, true] ?_
    exact bp_isLanded_300 E A k188 h188 gh M x3 x6 x7 x8 x9 x10 x11 x12 x13 x14
set_option maxRecDepth 100000 in
theorem bp_isLanded_207_s {p : Program} {l : Launch} {e : Env} {s : State} {m : MethodId} {args : Array Value} {below : List Frame} {meth : Method} {c : Code} {D : va_G} {cI cZ cO : ClassId} {mi de z0 o b L : Nat} {k : Nat → Nat} {xs : Nat → Int32} (E : lk_E D cI cZ cO mi de z0 b L k xs cL_isLanded 15 (some .boolean) p l s m args meth c) (A : rv_Mem) (k188 : rC_gh → rv_Mem → Int32 → Int32 → Int32 → Int32 → Int32 → Int32 → Int32 → Bool → Int32 → Option (Bool × rC_gh × rv_Mem)) (h188 : ∀ (gh : rC_gh) (M : rv_Mem) (x3 : Int32) (x6 : Int32) (x7 : Int32) (x8 : Int32) (x9 : Int32) (x10 : Int32) (x11 : Int32) (x12 : Bool) (x13 : Int32), rv_M (lk_G D cI cZ cO de z0 o k) (fun q => z0 ≤ q) p l e rmp_isLanded s m args below meth c 4 199 (lk_qWZ D cI cZ cO de z0 o k A below args s 4 199) (k188 gh M x3 x6 x7 x8 x9 x10 x11 x12 x13) 188 [some (.ref o), none, none, some (.int x3), none, none, some (.int x6), some (.int x7), some (.int x8), some (.int x9), some (.int x10), some (.int x11), some (.int (rv_i x12)), some (.int x13), none] [] (gh, M, A)) (k207 : rC_gh → rv_Mem → Int32 → Int32 → Int32 → Int32 → Int32 → Int32 → Int32 → Bool → Int32 → Int32 → Option (Bool × rC_gh × rv_Mem)) (h207 : ∀ (gh : rC_gh) (M : rv_Mem) (x3 : Int32) (x6 : Int32) (x7 : Int32) (x8 : Int32) (x9 : Int32) (x10 : Int32) (x11 : Int32) (x12 : Bool) (x13 : Int32) (x14 : Int32), rv_M (lk_G D cI cZ cO de z0 o k) (fun q => z0 ≤ q) p l e rmp_isLanded s m args below meth c 4 199 (lk_qWZ D cI cZ cO de z0 o k A below args s 4 199) (k207 gh M x3 x6 x7 x8 x9 x10 x11 x12 x13 x14) 207 [some (.ref o), none, none, some (.int x3), none, none, some (.int x6), some (.int x7), some (.int x8), some (.int x9), some (.int x10), some (.int x11), some (.int (rv_i x12)), some (.int x13), some (.int x14)] [] (gh, M, A)) : ∀ (gh : rC_gh) (M : rv_Mem) (x3 : Int32) (x6 : Int32) (x7 : Int32) (x8 : Int32) (x9 : Int32) (x10 : Int32) (x11 : Int32) (x12 : Bool) (x13 : Int32) (x14 : Int32), rv_M (lk_G D cI cZ cO de z0 o k) (fun q => z0 ≤ q) p l e rmp_isLanded s m args below meth c 4 199 (lk_qWZ D cI cZ cO de z0 o k A below args s 4 199) (gp_isLanded_207_s A k188 k207 gh M x3 x6 x7 x8 x9 x10 x11 x12 x13 x14) 207 [some (.ref o), none, none, some (.int x3), none, none, some (.int x6), some (.int x7), some (.int x8), some (.int x9), some (.int x10), some (.int x11), some (.int (rv_i x12)), some (.int x13), some (.int x14)] [] (gh, M, A) := by
  intro gh M x3 x6 x7 x8 x9 x10 x11 x12 x13 x14
  unfold gp_isLanded_207_s
  refine rv_iload (q := 209) E.x dL_isLanded_207 rfl rfl ?_
  refine rv_iload (q := 211) E.x dL_isLanded_209 rfl rfl ?_
  refine rv_if_ne (q := 214) (tgt := 219) E.x dL_isLanded_211 (by decide) rfl ?_ ?_
  · refine rv_iload (q := 216) E.x dL_isLanded_214 rfl rfl ?_
    refine rv_goto (q := 221) E.x dL_isLanded_216 (by decide) ?_
    refine rv_wk [true, false, false, true, false, false, true, true, true, true, true, true, true, true, true] ?_
    exact bp_isLanded_221 E A k188 k207 h188 h207 gh M x3 x6 x7 x8 x9 x10 x11 x12 x13 x14 x14 x7
  · refine rv_iload (q := 221) E.x dL_isLanded_219 rfl rfl ?_
    refine rv_wk [true, false, false, true, false, false, true, true, true, true, true, true, true, true, true] ?_
    exact bp_isLanded_221 E A k188 k207 h188 h207 gh M x3 x6 x7 x8 x9 x10 x11 x12 x13 x14 x14 x8
theorem bp_isLanded_207 {p : Program} {l : Launch} {e : Env} {s : State} {m : MethodId} {args : Array Value} {below : List Frame} {meth : Method} {c : Code} {D : va_G} {cI cZ cO : ClassId} {mi de z0 o b L : Nat} {k : Nat → Nat} {xs : Nat → Int32} (E : lk_E D cI cZ cO mi de z0 b L k xs cL_isLanded 15 (some .boolean) p l s m args meth c) (A : rv_Mem) (k188 : rC_gh → rv_Mem → Int32 → Int32 → Int32 → Int32 → Int32 → Int32 → Int32 → Bool → Int32 → Option (Bool × rC_gh × rv_Mem)) (h188 : ∀ (gh : rC_gh) (M : rv_Mem) (x3 : Int32) (x6 : Int32) (x7 : Int32) (x8 : Int32) (x9 : Int32) (x10 : Int32) (x11 : Int32) (x12 : Bool) (x13 : Int32), rv_M (lk_G D cI cZ cO de z0 o k) (fun q => z0 ≤ q) p l e rmp_isLanded s m args below meth c 4 199 (lk_qWZ D cI cZ cO de z0 o k A below args s 4 199) (k188 gh M x3 x6 x7 x8 x9 x10 x11 x12 x13) 188 [some (.ref o), none, none, some (.int x3), none, none, some (.int x6), some (.int x7), some (.int x8), some (.int x9), some (.int x10), some (.int x11), some (.int (rv_i x12)), some (.int x13), none] [] (gh, M, A)) : ∀ (n : Nat), ∀ (gh : rC_gh) (M : rv_Mem) (x3 : Int32) (x6 : Int32) (x7 : Int32) (x8 : Int32) (x9 : Int32) (x10 : Int32) (x11 : Int32) (x12 : Bool) (x13 : Int32) (x14 : Int32), rv_M (lk_G D cI cZ cO de z0 o k) (fun q => z0 ≤ q) p l e rmp_isLanded s m args below meth c 4 199 (lk_qWZ D cI cZ cO de z0 o k A below args s 4 199) (gp_isLanded_207 A k188 n gh M x3 x6 x7 x8 x9 x10 x11 x12 x13 x14) 207 [some (.ref o), none, none, some (.int x3), none, none, some (.int x6), some (.int x7), some (.int x8), some (.int x9), some (.int x10), some (.int x11), some (.int (rv_i x12)), some (.int x13), some (.int x14)] [] (gh, M, A) := by
  intro n
  induction n with
  | zero => exact fun _ _ _ _ _ _ _ _ _ _ _ _ => rv_stuck
  | succ n ih => exact bp_isLanded_207_s E A k188 h188 (gp_isLanded_207 A k188 n) ih
set_option maxRecDepth 100000 in
theorem bp_isLanded_323 {p : Program} {l : Launch} {e : Env} {s : State} {m : MethodId} {args : Array Value} {below : List Frame} {meth : Method} {c : Code} {D : va_G} {cI cZ cO : ClassId} {mi de z0 o b L : Nat} {k : Nat → Nat} {xs : Nat → Int32} (E : lk_E D cI cZ cO mi de z0 b L k xs cL_isLanded 15 (some .boolean) p l s m args meth c) (A : rv_Mem)   : ∀ (gh : rC_gh) (M : rv_Mem) (x6 : Int32) (x9 : Int32) (x10 : Int32) (x11 : Int32) (x12 : Bool), rv_M (lk_G D cI cZ cO de z0 o k) (fun q => z0 ≤ q) p l e rmp_isLanded s m args below meth c 4 199 (lk_qWZ D cI cZ cO de z0 o k A below args s 4 199) (gp_isLanded_323 A gh M x6 x9 x10 x11 x12) 323 [some (.ref o), none, none, none, none, none, some (.int x6), none, none, some (.int x9), some (.int x10), some (.int x11), some (.int (rv_i x12)), none, none] [] (gh, M, A) := by
  intro gh M x6 x9 x10 x11 x12
  unfold gp_isLanded_323
  refine rv_iload (q := 325) E.x dL_isLanded_323 rfl rfl ?_
  refine rv_ifz_eq (q := 328) (tgt := 364) E.x dL_isLanded_325 (by decide) rfl ?_ ?_
  · refine rv_iload (q := 330) E.x dL_isLanded_328 rfl rfl ?_
    refine rv_iload (q := 332) E.x dL_isLanded_330 rfl rfl ?_
    refine rv_icmp_ne (q := 335) (tgt := 364) E.x dL_isLanded_332 (by decide) rfl ?_ ?_
    · refine rv_iload (q := 337) E.x dL_isLanded_335 rfl rfl ?_
      refine rv_iconst (q := 338) E.x dL_isLanded_337 rv_ki1 rfl ?_
      refine rv_icmp_lt (q := 341) (tgt := 364) E.x dL_isLanded_338 (by decide) rfl ?_ ?_
      · refine rv_iload (q := 343) E.x dL_isLanded_341 rfl rfl ?_
        refine rv_iload (q := 345) E.x dL_isLanded_343 rfl rfl ?_
        refine rv_icmp_gt (q := 348) (tgt := 364) E.x dL_isLanded_345 (by decide) rfl ?_ ?_
        · refine rv_aload_n (q := 349) E.x dL_isLanded_348 rfl rfl ?_
          refine rv_b1 (fun r2 e1 => ?_)
          refine lk_cn (q := 352) (v := r2) (M1 := M) E (fun u hI => c11_commits hI e1) gP_181 hX11_commits ⟨rfl, rfl⟩ ⟨Nat.le_of_ble_eq_true rfl, Nat.le_of_ble_eq_true rfl⟩ ⟨Nat.le_of_ble_eq_true rfl, Nat.le_of_ble_eq_true rfl⟩ rfl rfl rfl (Nat.le_of_ble_eq_true rfl) dL_isLanded_349 rfl ?_
          refine rv_iload (q := 354) E.x dL_isLanded_352 rfl rfl ?_
          refine rv_iload (q := 356) E.x dL_isLanded_354 rfl rfl ?_
          refine rv_iadd (q := 357) E.x dL_isLanded_356 rfl ?_
          refine rv_icmp_gt (q := 360) (tgt := 364) E.x dL_isLanded_357 (by decide) rfl ?_ ?_
          · refine rv_iconst (q := 361) E.x dL_isLanded_360 rv_ki1 rfl ?_
            refine rv_goto (q := 365) E.x dL_isLanded_361 (by decide) ?_
            exact lk_zret E true rfl ⟨Nat.le_of_ble_eq_true rfl, Nat.le_of_ble_eq_true rfl⟩ dL_isLanded_365
          · refine rv_iconst (q := 365) E.x dL_isLanded_364 rv_ki0 rfl ?_
            exact lk_zret E false rfl ⟨Nat.le_of_ble_eq_true rfl, Nat.le_of_ble_eq_true rfl⟩ dL_isLanded_365
        · refine rv_iconst (q := 365) E.x dL_isLanded_364 rv_ki0 rfl ?_
          exact lk_zret E false rfl ⟨Nat.le_of_ble_eq_true rfl, Nat.le_of_ble_eq_true rfl⟩ dL_isLanded_365
      · refine rv_iconst (q := 365) E.x dL_isLanded_364 rv_ki0 rfl ?_
        exact lk_zret E false rfl ⟨Nat.le_of_ble_eq_true rfl, Nat.le_of_ble_eq_true rfl⟩ dL_isLanded_365
    · refine rv_iconst (q := 365) E.x dL_isLanded_364 rv_ki0 rfl ?_
      exact lk_zret E false rfl ⟨Nat.le_of_ble_eq_true rfl, Nat.le_of_ble_eq_true rfl⟩ dL_isLanded_365
  · refine rv_iconst (q := 365) E.x dL_isLanded_364 rv_ki0 rfl ?_
    exact lk_zret E false rfl ⟨Nat.le_of_ble_eq_true rfl, Nat.le_of_ble_eq_true rfl⟩ dL_isLanded_365
set_option maxRecDepth 100000 in
theorem bp_isLanded_188_s {p : Program} {l : Launch} {e : Env} {s : State} {m : MethodId} {args : Array Value} {below : List Frame} {meth : Method} {c : Code} {D : va_G} {cI cZ cO : ClassId} {mi de z0 o b L : Nat} {k : Nat → Nat} {xs : Nat → Int32} (E : lk_E D cI cZ cO mi de z0 b L k xs cL_isLanded 15 (some .boolean) p l s m args meth c) (A : rv_Mem)   (k188 : rC_gh → rv_Mem → Int32 → Int32 → Int32 → Int32 → Int32 → Int32 → Int32 → Bool → Int32 → Option (Bool × rC_gh × rv_Mem)) (h188 : ∀ (gh : rC_gh) (M : rv_Mem) (x3 : Int32) (x6 : Int32) (x7 : Int32) (x8 : Int32) (x9 : Int32) (x10 : Int32) (x11 : Int32) (x12 : Bool) (x13 : Int32), rv_M (lk_G D cI cZ cO de z0 o k) (fun q => z0 ≤ q) p l e rmp_isLanded s m args below meth c 4 199 (lk_qWZ D cI cZ cO de z0 o k A below args s 4 199) (k188 gh M x3 x6 x7 x8 x9 x10 x11 x12 x13) 188 [some (.ref o), none, none, some (.int x3), none, none, some (.int x6), some (.int x7), some (.int x8), some (.int x9), some (.int x10), some (.int x11), some (.int (rv_i x12)), some (.int x13), none] [] (gh, M, A)) : ∀ (gh : rC_gh) (M : rv_Mem) (x3 : Int32) (x6 : Int32) (x7 : Int32) (x8 : Int32) (x9 : Int32) (x10 : Int32) (x11 : Int32) (x12 : Bool) (x13 : Int32), rv_M (lk_G D cI cZ cO de z0 o k) (fun q => z0 ≤ q) p l e rmp_isLanded s m args below meth c 4 199 (lk_qWZ D cI cZ cO de z0 o k A below args s 4 199) (gp_isLanded_188_s A k188 gh M x3 x6 x7 x8 x9 x10 x11 x12 x13) 188 [some (.ref o), none, none, some (.int x3), none, none, some (.int x6), some (.int x7), some (.int x8), some (.int x9), some (.int x10), some (.int x11), some (.int (rv_i x12)), some (.int x13), none] [] (gh, M, A) := by
  intro gh M x3 x6 x7 x8 x9 x10 x11 x12 x13
  unfold gp_isLanded_188_s
  refine rv_iload (q := 190) E.x dL_isLanded_188 rfl rfl ?_
  refine rv_iconst (q := 191) E.x dL_isLanded_190 rv_ki2 rfl ?_
  refine rv_icmp_ge (q := 194) (tgt := 323) E.x dL_isLanded_191 (by decide) rfl ?_ ?_
  · refine rv_iload (q := 196) E.x dL_isLanded_194 rfl rfl ?_
    refine rv_ifz_eq (q := 199) (tgt := 323) E.x dL_isLanded_196 (by decide) rfl ?_ ?_
    · refine rv_aload_n (q := 200) E.x dL_isLanded_199 rfl rfl ?_
      refine rv_iload (q := 202) E.x dL_isLanded_200 rfl rfl ?_
      refine lk_x1r (fun r2 e1 => ?_) (fun w3 e4 => rv_stuck)
      refine lk_ci (q := 205) (v := r2) (M1 := M) E (fun u hI _ => c11_tip E.2.2.1.1 hI e1) gP_118 hX11_tip ⟨rfl, rfl⟩ ⟨Nat.le_of_ble_eq_true rfl, Nat.le_of_ble_eq_true rfl⟩ ⟨Nat.le_of_ble_eq_true rfl, Nat.le_of_ble_eq_true rfl⟩ rfl rfl rfl (Nat.le_of_ble_eq_true rfl) dL_isLanded_202 rfl ?_
      refine rv_istore (q := 207) (lv' := [_, _, _, _, _, _, _, _, _, _, _, _, _, _, _]) E.x dL_isLanded_205 (Nat.le_of_ble_eq_true rfl) rfl rfl rfl ?_
      refine rv_wk [true, false, false, true, false, false, true, true, true, true, true, true, true, true, true] ?_
      exact bp_isLanded_207 E A k188 h188 rv_FU gh M x3 x6 x7 x8 x9 x10 x11 x12 x13 r2
    · refine rv_wk [true, false, false, false, false, false, true, false, false, true, true, true, true, false, false] ?_
      exact bp_isLanded_323 E A gh M x6 x9 x10 x11 x12
  · refine rv_wk [true, false, false, false, false, false, true, false, false, true, true, true, true, false, false] ?_
    exact bp_isLanded_323 E A gh M x6 x9 x10 x11 x12
theorem bp_isLanded_188 {p : Program} {l : Launch} {e : Env} {s : State} {m : MethodId} {args : Array Value} {below : List Frame} {meth : Method} {c : Code} {D : va_G} {cI cZ cO : ClassId} {mi de z0 o b L : Nat} {k : Nat → Nat} {xs : Nat → Int32} (E : lk_E D cI cZ cO mi de z0 b L k xs cL_isLanded 15 (some .boolean) p l s m args meth c) (A : rv_Mem)   : ∀ (n : Nat), ∀ (gh : rC_gh) (M : rv_Mem) (x3 : Int32) (x6 : Int32) (x7 : Int32) (x8 : Int32) (x9 : Int32) (x10 : Int32) (x11 : Int32) (x12 : Bool) (x13 : Int32), rv_M (lk_G D cI cZ cO de z0 o k) (fun q => z0 ≤ q) p l e rmp_isLanded s m args below meth c 4 199 (lk_qWZ D cI cZ cO de z0 o k A below args s 4 199) (gp_isLanded_188 A n gh M x3 x6 x7 x8 x9 x10 x11 x12 x13) 188 [some (.ref o), none, none, some (.int x3), none, none, some (.int x6), some (.int x7), some (.int x8), some (.int x9), some (.int x10), some (.int x11), some (.int (rv_i x12)), some (.int x13), none] [] (gh, M, A) := by
  intro n
  induction n with
  | zero => exact fun _ _ _ _ _ _ _ _ _ _ _ => rv_stuck
  | succ n ih => exact bp_isLanded_188_s E A (gp_isLanded_188 A n) ih
set_option maxRecDepth 100000 in
theorem bp_isLanded_102_s {p : Program} {l : Launch} {e : Env} {s : State} {m : MethodId} {args : Array Value} {below : List Frame} {meth : Method} {c : Code} {D : va_G} {cI cZ cO : ClassId} {mi de z0 o b L : Nat} {k : Nat → Nat} {xs : Nat → Int32} (E : lk_E D cI cZ cO mi de z0 b L k xs cL_isLanded 15 (some .boolean) p l s m args meth c) (A : rv_Mem)   (k102 : rC_gh → rv_Mem → Int32 → Int32 → Int32 → Int32 → Int32 → Int32 → Bool → Int32 → Option (Bool × rC_gh × rv_Mem)) (h102 : ∀ (gh : rC_gh) (M : rv_Mem) (x3 : Int32) (x6 : Int32) (x7 : Int32) (x8 : Int32) (x9 : Int32) (x10 : Int32) (x12 : Bool) (x13 : Int32), rv_M (lk_G D cI cZ cO de z0 o k) (fun q => z0 ≤ q) p l e rmp_isLanded s m args below meth c 4 199 (lk_qWZ D cI cZ cO de z0 o k A below args s 4 199) (k102 gh M x3 x6 x7 x8 x9 x10 x12 x13) 102 [some (.ref o), none, none, some (.int x3), none, none, some (.int x6), some (.int x7), some (.int x8), some (.int x9), some (.int x10), some (.int 0), some (.int (rv_i x12)), some (.int x13), none] [] (gh, M, A)) : ∀ (gh : rC_gh) (M : rv_Mem) (x3 : Int32) (x6 : Int32) (x7 : Int32) (x8 : Int32) (x9 : Int32) (x10 : Int32) (x12 : Bool) (x13 : Int32), rv_M (lk_G D cI cZ cO de z0 o k) (fun q => z0 ≤ q) p l e rmp_isLanded s m args below meth c 4 199 (lk_qWZ D cI cZ cO de z0 o k A below args s 4 199) (gp_isLanded_102_s A k102 gh M x3 x6 x7 x8 x9 x10 x12 x13) 102 [some (.ref o), none, none, some (.int x3), none, none, some (.int x6), some (.int x7), some (.int x8), some (.int x9), some (.int x10), some (.int 0), some (.int (rv_i x12)), some (.int x13), none] [] (gh, M, A) := by
  intro gh M x3 x6 x7 x8 x9 x10 x12 x13
  unfold gp_isLanded_102_s
  refine rv_iload (q := 104) E.x dL_isLanded_102 rfl rfl ?_
  refine rv_aload_n (q := 105) E.x dL_isLanded_104 rfl rfl ?_
  refine rv_b1 (fun r2 e1 => ?_)
  refine lk_cn (q := 108) (v := r2) (M1 := M) E (fun u hI => c11_changes hI e1) gP_187 hX11_changes ⟨rfl, rfl⟩ ⟨Nat.le_of_ble_eq_true rfl, Nat.le_of_ble_eq_true rfl⟩ ⟨Nat.le_of_ble_eq_true rfl, Nat.le_of_ble_eq_true rfl⟩ rfl rfl rfl (Nat.le_of_ble_eq_true rfl) dL_isLanded_105 rfl ?_
  refine rv_icmp_ge (q := 111) (tgt := 185) E.x dL_isLanded_108 (by decide) rfl ?_ ?_
  · refine rv_iload_n (q := 112) E.x dL_isLanded_111 rfl rfl ?_
    refine rv_iload (q := 114) E.x dL_isLanded_112 rfl rfl ?_
    refine rv_ishr (q := 115) E.x dL_isLanded_114 rfl ?_
    refine rv_iconst (q := 116) E.x dL_isLanded_115 rv_ki1 rfl ?_
    refine rv_iand (q := 117) E.x dL_isLanded_116 rfl ?_
    refine rv_iconst (q := 118) E.x dL_isLanded_117 rv_ki1 rfl ?_
    refine rv_icmp_ne (q := 121) (tgt := 125) E.x dL_isLanded_118 (by decide) rfl ?_ ?_
    · refine rv_iconst (q := 122) E.x dL_isLanded_121 rv_ki1 rfl ?_
      refine rv_goto (q := 126) E.x dL_isLanded_122 (by decide) ?_
      refine rv_wk [true, false, false, true, false, false, true, true, true, true, true, true, true, true, false] ?_
      exact bp_isLanded_126 E A k102 h102 gh M x3 x6 x7 x8 x9 x10 x12 x13 true
    · refine rv_iconst (q := 126) E.x dL_isLanded_125 rv_ki0 rfl ?_
      refine rv_wk [true, false, false, true, false, false, true, true, true, true, true, true, true, true, false] ?_
      exact bp_isLanded_126 E A k102 h102 gh M x3 x6 x7 x8 x9 x10 x12 x13 false
  · refine rv_iconst (q := 186) E.x dL_isLanded_185 rv_ki0 rfl ?_
    refine rv_istore (q := 188) (lv' := [_, _, _, _, _, _, _, _, _, _, _, _, _, _, _]) E.x dL_isLanded_186 (Nat.le_of_ble_eq_true rfl) rfl rfl rfl ?_
    refine rv_wk [true, false, false, true, false, false, true, true, true, true, true, true, true, true, false] ?_
    exact bp_isLanded_188 E A rv_FU gh M x3 x6 x7 x8 x9 x10 0 x12 0
theorem bp_isLanded_102 {p : Program} {l : Launch} {e : Env} {s : State} {m : MethodId} {args : Array Value} {below : List Frame} {meth : Method} {c : Code} {D : va_G} {cI cZ cO : ClassId} {mi de z0 o b L : Nat} {k : Nat → Nat} {xs : Nat → Int32} (E : lk_E D cI cZ cO mi de z0 b L k xs cL_isLanded 15 (some .boolean) p l s m args meth c) (A : rv_Mem)   : ∀ (n : Nat), ∀ (gh : rC_gh) (M : rv_Mem) (x3 : Int32) (x6 : Int32) (x7 : Int32) (x8 : Int32) (x9 : Int32) (x10 : Int32) (x12 : Bool) (x13 : Int32), rv_M (lk_G D cI cZ cO de z0 o k) (fun q => z0 ≤ q) p l e rmp_isLanded s m args below meth c 4 199 (lk_qWZ D cI cZ cO de z0 o k A below args s 4 199) (gp_isLanded_102 A n gh M x3 x6 x7 x8 x9 x10 x12 x13) 102 [some (.ref o), none, none, some (.int x3), none, none, some (.int x6), some (.int x7), some (.int x8), some (.int x9), some (.int x10), some (.int 0), some (.int (rv_i x12)), some (.int x13), none] [] (gh, M, A) := by
  intro n
  induction n with
  | zero => exact fun _ _ _ _ _ _ _ _ _ _ => rv_stuck
  | succ n ih => exact bp_isLanded_102_s E A (gp_isLanded_102 A n) ih
set_option maxRecDepth 100000 in
theorem bp_isLanded {p : Program} {l : Launch} {e : Env} {s : State} {m : MethodId} {args : Array Value} {below : List Frame} {meth : Method} {c : Code} {D : va_G} {cI cZ cO : ClassId} {mi de z0 o b L : Nat} {k : Nat → Nat} {xs : Nat → Int32} (E : lk_E D cI cZ cO mi de z0 b L k xs cL_isLanded 15 (some .boolean) p l s m args meth c) (gh : rC_gh) (M A : rv_Mem) (a2 : Int32) (a3 : Int32) : rv_M (lk_G D cI cZ cO de z0 o k) (fun q => z0 ≤ q) p l e rmp_isLanded s m args below meth c 0 0 (lk_qWZ D cI cZ cO de z0 o k A below args s 4 199) (gp_isLanded gh M A a2 a3) 0 [some (.ref o), some (.int a2), some (.int a3), none, none, none, none, none, none, none, none, none, none, none, none] [] (gh, M, A) := by
  unfold gp_isLanded
  refine rv_aload_n (q := 1) E.x dL_isLanded_0 rfl rfl ?_
  refine rv_bipush (q := 3) E.x dL_isLanded_1 rv_kb12 rfl ?_
  refine rv_iload_n (q := 4) E.x dL_isLanded_3 rfl rfl ?_
  refine rv_iconst (q := 5) E.x dL_isLanded_4 rv_ki0 rfl ?_
  refine rv_iconst (q := 6) E.x dL_isLanded_5 rv_ki0 rfl ?_
  refine rv_iconst (q := 7) E.x dL_isLanded_6 rv_ki0 rfl ?_
  refine rv_b2 (fun r2 M3 e1 => ?_)
  refine lk_csW (q := 10) (v := r2) (σ' := (gh, M3, A)) E (wP_of E.2.2.1 e1) gPs_218 hP_of ⟨rfl, rfl⟩ ⟨Nat.le_of_ble_eq_true rfl, Nat.le_of_ble_eq_true rfl⟩ ⟨Nat.le_of_ble_eq_true rfl, Nat.le_of_ble_eq_true rfl⟩ rfl rfl rfl (Nat.le_of_ble_eq_true rfl) dL_isLanded_7 rfl ?_
  refine rv_istore_n (q := 11) (lv' := [_, _, _, _, _, _, _, _, _, _, _, _, _, _, _]) E.x dL_isLanded_10 (Nat.le_of_ble_eq_true rfl) rfl rfl rfl ?_
  refine rv_aload_n (q := 12) E.x dL_isLanded_11 rfl rfl ?_
  refine rv_b2 (fun r5 M6 e4 => ?_)
  refine lk_csl0 (q := 15) (v := r5) (σ' := (gh, M6, A)) E (wP_all E.2.2.1 e4) gPs_237 hP_all ⟨rfl, rfl⟩ ⟨Nat.le_of_ble_eq_true rfl, Nat.le_of_ble_eq_true rfl⟩ ⟨Nat.le_of_ble_eq_true rfl, Nat.le_of_ble_eq_true rfl⟩ rfl rfl rfl (Nat.le_of_ble_eq_true rfl) dL_isLanded_12 rfl ?_
  refine rv_lstore (q := 17) (lv' := [_, _, _, _, _, _, _, _, _, _, _, _, _, _, _]) E.x dL_isLanded_15 (Nat.le_of_ble_eq_true rfl) rfl rfl rfl ?_
  refine rv_aload_n (q := 18) E.x dL_isLanded_17 rfl rfl ?_
  refine rv_b1 (fun r8 e7 => ?_)
  refine lk_cn (q := 21) (v := r8) (M1 := M6) E (fun u hI => c11_commits hI e7) gP_181 hX11_commits ⟨rfl, rfl⟩ ⟨Nat.le_of_ble_eq_true rfl, Nat.le_of_ble_eq_true rfl⟩ ⟨Nat.le_of_ble_eq_true rfl, Nat.le_of_ble_eq_true rfl⟩ rfl rfl rfl (Nat.le_of_ble_eq_true rfl) dL_isLanded_18 rfl ?_
  refine rv_istore (q := 23) (lv' := [_, _, _, _, _, _, _, _, _, _, _, _, _, _, _]) E.x dL_isLanded_21 (Nat.le_of_ble_eq_true rfl) rfl rfl rfl ?_
  refine rv_aload_n (q := 24) E.x dL_isLanded_23 rfl rfl ?_
  refine rv_iconst (q := 25) E.x dL_isLanded_24 rv_ki0 rfl ?_
  refine lk_x1r (fun r10 e9 => ?_) (fun w11 e12 => rv_stuck)
  refine lk_ci (q := 28) (v := r10) (M1 := M6) E (fun u hI _ => c11_tip E.2.2.1.1 hI e9) gP_118 hX11_tip ⟨rfl, rfl⟩ ⟨Nat.le_of_ble_eq_true rfl, Nat.le_of_ble_eq_true rfl⟩ ⟨Nat.le_of_ble_eq_true rfl, Nat.le_of_ble_eq_true rfl⟩ rfl rfl rfl (Nat.le_of_ble_eq_true rfl) dL_isLanded_25 rfl ?_
  refine rv_istore (q := 30) (lv' := [_, _, _, _, _, _, _, _, _, _, _, _, _, _, _]) E.x dL_isLanded_28 (Nat.le_of_ble_eq_true rfl) rfl rfl rfl ?_
  refine rv_aload_n (q := 31) E.x dL_isLanded_30 rfl rfl ?_
  refine rv_iconst (q := 32) E.x dL_isLanded_31 rv_ki1 rfl ?_
  refine lk_x1r (fun r14 e13 => ?_) (fun w15 e16 => rv_stuck)
  refine lk_ci (q := 35) (v := r14) (M1 := M6) E (fun u hI _ => c11_tip E.2.2.1.1 hI e13) gP_118 hX11_tip ⟨rfl, rfl⟩ ⟨Nat.le_of_ble_eq_true rfl, Nat.le_of_ble_eq_true rfl⟩ ⟨Nat.le_of_ble_eq_true rfl, Nat.le_of_ble_eq_true rfl⟩ rfl rfl rfl (Nat.le_of_ble_eq_true rfl) dL_isLanded_32 rfl ?_
  refine rv_istore (q := 37) (lv' := [_, _, _, _, _, _, _, _, _, _, _, _, _, _, _]) E.x dL_isLanded_35 (Nat.le_of_ble_eq_true rfl) rfl rfl rfl ?_
  refine rv_aload_n (q := 38) E.x dL_isLanded_37 rfl rfl ?_
  refine rv_bipush (q := 40) E.x dL_isLanded_38 rv_kb20 rfl ?_
  refine rv_iload_n (q := 41) E.x dL_isLanded_40 rfl rfl ?_
  refine rv_iload_n (q := 42) E.x dL_isLanded_41 rfl rfl ?_
  refine rv_iconst (q := 43) E.x dL_isLanded_42 rv_ki0 rfl ?_
  refine rv_iconst (q := 44) E.x dL_isLanded_43 rv_ki0 rfl ?_
  refine rv_iconst (q := 45) E.x dL_isLanded_44 rv_ki0 rfl ?_
  refine lk_b3 (fun r18 g20 M19 e17 => ?_)
  refine lk_csW (q := 48) (v := r18) (σ' := (g20, M19, A)) E (wP_act E.2.2.1 e17) gPs_241 hP_act ⟨rfl, rfl⟩ ⟨Nat.le_of_ble_eq_true rfl, Nat.le_of_ble_eq_true rfl⟩ ⟨Nat.le_of_ble_eq_true rfl, Nat.le_of_ble_eq_true rfl⟩ rfl rfl rfl (Nat.le_of_ble_eq_true rfl) dL_isLanded_45 rfl ?_
  refine rv_istore (q := 50) (lv' := [_, _, _, _, _, _, _, _, _, _, _, _, _, _, _]) E.x dL_isLanded_48 (Nat.le_of_ble_eq_true rfl) rfl rfl rfl ?_
  refine rv_iload (q := 52) E.x dL_isLanded_50 rfl rfl ?_
  refine rv_if_gt (q := 55) (tgt := 90) E.x dL_isLanded_52 (by decide) rfl ?_ ?_
  · refine rv_aload_n (q := 56) E.x dL_isLanded_55 rfl rfl ?_
    refine rv_b2 (fun r22 M23 e21 => ?_)
    refine lk_csl0 (q := 59) (v := r22) (σ' := (g20, M23, A)) E (wP_all E.2.2.1 e21) gPs_237 hP_all ⟨rfl, rfl⟩ ⟨Nat.le_of_ble_eq_true rfl, Nat.le_of_ble_eq_true rfl⟩ ⟨Nat.le_of_ble_eq_true rfl, Nat.le_of_ble_eq_true rfl⟩ rfl rfl rfl (Nat.le_of_ble_eq_true rfl) dL_isLanded_56 rfl ?_
    refine rv_lload (q := 61) E.x dL_isLanded_59 rfl rfl ?_
    refine rv_lcmp (q := 62) E.x dL_isLanded_61 rfl ?_
    refine rv_if_ne (q := 65) (tgt := 88) E.x dL_isLanded_62 (by decide) rfl ?_ ?_
    · refine rv_iload (q := 67) E.x dL_isLanded_65 rfl rfl ?_
      refine rv_if_eq (q := 70) (tgt := 84) E.x dL_isLanded_67 (by decide) rfl ?_ ?_
      · refine rv_iload (q := 72) E.x dL_isLanded_70 rfl rfl ?_
        refine rv_iconst (q := 73) E.x dL_isLanded_72 rv_kim1 rfl ?_
        refine rv_icmp_eq (q := 76) (tgt := 84) E.x dL_isLanded_73 (by decide) rfl ?_ ?_
        · refine rv_iload (q := 78) E.x dL_isLanded_76 rfl rfl ?_
          refine rv_sipush (q := 81) E.x dL_isLanded_78 rv_ksm1263 rfl ?_
          refine rv_icmp_ne (q := 84) (tgt := 88) E.x dL_isLanded_81 (by decide) rfl ?_ ?_
          · refine rv_wk [false, false, false, false, false, false, false, false, false, false, false, false, false, false, false] ?_
            exact bp_isLanded_84 E A g20 M23
          · refine rv_iconst (q := 89) E.x dL_isLanded_88 rv_ki0 rfl ?_
            exact lk_zret E false rfl ⟨Nat.le_of_ble_eq_true rfl, Nat.le_of_ble_eq_true rfl⟩ dL_isLanded_89
        · refine rv_wk [false, false, false, false, false, false, false, false, false, false, false, false, false, false, false] ?_
          exact bp_isLanded_84 E A g20 M23
      · refine rv_wk [false, false, false, false, false, false, false, false, false, false, false, false, false, false, false] ?_
        exact bp_isLanded_84 E A g20 M23
    · refine rv_iconst (q := 89) E.x dL_isLanded_88 rv_ki0 rfl ?_
      exact lk_zret E false rfl ⟨Nat.le_of_ble_eq_true rfl, Nat.le_of_ble_eq_true rfl⟩ dL_isLanded_89
  · refine rv_iconst (q := 91) E.x dL_isLanded_90 rv_ki0 rfl ?_
    refine rv_istore (q := 93) (lv' := [_, _, _, _, _, _, _, _, _, _, _, _, _, _, _]) E.x dL_isLanded_91 (Nat.le_of_ble_eq_true rfl) rfl rfl rfl ?_
    refine rv_iconst (q := 94) E.x dL_isLanded_93 rv_ki0 rfl ?_
    refine rv_istore (q := 96) (lv' := [_, _, _, _, _, _, _, _, _, _, _, _, _, _, _]) E.x dL_isLanded_94 (Nat.le_of_ble_eq_true rfl) rfl rfl rfl ?_
    refine rv_iconst (q := 97) E.x dL_isLanded_96 rv_ki1 rfl ?_
    refine rv_istore (q := 99) (lv' := [_, _, _, _, _, _, _, _, _, _, _, _, _, _, _]) E.x dL_isLanded_97 (Nat.le_of_ble_eq_true rfl) rfl rfl rfl ?_
    refine rv_iconst (q := 100) E.x dL_isLanded_99 rv_ki0 rfl ?_
    refine rv_istore (q := 102) (lv' := [_, _, _, _, _, _, _, _, _, _, _, _, _, _, _]) E.x dL_isLanded_100 (Nat.le_of_ble_eq_true rfl) rfl rfl rfl ?_
    refine rv_wk [true, false, false, true, false, false, true, true, true, true, true, true, true, true, false] ?_
    exact bp_isLanded_102 E A rv_FU g20 M19 r2 r8 r10 r14 r18 0 true 0
theorem wP_isLanded {l : Launch} {D : va_G} {cI cZ cO : ClassId} {mi de z0 o b L : Nat} {k : Nat → Nat} {xs : Nat → Int32} (S : lk_S l de z0 b k) {gh : rC_gh} {M A : rv_Mem} {a2 : Int32} {a3 : Int32} {r : Bool} {gh1 : rC_gh} {M1 : rv_Mem} (h : gp_isLanded gh M A a2 a3 = some (r, gh1, M1)) : Met l yL_isLanded (rv_ws yL_isLanded cL_isLanded 15 (some .boolean)) rmp_isLanded (va_Pc [.ref o, .int a2, .int a3] (lk_P D cI cZ cO mi de z0 o b L k xs (gh, M, A))) (lk_qi D cI cZ cO de z0 o k (rv_i r) (gh1, M1, A)) 4 199 (fun q => z0 ≤ q) := lk_met S rfl (Nat.le_of_ble_eq_true rfl) (fun p e s m args below meth c E => ⟨(lk_qWZ D cI cZ cO de z0 o k A below args s 4 199), rfl, bp_isLanded E gh M A a2 a3⟩) h
abbrev rmp_isRefused : Room := { frames := 11, cells := 511, slots := 24390, locals := 277 }
set_option maxRecDepth 100000 in
theorem bp_isRefused_1430 {p : Program} {l : Launch} {e : Env} {s : State} {m : MethodId} {args : Array Value} {below : List Frame} {meth : Method} {c : Code} {D : va_G} {cI cZ cO : ClassId} {mi de z0 o b L : Nat} {k : Nat → Nat} {xs : Nat → Int32} (E : lk_E D cI cZ cO mi de z0 b L k xs cL_isRefused 15 (some .boolean) p l s m args meth c) (A : rv_Mem) (k978 : rC_gh → rv_Mem → Int32 → Bool → Int32 → Int32 → Int32 → Int32 → Int64 → Bool → Int32 → Option (Bool × rC_gh × rv_Mem)) (y1 y2 : Nat) (hy1 : y1 + 43 ≤ 495) (hy2 : y2 + 1946 ≤ 24294) (h978 : ∀ (gh : rC_gh) (M : rv_Mem) (x3 : Int32) (x4 : Bool) (x5 : Int32) (x6 : Int32) (x8 : Int32) (x9 : Int32) (x10 : Int64) (x12 : Bool) (x13 : Int32), rv_M (lk_G D cI cZ cO de z0 o k) (fun q => z0 ≤ q) p l e rmp_isRefused s m args below meth c (y1 + 43) (y2 + 1946) (lk_qWZ D cI cZ cO de z0 o k A below args s 511 24390) (k978 gh M x3 x4 x5 x6 x8 x9 x10 x12 x13) 978 [some (.ref o), none, none, some (.int x3), some (.int (rv_i x4)), some (.int x5), some (.int x6), none, some (.int x8), some (.int x9), some (.long x10), none, some (.int (rv_i x12)), some (.int x13), none] [] (gh, M, A)) : ∀ (gh : rC_gh) (M : rv_Mem) (x3 : Int32) (x4 : Bool) (x5 : Int32) (x6 : Int32) (x8 : Int32) (x9 : Int32) (x10 : Int64) (x13 : Int32) (s0 : Bool), rv_M (lk_G D cI cZ cO de z0 o k) (fun q => z0 ≤ q) p l e rmp_isRefused s m args below meth c (y1 + 43) (y2 + 1946) (lk_qWZ D cI cZ cO de z0 o k A below args s 511 24390) (gp_isRefused_1430 A k978 gh M x3 x4 x5 x6 x8 x9 x10 x13 s0) 1430 [some (.ref o), none, none, some (.int x3), some (.int (rv_i x4)), some (.int x5), some (.int x6), none, some (.int x8), some (.int x9), some (.long x10), none, none, some (.int x13), none] [.int (rv_i s0)] (gh, M, A) := by
  intro gh M x3 x4 x5 x6 x8 x9 x10 x13 s0
  unfold gp_isRefused_1430
  refine rv_istore (q := 1432) (lv' := [_, _, _, _, _, _, _, _, _, _, _, _, _, _, _]) E.x dL_isRefused_1430 (Nat.le_of_ble_eq_true rfl) rfl rfl rfl ?_
  refine rv_iinc (q := 1435) (lv' := [_, _, _, _, _, _, _, _, _, _, _, _, _, _, _]) E.x dL_isRefused_1432 rv_ki1 rfl rfl rfl rfl ?_
  refine rv_goto (q := 978) E.x dL_isRefused_1435 (by decide) ?_
  refine rv_wk [true, false, false, true, true, true, true, false, true, true, true, false, true, true, false] ?_
  exact h978 gh M x3 x4 x5 x6 x8 x9 x10 s0 (x13 + 1)
set_option maxRecDepth 100000 in
theorem bp_isRefused_1429 {p : Program} {l : Launch} {e : Env} {s : State} {m : MethodId} {args : Array Value} {below : List Frame} {meth : Method} {c : Code} {D : va_G} {cI cZ cO : ClassId} {mi de z0 o b L : Nat} {k : Nat → Nat} {xs : Nat → Int32} (E : lk_E D cI cZ cO mi de z0 b L k xs cL_isRefused 15 (some .boolean) p l s m args meth c) (A : rv_Mem) (k978 : rC_gh → rv_Mem → Int32 → Bool → Int32 → Int32 → Int32 → Int32 → Int64 → Bool → Int32 → Option (Bool × rC_gh × rv_Mem)) (y1 y2 : Nat) (hy1 : y1 + 43 ≤ 495) (hy2 : y2 + 1946 ≤ 24294) (h978 : ∀ (gh : rC_gh) (M : rv_Mem) (x3 : Int32) (x4 : Bool) (x5 : Int32) (x6 : Int32) (x8 : Int32) (x9 : Int32) (x10 : Int64) (x12 : Bool) (x13 : Int32), rv_M (lk_G D cI cZ cO de z0 o k) (fun q => z0 ≤ q) p l e rmp_isRefused s m args below meth c (y1 + 43) (y2 + 1946) (lk_qWZ D cI cZ cO de z0 o k A below args s 511 24390) (k978 gh M x3 x4 x5 x6 x8 x9 x10 x12 x13) 978 [some (.ref o), none, none, some (.int x3), some (.int (rv_i x4)), some (.int x5), some (.int x6), none, some (.int x8), some (.int x9), some (.long x10), none, some (.int (rv_i x12)), some (.int x13), none] [] (gh, M, A)) : ∀ (gh : rC_gh) (M : rv_Mem) (x3 : Int32) (x4 : Bool) (x5 : Int32) (x6 : Int32) (x8 : Int32) (x9 : Int32) (x10 : Int64) (x13 : Int32), rv_M (lk_G D cI cZ cO de z0 o k) (fun q => z0 ≤ q) p l e rmp_isRefused s m args below meth c (y1 + 43) (y2 + 1946) (lk_qWZ D cI cZ cO de z0 o k A below args s 511 24390) (gp_isRefused_1429 A k978 gh M x3 x4 x5 x6 x8 x9 x10 x13) 1429 [some (.ref o), none, none, some (.int x3), some (.int (rv_i x4)), some (.int x5), some (.int x6), none, some (.int x8), some (.int x9), some (.long x10), none, none, some (.int x13), none] [] (gh, M, A) := by
  intro gh M x3 x4 x5 x6 x8 x9 x10 x13
  unfold gp_isRefused_1429
  refine rv_iconst (q := 1430) E.x dL_isRefused_1429 rv_ki0 rfl ?_
  refine rv_wk [true, false, false, true, true, true, true, false, true, true, true, false, false, true, false] ?_
  exact bp_isRefused_1430 E A k978 y1 y2 hy1 hy2 h978 gh M x3 x4 x5 x6 x8 x9 x10 x13 false
set_option maxRecDepth 100000 in
theorem bp_isRefused_1340 {p : Program} {l : Launch} {e : Env} {s : State} {m : MethodId} {args : Array Value} {below : List Frame} {meth : Method} {c : Code} {D : va_G} {cI cZ cO : ClassId} {mi de z0 o b L : Nat} {k : Nat → Nat} {xs : Nat → Int32} (E : lk_E D cI cZ cO mi de z0 b L k xs cL_isRefused 15 (some .boolean) p l s m args meth c) (A : rv_Mem) (k978 : rC_gh → rv_Mem → Int32 → Bool → Int32 → Int32 → Int32 → Int32 → Int64 → Bool → Int32 → Option (Bool × rC_gh × rv_Mem)) (y1 y2 : Nat) (hy1 : y1 + 43 ≤ 495) (hy2 : y2 + 1946 ≤ 24294) (h978 : ∀ (gh : rC_gh) (M : rv_Mem) (x3 : Int32) (x4 : Bool) (x5 : Int32) (x6 : Int32) (x8 : Int32) (x9 : Int32) (x10 : Int64) (x12 : Bool) (x13 : Int32), rv_M (lk_G D cI cZ cO de z0 o k) (fun q => z0 ≤ q) p l e rmp_isRefused s m args below meth c (y1 + 43) (y2 + 1946) (lk_qWZ D cI cZ cO de z0 o k A below args s 511 24390) (k978 gh M x3 x4 x5 x6 x8 x9 x10 x12 x13) 978 [some (.ref o), none, none, some (.int x3), some (.int (rv_i x4)), some (.int x5), some (.int x6), none, some (.int x8), some (.int x9), some (.long x10), none, some (.int (rv_i x12)), some (.int x13), none] [] (gh, M, A)) : ∀ (gh : rC_gh) (M : rv_Mem) (x3 : Int32) (x4 : Bool) (x5 : Int32) (x6 : Int32) (x8 : Int32) (x9 : Int32) (x10 : Int64) (x13 : Int32) (x14 : Int32) (s1 : Int32) (s6 : Int32), rv_M (lk_G D cI cZ cO de z0 o k) (fun q => z0 ≤ q) p l e rmp_isRefused s m args below meth c (y1 + 36) (y2 + 1814) (lk_qWZ D cI cZ cO de z0 o k A below args s 511 24390) (gp_isRefused_1340 A k978 gh M x3 x4 x5 x6 x8 x9 x10 x13 x14 s1 s6) 1340 [some (.ref o), none, none, some (.int x3), some (.int (rv_i x4)), some (.int x5), some (.int x6), none, some (.int x8), some (.int x9), some (.long x10), none, none, some (.int x13), some (.int x14)] [.int s6, .int 0, .int 0, .int 0, .int 0, .int s1, .ref o] (gh, M, A) := by
  intro gh M x3 x4 x5 x6 x8 x9 x10 x13 x14 s1 s6
  unfold gp_isRefused_1340
  refine lk_b3 (fun r2 g4 M3 e1 => ?_)
  refine lk_csW (q := 1343) (v := r2) (σ' := (g4, M3, A)) E (wP_found E.2.2.1 e1) gPs_249 hP_found ⟨rfl, rfl⟩ ⟨Nat.le_of_ble_eq_true rfl, Nat.le_of_ble_eq_true rfl⟩ ⟨lk_le2 hy1 (Nat.le_of_ble_eq_true rfl) (Nat.le_of_ble_eq_true rfl), lk_le2 hy2 (Nat.le_of_ble_eq_true rfl) (Nat.le_of_ble_eq_true rfl)⟩ rfl rfl rfl (Nat.le_of_ble_eq_true rfl) dL_isRefused_1340 rfl ?_
  refine rv_wd (y1 + 39) (y2 + 1922) (Nat.le_of_eq (Nat.add_assoc _ _ _)) (Nat.le_of_eq (Nat.add_assoc _ _ _)) ?_
  refine rv_sipush (q := 1346) E.x dL_isRefused_1343 rv_ksm1262 rfl ?_
  refine rv_icmp_ne (q := 1349) (tgt := 1429) E.x dL_isRefused_1346 (by decide) rfl ?_ ?_
  · refine rv_aload_n (q := 1350) E.x dL_isRefused_1349 rfl rfl ?_
    refine rv_bipush (q := 1352) E.x dL_isRefused_1350 rv_kb20 rfl ?_
    refine rv_iload (q := 1354) E.x dL_isRefused_1352 rfl rfl ?_
    refine rv_iconst (q := 1355) E.x dL_isRefused_1354 rv_ki0 rfl ?_
    refine rv_iload (q := 1357) E.x dL_isRefused_1355 rfl rfl ?_
    refine rv_iconst (q := 1358) E.x dL_isRefused_1357 rv_ki0 rfl ?_
    refine rv_b2 (fun r6 M7 e5 => ?_)
    refine lk_csW (q := 1361) (v := r6) (σ' := (g4, M7, A)) E (wP_of E.2.2.1 e5) gPs_218 hP_of ⟨rfl, rfl⟩ ⟨Nat.le_of_ble_eq_true rfl, Nat.le_of_ble_eq_true rfl⟩ ⟨lk_le2 hy1 (Nat.le_of_ble_eq_true rfl) (Nat.le_of_ble_eq_true rfl), lk_le2 hy2 (Nat.le_of_ble_eq_true rfl) (Nat.le_of_ble_eq_true rfl)⟩ rfl rfl rfl (Nat.le_of_ble_eq_true rfl) dL_isRefused_1358 rfl ?_
    refine rv_wd (y1 + 40) (y2 + 1928) (Nat.le_of_eq (Nat.add_assoc _ _ _)) (Nat.le_of_eq (Nat.add_assoc _ _ _)) ?_
    refine rv_sipush (q := 1364) E.x dL_isRefused_1361 rv_ksm1261 rfl ?_
    refine rv_icmp_ne (q := 1367) (tgt := 1429) E.x dL_isRefused_1364 (by decide) rfl ?_ ?_
    · refine rv_aload_n (q := 1368) E.x dL_isRefused_1367 rfl rfl ?_
      refine rv_bipush (q := 1370) E.x dL_isRefused_1368 rv_kb21 rfl ?_
      refine rv_iload (q := 1372) E.x dL_isRefused_1370 rfl rfl ?_
      refine rv_iconst (q := 1373) E.x dL_isRefused_1372 rv_ki0 rfl ?_
      refine rv_iconst (q := 1374) E.x dL_isRefused_1373 rv_ki0 rfl ?_
      refine rv_iconst (q := 1375) E.x dL_isRefused_1374 rv_kim1 rfl ?_
      refine rv_iload_n (q := 1376) E.x dL_isRefused_1375 rfl rfl ?_
      refine rv_bipush (q := 1378) E.x dL_isRefused_1376 rv_kb30 rfl ?_
      refine rv_irem (q := 1379) E.x dL_isRefused_1378 (by decide) rfl ?_
      refine rv_isub (q := 1380) E.x dL_isRefused_1379 rfl ?_
      refine rv_b2 (fun r9 M10 e8 => ?_)
      refine lk_csW (q := 1383) (v := r9) (σ' := (g4, M10, A)) E (wP_of E.2.2.1 e8) gPs_218 hP_of ⟨rfl, rfl⟩ ⟨Nat.le_of_ble_eq_true rfl, Nat.le_of_ble_eq_true rfl⟩ ⟨lk_le2 hy1 (Nat.le_of_ble_eq_true rfl) (Nat.le_of_ble_eq_true rfl), lk_le2 hy2 (Nat.le_of_ble_eq_true rfl) (Nat.le_of_ble_eq_true rfl)⟩ rfl rfl rfl (Nat.le_of_ble_eq_true rfl) dL_isRefused_1380 rfl ?_
      refine rv_wd (y1 + 41) (y2 + 1934) (Nat.le_of_eq (Nat.add_assoc _ _ _)) (Nat.le_of_eq (Nat.add_assoc _ _ _)) ?_
      refine rv_sipush (q := 1386) E.x dL_isRefused_1383 rv_ksm1261 rfl ?_
      refine rv_icmp_ne (q := 1389) (tgt := 1429) E.x dL_isRefused_1386 (by decide) rfl ?_ ?_
      · refine rv_aload_n (q := 1390) E.x dL_isRefused_1389 rfl rfl ?_
        refine rv_bipush (q := 1392) E.x dL_isRefused_1390 rv_kb10 rfl ?_
        refine rv_iload (q := 1394) E.x dL_isRefused_1392 rfl rfl ?_
        refine rv_iload (q := 1396) E.x dL_isRefused_1394 rfl rfl ?_
        refine rv_iconst (q := 1397) E.x dL_isRefused_1396 rv_ki0 rfl ?_
        refine rv_iconst (q := 1398) E.x dL_isRefused_1397 rv_ki0 rfl ?_
        refine rv_b2 (fun r12 M13 e11 => ?_)
        refine lk_csW (q := 1401) (v := r12) (σ' := (g4, M13, A)) E (wP_of E.2.2.1 e11) gPs_218 hP_of ⟨rfl, rfl⟩ ⟨Nat.le_of_ble_eq_true rfl, Nat.le_of_ble_eq_true rfl⟩ ⟨lk_le2 hy1 (Nat.le_of_ble_eq_true rfl) (Nat.le_of_ble_eq_true rfl), lk_le2 hy2 (Nat.le_of_ble_eq_true rfl) (Nat.le_of_ble_eq_true rfl)⟩ rfl rfl rfl (Nat.le_of_ble_eq_true rfl) dL_isRefused_1398 rfl ?_
        refine rv_wd (y1 + 42) (y2 + 1940) (Nat.le_of_eq (Nat.add_assoc _ _ _)) (Nat.le_of_eq (Nat.add_assoc _ _ _)) ?_
        refine rv_sipush (q := 1404) E.x dL_isRefused_1401 rv_ksm1261 rfl ?_
        refine rv_icmp_ne (q := 1407) (tgt := 1429) E.x dL_isRefused_1404 (by decide) rfl ?_ ?_
        · refine rv_aload_n (q := 1408) E.x dL_isRefused_1407 rfl rfl ?_
          refine rv_bipush (q := 1410) E.x dL_isRefused_1408 rv_kb10 rfl ?_
          refine rv_iconst (q := 1411) E.x dL_isRefused_1410 rv_ki0 rfl ?_
          refine rv_iload (q := 1413) E.x dL_isRefused_1411 rfl rfl ?_
          refine rv_iconst (q := 1414) E.x dL_isRefused_1413 rv_ki0 rfl ?_
          refine rv_iload (q := 1416) E.x dL_isRefused_1414 rfl rfl ?_
          refine rv_b2 (fun r15 M16 e14 => ?_)
          refine lk_csW (q := 1419) (v := r15) (σ' := (g4, M16, A)) E (wP_of E.2.2.1 e14) gPs_218 hP_of ⟨rfl, rfl⟩ ⟨Nat.le_of_ble_eq_true rfl, Nat.le_of_ble_eq_true rfl⟩ ⟨lk_le2 hy1 (Nat.le_of_ble_eq_true rfl) (Nat.le_of_ble_eq_true rfl), lk_le2 hy2 (Nat.le_of_ble_eq_true rfl) (Nat.le_of_ble_eq_true rfl)⟩ rfl rfl rfl (Nat.le_of_ble_eq_true rfl) dL_isRefused_1416 rfl ?_
          refine rv_wd (y1 + 43) (y2 + 1946) (Nat.le_of_eq (Nat.add_assoc _ _ _)) (Nat.le_of_eq (Nat.add_assoc _ _ _)) ?_
          refine rv_sipush (q := 1422) E.x dL_isRefused_1419 rv_ksm1262 rfl ?_
          refine rv_icmp_ne (q := 1425) (tgt := 1429) E.x dL_isRefused_1422 (by decide) rfl ?_ ?_
          · refine rv_iconst (q := 1426) E.x dL_isRefused_1425 rv_ki1 rfl ?_
            refine rv_goto (q := 1430) E.x dL_isRefused_1426 (by decide) ?_
            refine rv_wk [true, false, false, true, true, true, true, false, true, true, true, false, false, true, false] ?_
            exact bp_isRefused_1430 E A k978 y1 y2 hy1 hy2 h978 g4 M16 x3 x4 x5 x6 x8 x9 x10 x13 true
          · refine rv_wk [true, false, false, true, true, true, true, false, true, true, true, false, false, true, false] ?_
            exact bp_isRefused_1429 E A k978 y1 y2 hy1 hy2 h978 g4 M16 x3 x4 x5 x6 x8 x9 x10 x13
        · refine rv_wk [true, false, false, true, true, true, true, false, true, true, true, false, false, true, false] ?_
          refine rv_wd (y1 + 43) (y2 + 1946) (Nat.add_le_add_left (Nat.le_of_ble_eq_true rfl) _) (Nat.add_le_add_left (Nat.le_of_ble_eq_true rfl) _) ?_
          exact bp_isRefused_1429 E A k978 y1 y2 hy1 hy2 h978 g4 M13 x3 x4 x5 x6 x8 x9 x10 x13
      · refine rv_wk [true, false, false, true, true, true, true, false, true, true, true, false, false, true, false] ?_
        refine rv_wd (y1 + 43) (y2 + 1946) (Nat.add_le_add_left (Nat.le_of_ble_eq_true rfl) _) (Nat.add_le_add_left (Nat.le_of_ble_eq_true rfl) _) ?_
        exact bp_isRefused_1429 E A k978 y1 y2 hy1 hy2 h978 g4 M10 x3 x4 x5 x6 x8 x9 x10 x13
    · refine rv_wk [true, false, false, true, true, true, true, false, true, true, true, false, false, true, false] ?_
      refine rv_wd (y1 + 43) (y2 + 1946) (Nat.add_le_add_left (Nat.le_of_ble_eq_true rfl) _) (Nat.add_le_add_left (Nat.le_of_ble_eq_true rfl) _) ?_
      exact bp_isRefused_1429 E A k978 y1 y2 hy1 hy2 h978 g4 M7 x3 x4 x5 x6 x8 x9 x10 x13
  · refine rv_wk [true, false, false, true, true, true, true, false, true, true, true, false, false, true, false] ?_
    refine rv_wd (y1 + 43) (y2 + 1946) (Nat.add_le_add_left (Nat.le_of_ble_eq_true rfl) _) (Nat.add_le_add_left (Nat.le_of_ble_eq_true rfl) _) ?_
    exact bp_isRefused_1429 E A k978 y1 y2 hy1 hy2 h978 g4 M3 x3 x4 x5 x6 x8 x9 x10 x13
set_option maxRecDepth 100000 in
theorem bp_isRefused_1305 {p : Program} {l : Launch} {e : Env} {s : State} {m : MethodId} {args : Array Value} {below : List Frame} {meth : Method} {c : Code} {D : va_G} {cI cZ cO : ClassId} {mi de z0 o b L : Nat} {k : Nat → Nat} {xs : Nat → Int32} (E : lk_E D cI cZ cO mi de z0 b L k xs cL_isRefused 15 (some .boolean) p l s m args meth c) (A : rv_Mem) (k978 : rC_gh → rv_Mem → Int32 → Bool → Int32 → Int32 → Int32 → Int32 → Int64 → Bool → Int32 → Option (Bool × rC_gh × rv_Mem)) (y1 y2 : Nat) (hy1 : y1 + 43 ≤ 495) (hy2 : y2 + 1946 ≤ 24294) (h978 : ∀ (gh : rC_gh) (M : rv_Mem) (x3 : Int32) (x4 : Bool) (x5 : Int32) (x6 : Int32) (x8 : Int32) (x9 : Int32) (x10 : Int64) (x12 : Bool) (x13 : Int32), rv_M (lk_G D cI cZ cO de z0 o k) (fun q => z0 ≤ q) p l e rmp_isRefused s m args below meth c (y1 + 43) (y2 + 1946) (lk_qWZ D cI cZ cO de z0 o k A below args s 511 24390) (k978 gh M x3 x4 x5 x6 x8 x9 x10 x12 x13) 978 [some (.ref o), none, none, some (.int x3), some (.int (rv_i x4)), some (.int x5), some (.int x6), none, some (.int x8), some (.int x9), some (.long x10), none, some (.int (rv_i x12)), some (.int x13), none] [] (gh, M, A)) : ∀ (gh : rC_gh) (M : rv_Mem) (x3 : Int32) (x4 : Bool) (x5 : Int32) (x6 : Int32) (x8 : Int32) (x9 : Int32) (x10 : Int64) (x13 : Int32) (x14 : Int32) (s1 : Int32) (s5 : Int32), rv_M (lk_G D cI cZ cO de z0 o k) (fun q => z0 ≤ q) p l e rmp_isRefused s m args below meth c (y1 + 33) (y2 + 1706) (lk_qWZ D cI cZ cO de z0 o k A below args s 511 24390) (gp_isRefused_1305 A k978 gh M x3 x4 x5 x6 x8 x9 x10 x13 x14 s1 s5) 1305 [some (.ref o), none, none, some (.int x3), some (.int (rv_i x4)), some (.int x5), some (.int x6), none, some (.int x8), some (.int x9), some (.long x10), none, none, some (.int x13), some (.int x14)] [.int s5, .int 0, .int 0, .int 0, .int s1, .ref o] (gh, M, A) := by
  intro gh M x3 x4 x5 x6 x8 x9 x10 x13 x14 s1 s5
  unfold gp_isRefused_1305
  refine rv_iconst (q := 1306) E.x dL_isRefused_1305 rv_ki5 rfl ?_
  refine lk_b3 (fun r2 g4 M3 e1 => ?_)
  refine lk_csW (q := 1309) (v := r2) (σ' := (g4, M3, A)) E (wP_found E.2.2.1 e1) gPs_249 hP_found ⟨rfl, rfl⟩ ⟨Nat.le_of_ble_eq_true rfl, Nat.le_of_ble_eq_true rfl⟩ ⟨lk_le2 hy1 (Nat.le_of_ble_eq_true rfl) (Nat.le_of_ble_eq_true rfl), lk_le2 hy2 (Nat.le_of_ble_eq_true rfl) (Nat.le_of_ble_eq_true rfl)⟩ rfl rfl rfl (Nat.le_of_ble_eq_true rfl) dL_isRefused_1306 rfl ?_
  refine rv_wd (y1 + 36) (y2 + 1814) (Nat.le_of_eq (Nat.add_assoc _ _ _)) (Nat.le_of_eq (Nat.add_assoc _ _ _)) ?_
  refine rv_sipush (q := 1312) E.x dL_isRefused_1309 rv_ksm1262 rfl ?_
  refine rv_icmp_ne (q := 1315) (tgt := 1429) E.x dL_isRefused_1312 (by decide) rfl ?_ ?_
  · refine rv_aload_n (q := 1316) E.x dL_isRefused_1315 rfl rfl ?_
    refine rv_iload (q := 1318) E.x dL_isRefused_1316 rfl rfl ?_
    refine rv_iconst (q := 1319) E.x dL_isRefused_1318 rv_ki0 rfl ?_
    refine rv_iconst (q := 1320) E.x dL_isRefused_1319 rv_ki0 rfl ?_
    refine rv_iconst (q := 1321) E.x dL_isRefused_1320 rv_ki0 rfl ?_
    refine rv_iconst (q := 1322) E.x dL_isRefused_1321 rv_ki0 rfl ?_
    refine rv_iload (q := 1324) E.x dL_isRefused_1322 rfl rfl ?_
    refine rv_ifz_eq (q := 1327) (tgt := 1337) E.x dL_isRefused_1324 (by decide) rfl ?_ ?_
    · refine rv_bipush (q := 1329) E.x dL_isRefused_1327 rv_kbm2 rfl ?_
      refine rv_iload_n (q := 1330) E.x dL_isRefused_1329 rfl rfl ?_
      refine rv_bipush (q := 1332) E.x dL_isRefused_1330 rv_kb30 rfl ?_
      refine rv_irem (q := 1333) E.x dL_isRefused_1332 (by decide) rfl ?_
      refine rv_isub (q := 1334) E.x dL_isRefused_1333 rfl ?_
      refine rv_goto (q := 1340) E.x dL_isRefused_1334 (by decide) ?_
      refine rv_wk [true, false, false, true, true, true, true, false, true, true, true, false, false, true, true] ?_
      exact bp_isRefused_1340 E A k978 y1 y2 hy1 hy2 h978 g4 M3 x3 x4 x5 x6 x8 x9 x10 x13 x14 x13 ((-2) - (x3 - x3 / 30 * 30))
    · refine rv_sipush (q := 1340) E.x dL_isRefused_1337 rv_ks400 rfl ?_
      refine rv_wk [true, false, false, true, true, true, true, false, true, true, true, false, false, true, true] ?_
      exact bp_isRefused_1340 E A k978 y1 y2 hy1 hy2 h978 g4 M3 x3 x4 x5 x6 x8 x9 x10 x13 x14 x13 400
  · refine rv_wk [true, false, false, true, true, true, true, false, true, true, true, false, false, true, false] ?_
    refine rv_wd (y1 + 43) (y2 + 1946) (Nat.add_le_add_left (Nat.le_of_ble_eq_true rfl) _) (Nat.add_le_add_left (Nat.le_of_ble_eq_true rfl) _) ?_
    exact bp_isRefused_1429 E A k978 y1 y2 hy1 hy2 h978 g4 M3 x3 x4 x5 x6 x8 x9 x10 x13
set_option maxRecDepth 100000 in
theorem bp_isRefused_1272 {p : Program} {l : Launch} {e : Env} {s : State} {m : MethodId} {args : Array Value} {below : List Frame} {meth : Method} {c : Code} {D : va_G} {cI cZ cO : ClassId} {mi de z0 o b L : Nat} {k : Nat → Nat} {xs : Nat → Int32} (E : lk_E D cI cZ cO mi de z0 b L k xs cL_isRefused 15 (some .boolean) p l s m args meth c) (A : rv_Mem) (k978 : rC_gh → rv_Mem → Int32 → Bool → Int32 → Int32 → Int32 → Int32 → Int64 → Bool → Int32 → Option (Bool × rC_gh × rv_Mem)) (y1 y2 : Nat) (hy1 : y1 + 43 ≤ 495) (hy2 : y2 + 1946 ≤ 24294) (h978 : ∀ (gh : rC_gh) (M : rv_Mem) (x3 : Int32) (x4 : Bool) (x5 : Int32) (x6 : Int32) (x8 : Int32) (x9 : Int32) (x10 : Int64) (x12 : Bool) (x13 : Int32), rv_M (lk_G D cI cZ cO de z0 o k) (fun q => z0 ≤ q) p l e rmp_isRefused s m args below meth c (y1 + 43) (y2 + 1946) (lk_qWZ D cI cZ cO de z0 o k A below args s 511 24390) (k978 gh M x3 x4 x5 x6 x8 x9 x10 x12 x13) 978 [some (.ref o), none, none, some (.int x3), some (.int (rv_i x4)), some (.int x5), some (.int x6), none, some (.int x8), some (.int x9), some (.long x10), none, some (.int (rv_i x12)), some (.int x13), none] [] (gh, M, A)) : ∀ (gh : rC_gh) (M : rv_Mem) (x3 : Int32) (x4 : Bool) (x5 : Int32) (x6 : Int32) (x8 : Int32) (x9 : Int32) (x10 : Int64) (x13 : Int32) (x14 : Int32) (s1 : Int32) (s4 : Int32), rv_M (lk_G D cI cZ cO de z0 o k) (fun q => z0 ≤ q) p l e rmp_isRefused s m args below meth c (y1 + 30) (y2 + 1598) (lk_qWZ D cI cZ cO de z0 o k A below args s 511 24390) (gp_isRefused_1272 A k978 gh M x3 x4 x5 x6 x8 x9 x10 x13 x14 s1 s4) 1272 [some (.ref o), none, none, some (.int x3), some (.int (rv_i x4)), some (.int x5), some (.int x6), none, some (.int x8), some (.int x9), some (.long x10), none, none, some (.int x13), some (.int x14)] [.int s4, .int 0, .int 0, .int s1, .ref o] (gh, M, A) := by
  intro gh M x3 x4 x5 x6 x8 x9 x10 x13 x14 s1 s4
  unfold gp_isRefused_1272
  refine rv_iconst (q := 1273) E.x dL_isRefused_1272 rv_ki0 rfl ?_
  refine rv_iconst (q := 1274) E.x dL_isRefused_1273 rv_ki5 rfl ?_
  refine lk_b3 (fun r2 g4 M3 e1 => ?_)
  refine lk_csW (q := 1277) (v := r2) (σ' := (g4, M3, A)) E (wP_found E.2.2.1 e1) gPs_249 hP_found ⟨rfl, rfl⟩ ⟨Nat.le_of_ble_eq_true rfl, Nat.le_of_ble_eq_true rfl⟩ ⟨lk_le2 hy1 (Nat.le_of_ble_eq_true rfl) (Nat.le_of_ble_eq_true rfl), lk_le2 hy2 (Nat.le_of_ble_eq_true rfl) (Nat.le_of_ble_eq_true rfl)⟩ rfl rfl rfl (Nat.le_of_ble_eq_true rfl) dL_isRefused_1274 rfl ?_
  refine rv_wd (y1 + 33) (y2 + 1706) (Nat.le_of_eq (Nat.add_assoc _ _ _)) (Nat.le_of_eq (Nat.add_assoc _ _ _)) ?_
  refine rv_sipush (q := 1280) E.x dL_isRefused_1277 rv_ksm1262 rfl ?_
  refine rv_icmp_ne (q := 1283) (tgt := 1429) E.x dL_isRefused_1280 (by decide) rfl ?_ ?_
  · refine rv_aload_n (q := 1284) E.x dL_isRefused_1283 rfl rfl ?_
    refine rv_iload (q := 1286) E.x dL_isRefused_1284 rfl rfl ?_
    refine rv_iconst (q := 1287) E.x dL_isRefused_1286 rv_ki0 rfl ?_
    refine rv_iconst (q := 1288) E.x dL_isRefused_1287 rv_ki0 rfl ?_
    refine rv_iconst (q := 1289) E.x dL_isRefused_1288 rv_ki0 rfl ?_
    refine rv_iload (q := 1291) E.x dL_isRefused_1289 rfl rfl ?_
    refine rv_ifz_eq (q := 1294) (tgt := 1303) E.x dL_isRefused_1291 (by decide) rfl ?_ ?_
    · refine rv_iconst (q := 1295) E.x dL_isRefused_1294 rv_kim1 rfl ?_
      refine rv_iload_n (q := 1296) E.x dL_isRefused_1295 rfl rfl ?_
      refine rv_bipush (q := 1298) E.x dL_isRefused_1296 rv_kb30 rfl ?_
      refine rv_irem (q := 1299) E.x dL_isRefused_1298 (by decide) rfl ?_
      refine rv_isub (q := 1300) E.x dL_isRefused_1299 rfl ?_
      refine rv_goto (q := 1305) E.x dL_isRefused_1300 (by decide) ?_
      refine rv_wk [true, false, false, true, true, true, true, false, true, true, true, false, false, true, true] ?_
      exact bp_isRefused_1305 E A k978 y1 y2 hy1 hy2 h978 g4 M3 x3 x4 x5 x6 x8 x9 x10 x13 x14 x13 ((-1) - (x3 - x3 / 30 * 30))
    · refine rv_bipush (q := 1305) E.x dL_isRefused_1303 rv_kb11 rfl ?_
      refine rv_wk [true, false, false, true, true, true, true, false, true, true, true, false, false, true, true] ?_
      exact bp_isRefused_1305 E A k978 y1 y2 hy1 hy2 h978 g4 M3 x3 x4 x5 x6 x8 x9 x10 x13 x14 x13 11
  · refine rv_wk [true, false, false, true, true, true, true, false, true, true, true, false, false, true, false] ?_
    refine rv_wd (y1 + 43) (y2 + 1946) (Nat.add_le_add_left (Nat.le_of_ble_eq_true rfl) _) (Nat.add_le_add_left (Nat.le_of_ble_eq_true rfl) _) ?_
    exact bp_isRefused_1429 E A k978 y1 y2 hy1 hy2 h978 g4 M3 x3 x4 x5 x6 x8 x9 x10 x13
set_option maxRecDepth 100000 in
theorem bp_isRefused_1247 {p : Program} {l : Launch} {e : Env} {s : State} {m : MethodId} {args : Array Value} {below : List Frame} {meth : Method} {c : Code} {D : va_G} {cI cZ cO : ClassId} {mi de z0 o b L : Nat} {k : Nat → Nat} {xs : Nat → Int32} (E : lk_E D cI cZ cO mi de z0 b L k xs cL_isRefused 15 (some .boolean) p l s m args meth c) (A : rv_Mem) (k978 : rC_gh → rv_Mem → Int32 → Bool → Int32 → Int32 → Int32 → Int32 → Int64 → Bool → Int32 → Option (Bool × rC_gh × rv_Mem)) (y1 y2 : Nat) (hy1 : y1 + 43 ≤ 495) (hy2 : y2 + 1946 ≤ 24294) (h978 : ∀ (gh : rC_gh) (M : rv_Mem) (x3 : Int32) (x4 : Bool) (x5 : Int32) (x6 : Int32) (x8 : Int32) (x9 : Int32) (x10 : Int64) (x12 : Bool) (x13 : Int32), rv_M (lk_G D cI cZ cO de z0 o k) (fun q => z0 ≤ q) p l e rmp_isRefused s m args below meth c (y1 + 43) (y2 + 1946) (lk_qWZ D cI cZ cO de z0 o k A below args s 511 24390) (k978 gh M x3 x4 x5 x6 x8 x9 x10 x12 x13) 978 [some (.ref o), none, none, some (.int x3), some (.int (rv_i x4)), some (.int x5), some (.int x6), none, some (.int x8), some (.int x9), some (.long x10), none, some (.int (rv_i x12)), some (.int x13), none] [] (gh, M, A)) : ∀ (gh : rC_gh) (M : rv_Mem) (x3 : Int32) (x4 : Bool) (x5 : Int32) (x6 : Int32) (x8 : Int32) (x9 : Int32) (x10 : Int64) (x13 : Int32) (x14 : Int32) (s2 : Int32) (s6 : Int32), rv_M (lk_G D cI cZ cO de z0 o k) (fun q => z0 ≤ q) p l e rmp_isRefused s m args below meth c (y1 + 27) (y2 + 1488) (lk_qWZ D cI cZ cO de z0 o k A below args s 511 24390) (gp_isRefused_1247 A k978 gh M x3 x4 x5 x6 x8 x9 x10 x13 x14 s2 s6) 1247 [some (.ref o), none, none, some (.int x3), some (.int (rv_i x4)), some (.int x5), some (.int x6), none, some (.int x8), some (.int x9), some (.long x10), none, none, some (.int x13), some (.int x14)] [.int s6, .int 0, .int 0, .int 0, .int s2, .int 0, .ref o] (gh, M, A) := by
  intro gh M x3 x4 x5 x6 x8 x9 x10 x13 x14 s2 s6
  unfold gp_isRefused_1247
  refine lk_b3 (fun r2 g4 M3 e1 => ?_)
  refine lk_csW (q := 1250) (v := r2) (σ' := (g4, M3, A)) E (wP_commented E.2.2.1 e1) gPs_246 hP_commented ⟨rfl, rfl⟩ ⟨Nat.le_of_ble_eq_true rfl, Nat.le_of_ble_eq_true rfl⟩ ⟨lk_le2 hy1 (Nat.le_of_ble_eq_true rfl) (Nat.le_of_ble_eq_true rfl), lk_le2 hy2 (Nat.le_of_ble_eq_true rfl) (Nat.le_of_ble_eq_true rfl)⟩ rfl rfl rfl (Nat.le_of_ble_eq_true rfl) dL_isRefused_1247 rfl ?_
  refine rv_wd (y1 + 30) (y2 + 1598) (Nat.le_of_eq (Nat.add_assoc _ _ _)) (Nat.le_of_eq (Nat.add_assoc _ _ _)) ?_
  refine rv_sipush (q := 1253) E.x dL_isRefused_1250 rv_ksm1262 rfl ?_
  refine rv_icmp_ne (q := 1256) (tgt := 1429) E.x dL_isRefused_1253 (by decide) rfl ?_ ?_
  · refine rv_aload_n (q := 1257) E.x dL_isRefused_1256 rfl rfl ?_
    refine rv_iload (q := 1259) E.x dL_isRefused_1257 rfl rfl ?_
    refine rv_iconst (q := 1260) E.x dL_isRefused_1259 rv_ki0 rfl ?_
    refine rv_iconst (q := 1261) E.x dL_isRefused_1260 rv_ki0 rfl ?_
    refine rv_iload (q := 1263) E.x dL_isRefused_1261 rfl rfl ?_
    refine rv_ifz_eq (q := 1266) (tgt := 1270) E.x dL_isRefused_1263 (by decide) rfl ?_ ?_
    · refine rv_iconst (q := 1267) E.x dL_isRefused_1266 rv_kim1 rfl ?_
      refine rv_goto (q := 1272) E.x dL_isRefused_1267 (by decide) ?_
      refine rv_wk [true, false, false, true, true, true, true, false, true, true, true, false, false, true, true] ?_
      exact bp_isRefused_1272 E A k978 y1 y2 hy1 hy2 h978 g4 M3 x3 x4 x5 x6 x8 x9 x10 x13 x14 x13 (-1)
    · refine rv_bipush (q := 1272) E.x dL_isRefused_1270 rv_kb11 rfl ?_
      refine rv_wk [true, false, false, true, true, true, true, false, true, true, true, false, false, true, true] ?_
      exact bp_isRefused_1272 E A k978 y1 y2 hy1 hy2 h978 g4 M3 x3 x4 x5 x6 x8 x9 x10 x13 x14 x13 11
  · refine rv_wk [true, false, false, true, true, true, true, false, true, true, true, false, false, true, false] ?_
    refine rv_wd (y1 + 43) (y2 + 1946) (Nat.add_le_add_left (Nat.le_of_ble_eq_true rfl) _) (Nat.add_le_add_left (Nat.le_of_ble_eq_true rfl) _) ?_
    exact bp_isRefused_1429 E A k978 y1 y2 hy1 hy2 h978 g4 M3 x3 x4 x5 x6 x8 x9 x10 x13
set_option maxRecDepth 100000 in
theorem bp_isRefused_1214 {p : Program} {l : Launch} {e : Env} {s : State} {m : MethodId} {args : Array Value} {below : List Frame} {meth : Method} {c : Code} {D : va_G} {cI cZ cO : ClassId} {mi de z0 o b L : Nat} {k : Nat → Nat} {xs : Nat → Int32} (E : lk_E D cI cZ cO mi de z0 b L k xs cL_isRefused 15 (some .boolean) p l s m args meth c) (A : rv_Mem) (k978 : rC_gh → rv_Mem → Int32 → Bool → Int32 → Int32 → Int32 → Int32 → Int64 → Bool → Int32 → Option (Bool × rC_gh × rv_Mem)) (y1 y2 : Nat) (hy1 : y1 + 43 ≤ 495) (hy2 : y2 + 1946 ≤ 24294) (h978 : ∀ (gh : rC_gh) (M : rv_Mem) (x3 : Int32) (x4 : Bool) (x5 : Int32) (x6 : Int32) (x8 : Int32) (x9 : Int32) (x10 : Int64) (x12 : Bool) (x13 : Int32), rv_M (lk_G D cI cZ cO de z0 o k) (fun q => z0 ≤ q) p l e rmp_isRefused s m args below meth c (y1 + 43) (y2 + 1946) (lk_qWZ D cI cZ cO de z0 o k A below args s 511 24390) (k978 gh M x3 x4 x5 x6 x8 x9 x10 x12 x13) 978 [some (.ref o), none, none, some (.int x3), some (.int (rv_i x4)), some (.int x5), some (.int x6), none, some (.int x8), some (.int x9), some (.long x10), none, some (.int (rv_i x12)), some (.int x13), none] [] (gh, M, A)) : ∀ (gh : rC_gh) (M : rv_Mem) (x3 : Int32) (x4 : Bool) (x5 : Int32) (x6 : Int32) (x8 : Int32) (x9 : Int32) (x10 : Int64) (x13 : Int32) (x14 : Int32) (s2 : Int32) (s5 : Int32), rv_M (lk_G D cI cZ cO de z0 o k) (fun q => z0 ≤ q) p l e rmp_isRefused s m args below meth c (y1 + 24) (y2 + 1378) (lk_qWZ D cI cZ cO de z0 o k A below args s 511 24390) (gp_isRefused_1214 A k978 gh M x3 x4 x5 x6 x8 x9 x10 x13 x14 s2 s5) 1214 [some (.ref o), none, none, some (.int x3), some (.int (rv_i x4)), some (.int x5), some (.int x6), none, some (.int x8), some (.int x9), some (.long x10), none, none, some (.int x13), some (.int x14)] [.int s5, .int 0, .int 0, .int s2, .int 0, .ref o] (gh, M, A) := by
  intro gh M x3 x4 x5 x6 x8 x9 x10 x13 x14 s2 s5
  unfold gp_isRefused_1214
  refine rv_iconst (q := 1215) E.x dL_isRefused_1214 rv_ki1 rfl ?_
  refine lk_b3 (fun r2 g4 M3 e1 => ?_)
  refine lk_csW (q := 1218) (v := r2) (σ' := (g4, M3, A)) E (wP_commented E.2.2.1 e1) gPs_246 hP_commented ⟨rfl, rfl⟩ ⟨Nat.le_of_ble_eq_true rfl, Nat.le_of_ble_eq_true rfl⟩ ⟨lk_le2 hy1 (Nat.le_of_ble_eq_true rfl) (Nat.le_of_ble_eq_true rfl), lk_le2 hy2 (Nat.le_of_ble_eq_true rfl) (Nat.le_of_ble_eq_true rfl)⟩ rfl rfl rfl (Nat.le_of_ble_eq_true rfl) dL_isRefused_1215 rfl ?_
  refine rv_wd (y1 + 27) (y2 + 1488) (Nat.le_of_eq (Nat.add_assoc _ _ _)) (Nat.le_of_eq (Nat.add_assoc _ _ _)) ?_
  refine rv_sipush (q := 1221) E.x dL_isRefused_1218 rv_ksm1262 rfl ?_
  refine rv_icmp_ne (q := 1224) (tgt := 1429) E.x dL_isRefused_1221 (by decide) rfl ?_ ?_
  · refine rv_aload_n (q := 1225) E.x dL_isRefused_1224 rfl rfl ?_
    refine rv_iconst (q := 1226) E.x dL_isRefused_1225 rv_ki0 rfl ?_
    refine rv_iload (q := 1228) E.x dL_isRefused_1226 rfl rfl ?_
    refine rv_iconst (q := 1229) E.x dL_isRefused_1228 rv_ki0 rfl ?_
    refine rv_iconst (q := 1230) E.x dL_isRefused_1229 rv_ki0 rfl ?_
    refine rv_iconst (q := 1231) E.x dL_isRefused_1230 rv_ki0 rfl ?_
    refine rv_iload (q := 1233) E.x dL_isRefused_1231 rfl rfl ?_
    refine rv_ifz_eq (q := 1236) (tgt := 1245) E.x dL_isRefused_1233 (by decide) rfl ?_ ?_
    · refine rv_iconst (q := 1237) E.x dL_isRefused_1236 rv_ki0 rfl ?_
      refine rv_iload_n (q := 1238) E.x dL_isRefused_1237 rfl rfl ?_
      refine rv_bipush (q := 1240) E.x dL_isRefused_1238 rv_kb30 rfl ?_
      refine rv_irem (q := 1241) E.x dL_isRefused_1240 (by decide) rfl ?_
      refine rv_isub (q := 1242) E.x dL_isRefused_1241 rfl ?_
      refine rv_goto (q := 1247) E.x dL_isRefused_1242 (by decide) ?_
      refine rv_wk [true, false, false, true, true, true, true, false, true, true, true, false, false, true, true] ?_
      exact bp_isRefused_1247 E A k978 y1 y2 hy1 hy2 h978 g4 M3 x3 x4 x5 x6 x8 x9 x10 x13 x14 x13 (0 - (x3 - x3 / 30 * 30))
    · refine rv_bipush (q := 1247) E.x dL_isRefused_1245 rv_kb11 rfl ?_
      refine rv_wk [true, false, false, true, true, true, true, false, true, true, true, false, false, true, true] ?_
      exact bp_isRefused_1247 E A k978 y1 y2 hy1 hy2 h978 g4 M3 x3 x4 x5 x6 x8 x9 x10 x13 x14 x13 11
  · refine rv_wk [true, false, false, true, true, true, true, false, true, true, true, false, false, true, false] ?_
    refine rv_wd (y1 + 43) (y2 + 1946) (Nat.add_le_add_left (Nat.le_of_ble_eq_true rfl) _) (Nat.add_le_add_left (Nat.le_of_ble_eq_true rfl) _) ?_
    exact bp_isRefused_1429 E A k978 y1 y2 hy1 hy2 h978 g4 M3 x3 x4 x5 x6 x8 x9 x10 x13
set_option maxRecDepth 100000 in
theorem bp_isRefused_1152 {p : Program} {l : Launch} {e : Env} {s : State} {m : MethodId} {args : Array Value} {below : List Frame} {meth : Method} {c : Code} {D : va_G} {cI cZ cO : ClassId} {mi de z0 o b L : Nat} {k : Nat → Nat} {xs : Nat → Int32} (E : lk_E D cI cZ cO mi de z0 b L k xs cL_isRefused 15 (some .boolean) p l s m args meth c) (A : rv_Mem) (k978 : rC_gh → rv_Mem → Int32 → Bool → Int32 → Int32 → Int32 → Int32 → Int64 → Bool → Int32 → Option (Bool × rC_gh × rv_Mem)) (y1 y2 : Nat) (hy1 : y1 + 43 ≤ 495) (hy2 : y2 + 1946 ≤ 24294) (h978 : ∀ (gh : rC_gh) (M : rv_Mem) (x3 : Int32) (x4 : Bool) (x5 : Int32) (x6 : Int32) (x8 : Int32) (x9 : Int32) (x10 : Int64) (x12 : Bool) (x13 : Int32), rv_M (lk_G D cI cZ cO de z0 o k) (fun q => z0 ≤ q) p l e rmp_isRefused s m args below meth c (y1 + 43) (y2 + 1946) (lk_qWZ D cI cZ cO de z0 o k A below args s 511 24390) (k978 gh M x3 x4 x5 x6 x8 x9 x10 x12 x13) 978 [some (.ref o), none, none, some (.int x3), some (.int (rv_i x4)), some (.int x5), some (.int x6), none, some (.int x8), some (.int x9), some (.long x10), none, some (.int (rv_i x12)), some (.int x13), none] [] (gh, M, A)) : ∀ (gh : rC_gh) (M : rv_Mem) (x3 : Int32) (x4 : Bool) (x5 : Int32) (x6 : Int32) (x8 : Int32) (x9 : Int32) (x10 : Int64) (x13 : Int32) (x14 : Int32) (s3 : Int32) (s6 : Int32), rv_M (lk_G D cI cZ cO de z0 o k) (fun q => z0 ≤ q) p l e rmp_isRefused s m args below meth c (y1 + 15) (y2 + 965) (lk_qWZ D cI cZ cO de z0 o k A below args s 511 24390) (gp_isRefused_1152 A k978 gh M x3 x4 x5 x6 x8 x9 x10 x13 x14 s3 s6) 1152 [some (.ref o), none, none, some (.int x3), some (.int (rv_i x4)), some (.int x5), some (.int x6), none, some (.int x8), some (.int x9), some (.long x10), none, none, some (.int x13), some (.int x14)] [.int s6, .int 1, .int 0, .int s3, .int 0, .int 15, .ref o] (gh, M, A) := by
  intro gh M x3 x4 x5 x6 x8 x9 x10 x13 x14 s3 s6
  unfold gp_isRefused_1152
  refine lk_b3 (fun r2 g4 M3 e1 => ?_)
  refine lk_csW (q := 1155) (v := r2) (σ' := (g4, M3, A)) E (wP_act E.2.2.1 e1) gPs_241 hP_act ⟨rfl, rfl⟩ ⟨Nat.le_of_ble_eq_true rfl, Nat.le_of_ble_eq_true rfl⟩ ⟨lk_le2 hy1 (Nat.le_of_ble_eq_true rfl) (Nat.le_of_ble_eq_true rfl), lk_le2 hy2 (Nat.le_of_ble_eq_true rfl) (Nat.le_of_ble_eq_true rfl)⟩ rfl rfl rfl (Nat.le_of_ble_eq_true rfl) dL_isRefused_1152 rfl ?_
  refine rv_wd (y1 + 18) (y2 + 1158) (Nat.le_of_eq (Nat.add_assoc _ _ _)) (Nat.le_of_eq (Nat.add_assoc _ _ _)) ?_
  refine rv_sipush (q := 1158) E.x dL_isRefused_1155 rv_ksm1262 rfl ?_
  refine rv_icmp_ne (q := 1161) (tgt := 1429) E.x dL_isRefused_1158 (by decide) rfl ?_ ?_
  · refine rv_aload_n (q := 1162) E.x dL_isRefused_1161 rfl rfl ?_
    refine rv_iconst (q := 1163) E.x dL_isRefused_1162 rv_ki0 rfl ?_
    refine rv_iload (q := 1165) E.x dL_isRefused_1163 rfl rfl ?_
    refine rv_iload (q := 1167) E.x dL_isRefused_1165 rfl rfl ?_
    refine rv_iconst (q := 1168) E.x dL_isRefused_1167 rv_ki0 rfl ?_
    refine rv_iconst (q := 1169) E.x dL_isRefused_1168 rv_ki0 rfl ?_
    refine rv_iconst (q := 1170) E.x dL_isRefused_1169 rv_ki0 rfl ?_
    refine lk_b3 (fun r6 g8 M7 e5 => ?_)
    refine lk_csW (q := 1173) (v := r6) (σ' := (g8, M7, A)) E (wP_commented E.2.2.1 e5) gPs_246 hP_commented ⟨rfl, rfl⟩ ⟨Nat.le_of_ble_eq_true rfl, Nat.le_of_ble_eq_true rfl⟩ ⟨lk_le2 hy1 (Nat.le_of_ble_eq_true rfl) (Nat.le_of_ble_eq_true rfl), lk_le2 hy2 (Nat.le_of_ble_eq_true rfl) (Nat.le_of_ble_eq_true rfl)⟩ rfl rfl rfl (Nat.le_of_ble_eq_true rfl) dL_isRefused_1170 rfl ?_
    refine rv_wd (y1 + 21) (y2 + 1268) (Nat.le_of_eq (Nat.add_assoc _ _ _)) (Nat.le_of_eq (Nat.add_assoc _ _ _)) ?_
    refine rv_sipush (q := 1176) E.x dL_isRefused_1173 rv_ksm1261 rfl ?_
    refine rv_icmp_ne (q := 1179) (tgt := 1429) E.x dL_isRefused_1176 (by decide) rfl ?_ ?_
    · refine rv_aload_n (q := 1180) E.x dL_isRefused_1179 rfl rfl ?_
      refine rv_iconst (q := 1181) E.x dL_isRefused_1180 rv_ki0 rfl ?_
      refine rv_iload (q := 1183) E.x dL_isRefused_1181 rfl rfl ?_
      refine rv_iconst (q := 1184) E.x dL_isRefused_1183 rv_ki0 rfl ?_
      refine rv_iload (q := 1186) E.x dL_isRefused_1184 rfl rfl ?_
      refine rv_iconst (q := 1187) E.x dL_isRefused_1186 rv_ki0 rfl ?_
      refine rv_iconst (q := 1188) E.x dL_isRefused_1187 rv_ki0 rfl ?_
      refine lk_b3 (fun r10 g12 M11 e9 => ?_)
      refine lk_csW (q := 1191) (v := r10) (σ' := (g12, M11, A)) E (wP_commented E.2.2.1 e9) gPs_246 hP_commented ⟨rfl, rfl⟩ ⟨Nat.le_of_ble_eq_true rfl, Nat.le_of_ble_eq_true rfl⟩ ⟨lk_le2 hy1 (Nat.le_of_ble_eq_true rfl) (Nat.le_of_ble_eq_true rfl), lk_le2 hy2 (Nat.le_of_ble_eq_true rfl) (Nat.le_of_ble_eq_true rfl)⟩ rfl rfl rfl (Nat.le_of_ble_eq_true rfl) dL_isRefused_1188 rfl ?_
      refine rv_wd (y1 + 24) (y2 + 1378) (Nat.le_of_eq (Nat.add_assoc _ _ _)) (Nat.le_of_eq (Nat.add_assoc _ _ _)) ?_
      refine rv_sipush (q := 1194) E.x dL_isRefused_1191 rv_ksm1261 rfl ?_
      refine rv_icmp_ne (q := 1197) (tgt := 1429) E.x dL_isRefused_1194 (by decide) rfl ?_ ?_
      · refine rv_aload_n (q := 1198) E.x dL_isRefused_1197 rfl rfl ?_
        refine rv_iconst (q := 1199) E.x dL_isRefused_1198 rv_ki0 rfl ?_
        refine rv_iload (q := 1201) E.x dL_isRefused_1199 rfl rfl ?_
        refine rv_iconst (q := 1202) E.x dL_isRefused_1201 rv_ki0 rfl ?_
        refine rv_iconst (q := 1203) E.x dL_isRefused_1202 rv_ki0 rfl ?_
        refine rv_iload (q := 1205) E.x dL_isRefused_1203 rfl rfl ?_
        refine rv_ifz_eq (q := 1208) (tgt := 1212) E.x dL_isRefused_1205 (by decide) rfl ?_ ?_
        · refine rv_iconst (q := 1209) E.x dL_isRefused_1208 rv_kim1 rfl ?_
          refine rv_goto (q := 1214) E.x dL_isRefused_1209 (by decide) ?_
          refine rv_wk [true, false, false, true, true, true, true, false, true, true, true, false, false, true, true] ?_
          exact bp_isRefused_1214 E A k978 y1 y2 hy1 hy2 h978 g12 M11 x3 x4 x5 x6 x8 x9 x10 x13 x14 x13 (-1)
        · refine rv_bipush (q := 1214) E.x dL_isRefused_1212 rv_kb10 rfl ?_
          refine rv_wk [true, false, false, true, true, true, true, false, true, true, true, false, false, true, true] ?_
          exact bp_isRefused_1214 E A k978 y1 y2 hy1 hy2 h978 g12 M11 x3 x4 x5 x6 x8 x9 x10 x13 x14 x13 10
      · refine rv_wk [true, false, false, true, true, true, true, false, true, true, true, false, false, true, false] ?_
        refine rv_wd (y1 + 43) (y2 + 1946) (Nat.add_le_add_left (Nat.le_of_ble_eq_true rfl) _) (Nat.add_le_add_left (Nat.le_of_ble_eq_true rfl) _) ?_
        exact bp_isRefused_1429 E A k978 y1 y2 hy1 hy2 h978 g12 M11 x3 x4 x5 x6 x8 x9 x10 x13
    · refine rv_wk [true, false, false, true, true, true, true, false, true, true, true, false, false, true, false] ?_
      refine rv_wd (y1 + 43) (y2 + 1946) (Nat.add_le_add_left (Nat.le_of_ble_eq_true rfl) _) (Nat.add_le_add_left (Nat.le_of_ble_eq_true rfl) _) ?_
      exact bp_isRefused_1429 E A k978 y1 y2 hy1 hy2 h978 g8 M7 x3 x4 x5 x6 x8 x9 x10 x13
  · refine rv_wk [true, false, false, true, true, true, true, false, true, true, true, false, false, true, false] ?_
    refine rv_wd (y1 + 43) (y2 + 1946) (Nat.add_le_add_left (Nat.le_of_ble_eq_true rfl) _) (Nat.add_le_add_left (Nat.le_of_ble_eq_true rfl) _) ?_
    exact bp_isRefused_1429 E A k978 y1 y2 hy1 hy2 h978 g4 M3 x3 x4 x5 x6 x8 x9 x10 x13
set_option maxRecDepth 100000 in
theorem bp_isRefused_1058 {p : Program} {l : Launch} {e : Env} {s : State} {m : MethodId} {args : Array Value} {below : List Frame} {meth : Method} {c : Code} {D : va_G} {cI cZ cO : ClassId} {mi de z0 o b L : Nat} {k : Nat → Nat} {xs : Nat → Int32} (E : lk_E D cI cZ cO mi de z0 b L k xs cL_isRefused 15 (some .boolean) p l s m args meth c) (A : rv_Mem) (k978 : rC_gh → rv_Mem → Int32 → Bool → Int32 → Int32 → Int32 → Int32 → Int64 → Bool → Int32 → Option (Bool × rC_gh × rv_Mem)) (y1 y2 : Nat) (hy1 : y1 + 43 ≤ 495) (hy2 : y2 + 1946 ≤ 24294) (h978 : ∀ (gh : rC_gh) (M : rv_Mem) (x3 : Int32) (x4 : Bool) (x5 : Int32) (x6 : Int32) (x8 : Int32) (x9 : Int32) (x10 : Int64) (x12 : Bool) (x13 : Int32), rv_M (lk_G D cI cZ cO de z0 o k) (fun q => z0 ≤ q) p l e rmp_isRefused s m args below meth c (y1 + 43) (y2 + 1946) (lk_qWZ D cI cZ cO de z0 o k A below args s 511 24390) (k978 gh M x3 x4 x5 x6 x8 x9 x10 x12 x13) 978 [some (.ref o), none, none, some (.int x3), some (.int (rv_i x4)), some (.int x5), some (.int x6), none, some (.int x8), some (.int x9), some (.long x10), none, some (.int (rv_i x12)), some (.int x13), none] [] (gh, M, A)) : ∀ (gh : rC_gh) (M : rv_Mem) (x3 : Int32) (x4 : Bool) (x5 : Int32) (x6 : Int32) (x8 : Int32) (x9 : Int32) (x10 : Int64) (x13 : Int32) (x14 : Int32) (s2 : Int32) (s3 : Int32), rv_M (lk_G D cI cZ cO de z0 o k) (fun q => z0 ≤ q) p l e rmp_isRefused s m args below meth c (y1 + 3) (y2 + 193) (lk_qWZ D cI cZ cO de z0 o k A below args s 511 24390) (gp_isRefused_1058 A k978 gh M x3 x4 x5 x6 x8 x9 x10 x13 x14 s2 s3) 1058 [some (.ref o), none, none, some (.int x3), some (.int (rv_i x4)), some (.int x5), some (.int x6), none, some (.int x8), some (.int x9), some (.long x10), none, none, some (.int x13), some (.int x14)] [.int s3, .int s2, .int 10, .ref o] (gh, M, A) := by
  intro gh M x3 x4 x5 x6 x8 x9 x10 x13 x14 s2 s3
  unfold gp_isRefused_1058
  refine rv_iconst (q := 1059) E.x dL_isRefused_1058 rv_ki0 rfl ?_
  refine rv_iconst (q := 1060) E.x dL_isRefused_1059 rv_ki0 rfl ?_
  refine rv_iconst (q := 1061) E.x dL_isRefused_1060 rv_ki0 rfl ?_
  refine lk_b3 (fun r2 g4 M3 e1 => ?_)
  refine lk_csW (q := 1064) (v := r2) (σ' := (g4, M3, A)) E (wP_act E.2.2.1 e1) gPs_241 hP_act ⟨rfl, rfl⟩ ⟨Nat.le_of_ble_eq_true rfl, Nat.le_of_ble_eq_true rfl⟩ ⟨lk_le2 hy1 (Nat.le_of_ble_eq_true rfl) (Nat.le_of_ble_eq_true rfl), lk_le2 hy2 (Nat.le_of_ble_eq_true rfl) (Nat.le_of_ble_eq_true rfl)⟩ rfl rfl rfl (Nat.le_of_ble_eq_true rfl) dL_isRefused_1061 rfl ?_
  refine rv_wd (y1 + 6) (y2 + 386) (Nat.le_of_eq (Nat.add_assoc _ _ _)) (Nat.le_of_eq (Nat.add_assoc _ _ _)) ?_
  refine rv_sipush (q := 1067) E.x dL_isRefused_1064 rv_ksm1262 rfl ?_
  refine rv_icmp_ne (q := 1070) (tgt := 1429) E.x dL_isRefused_1067 (by decide) rfl ?_ ?_
  · refine rv_aload_n (q := 1071) E.x dL_isRefused_1070 rfl rfl ?_
    refine rv_bipush (q := 1073) E.x dL_isRefused_1071 rv_kb13 rfl ?_
    refine rv_iload (q := 1075) E.x dL_isRefused_1073 rfl rfl ?_
    refine rv_iconst (q := 1076) E.x dL_isRefused_1075 rv_kim1 rfl ?_
    refine rv_iload_n (q := 1077) E.x dL_isRefused_1076 rfl rfl ?_
    refine rv_bipush (q := 1079) E.x dL_isRefused_1077 rv_kb30 rfl ?_
    refine rv_irem (q := 1080) E.x dL_isRefused_1079 (by decide) rfl ?_
    refine rv_isub (q := 1081) E.x dL_isRefused_1080 rfl ?_
    refine rv_iconst (q := 1082) E.x dL_isRefused_1081 rv_ki0 rfl ?_
    refine rv_iconst (q := 1083) E.x dL_isRefused_1082 rv_ki0 rfl ?_
    refine rv_iconst (q := 1084) E.x dL_isRefused_1083 rv_ki0 rfl ?_
    refine lk_b3 (fun r6 g8 M7 e5 => ?_)
    refine lk_csW (q := 1087) (v := r6) (σ' := (g8, M7, A)) E (wP_act E.2.2.1 e5) gPs_241 hP_act ⟨rfl, rfl⟩ ⟨Nat.le_of_ble_eq_true rfl, Nat.le_of_ble_eq_true rfl⟩ ⟨lk_le2 hy1 (Nat.le_of_ble_eq_true rfl) (Nat.le_of_ble_eq_true rfl), lk_le2 hy2 (Nat.le_of_ble_eq_true rfl) (Nat.le_of_ble_eq_true rfl)⟩ rfl rfl rfl (Nat.le_of_ble_eq_true rfl) dL_isRefused_1084 rfl ?_
    refine rv_wd (y1 + 9) (y2 + 579) (Nat.le_of_eq (Nat.add_assoc _ _ _)) (Nat.le_of_eq (Nat.add_assoc _ _ _)) ?_
    refine rv_sipush (q := 1090) E.x dL_isRefused_1087 rv_ksm1262 rfl ?_
    refine rv_icmp_ne (q := 1093) (tgt := 1429) E.x dL_isRefused_1090 (by decide) rfl ?_ ?_
    · refine rv_aload_n (q := 1094) E.x dL_isRefused_1093 rfl rfl ?_
      refine rv_bipush (q := 1096) E.x dL_isRefused_1094 rv_kb15 rfl ?_
      refine rv_iconst (q := 1097) E.x dL_isRefused_1096 rv_ki0 rfl ?_
      refine rv_iload (q := 1099) E.x dL_isRefused_1097 rfl rfl ?_
      refine rv_iload (q := 1101) E.x dL_isRefused_1099 rfl rfl ?_
      refine rv_bipush (q := 1103) E.x dL_isRefused_1101 rv_kb9 rfl ?_
      refine rv_bipush (q := 1105) E.x dL_isRefused_1103 rv_kb9 rfl ?_
      refine lk_b3 (fun r10 g12 M11 e9 => ?_)
      refine lk_csW (q := 1108) (v := r10) (σ' := (g12, M11, A)) E (wP_act E.2.2.1 e9) gPs_241 hP_act ⟨rfl, rfl⟩ ⟨Nat.le_of_ble_eq_true rfl, Nat.le_of_ble_eq_true rfl⟩ ⟨lk_le2 hy1 (Nat.le_of_ble_eq_true rfl) (Nat.le_of_ble_eq_true rfl), lk_le2 hy2 (Nat.le_of_ble_eq_true rfl) (Nat.le_of_ble_eq_true rfl)⟩ rfl rfl rfl (Nat.le_of_ble_eq_true rfl) dL_isRefused_1105 rfl ?_
      refine rv_wd (y1 + 12) (y2 + 772) (Nat.le_of_eq (Nat.add_assoc _ _ _)) (Nat.le_of_eq (Nat.add_assoc _ _ _)) ?_
      refine rv_sipush (q := 1111) E.x dL_isRefused_1108 rv_ksm1261 rfl ?_
      refine rv_icmp_ne (q := 1114) (tgt := 1429) E.x dL_isRefused_1111 (by decide) rfl ?_ ?_
      · refine rv_aload_n (q := 1115) E.x dL_isRefused_1114 rfl rfl ?_
        refine rv_bipush (q := 1117) E.x dL_isRefused_1115 rv_kb15 rfl ?_
        refine rv_iconst (q := 1118) E.x dL_isRefused_1117 rv_ki0 rfl ?_
        refine rv_iload (q := 1120) E.x dL_isRefused_1118 rfl rfl ?_
        refine rv_iconst (q := 1121) E.x dL_isRefused_1120 rv_ki0 rfl ?_
        refine rv_iload (q := 1123) E.x dL_isRefused_1121 rfl rfl ?_
        refine rv_iconst (q := 1124) E.x dL_isRefused_1123 rv_ki0 rfl ?_
        refine lk_b3 (fun r14 g16 M15 e13 => ?_)
        refine lk_csW (q := 1127) (v := r14) (σ' := (g16, M15, A)) E (wP_act E.2.2.1 e13) gPs_241 hP_act ⟨rfl, rfl⟩ ⟨Nat.le_of_ble_eq_true rfl, Nat.le_of_ble_eq_true rfl⟩ ⟨lk_le2 hy1 (Nat.le_of_ble_eq_true rfl) (Nat.le_of_ble_eq_true rfl), lk_le2 hy2 (Nat.le_of_ble_eq_true rfl) (Nat.le_of_ble_eq_true rfl)⟩ rfl rfl rfl (Nat.le_of_ble_eq_true rfl) dL_isRefused_1124 rfl ?_
        refine rv_wd (y1 + 15) (y2 + 965) (Nat.le_of_eq (Nat.add_assoc _ _ _)) (Nat.le_of_eq (Nat.add_assoc _ _ _)) ?_
        refine rv_sipush (q := 1130) E.x dL_isRefused_1127 rv_ksm1262 rfl ?_
        refine rv_icmp_ne (q := 1133) (tgt := 1429) E.x dL_isRefused_1130 (by decide) rfl ?_ ?_
        · refine rv_aload_n (q := 1134) E.x dL_isRefused_1133 rfl rfl ?_
          refine rv_bipush (q := 1136) E.x dL_isRefused_1134 rv_kb15 rfl ?_
          refine rv_iconst (q := 1137) E.x dL_isRefused_1136 rv_ki0 rfl ?_
          refine rv_iload (q := 1139) E.x dL_isRefused_1137 rfl rfl ?_
          refine rv_iconst (q := 1140) E.x dL_isRefused_1139 rv_ki0 rfl ?_
          refine rv_iconst (q := 1141) E.x dL_isRefused_1140 rv_ki1 rfl ?_
          refine rv_iload (q := 1143) E.x dL_isRefused_1141 rfl rfl ?_
          refine rv_ifz_eq (q := 1146) (tgt := 1151) E.x dL_isRefused_1143 (by decide) rfl ?_ ?_
          · refine rv_bipush (q := 1148) E.x dL_isRefused_1146 rv_kbm2 rfl ?_
            refine rv_goto (q := 1152) E.x dL_isRefused_1148 (by decide) ?_
            refine rv_wk [true, false, false, true, true, true, true, false, true, true, true, false, false, true, true] ?_
            exact bp_isRefused_1152 E A k978 y1 y2 hy1 hy2 h978 g16 M15 x3 x4 x5 x6 x8 x9 x10 x13 x14 x13 (-2)
          · refine rv_iconst (q := 1152) E.x dL_isRefused_1151 rv_ki2 rfl ?_
            refine rv_wk [true, false, false, true, true, true, true, false, true, true, true, false, false, true, true] ?_
            exact bp_isRefused_1152 E A k978 y1 y2 hy1 hy2 h978 g16 M15 x3 x4 x5 x6 x8 x9 x10 x13 x14 x13 2
        · refine rv_wk [true, false, false, true, true, true, true, false, true, true, true, false, false, true, false] ?_
          refine rv_wd (y1 + 43) (y2 + 1946) (Nat.add_le_add_left (Nat.le_of_ble_eq_true rfl) _) (Nat.add_le_add_left (Nat.le_of_ble_eq_true rfl) _) ?_
          exact bp_isRefused_1429 E A k978 y1 y2 hy1 hy2 h978 g16 M15 x3 x4 x5 x6 x8 x9 x10 x13
      · refine rv_wk [true, false, false, true, true, true, true, false, true, true, true, false, false, true, false] ?_
        refine rv_wd (y1 + 43) (y2 + 1946) (Nat.add_le_add_left (Nat.le_of_ble_eq_true rfl) _) (Nat.add_le_add_left (Nat.le_of_ble_eq_true rfl) _) ?_
        exact bp_isRefused_1429 E A k978 y1 y2 hy1 hy2 h978 g12 M11 x3 x4 x5 x6 x8 x9 x10 x13
    · refine rv_wk [true, false, false, true, true, true, true, false, true, true, true, false, false, true, false] ?_
      refine rv_wd (y1 + 43) (y2 + 1946) (Nat.add_le_add_left (Nat.le_of_ble_eq_true rfl) _) (Nat.add_le_add_left (Nat.le_of_ble_eq_true rfl) _) ?_
      exact bp_isRefused_1429 E A k978 y1 y2 hy1 hy2 h978 g8 M7 x3 x4 x5 x6 x8 x9 x10 x13
  · refine rv_wk [true, false, false, true, true, true, true, false, true, true, true, false, false, true, false] ?_
    refine rv_wd (y1 + 43) (y2 + 1946) (Nat.add_le_add_left (Nat.le_of_ble_eq_true rfl) _) (Nat.add_le_add_left (Nat.le_of_ble_eq_true rfl) _) ?_
    exact bp_isRefused_1429 E A k978 y1 y2 hy1 hy2 h978 g4 M3 x3 x4 x5 x6 x8 x9 x10 x13
set_option maxRecDepth 100000 in
theorem bp_isRefused_1017 {p : Program} {l : Launch} {e : Env} {s : State} {m : MethodId} {args : Array Value} {below : List Frame} {meth : Method} {c : Code} {D : va_G} {cI cZ cO : ClassId} {mi de z0 o b L : Nat} {k : Nat → Nat} {xs : Nat → Int32} (E : lk_E D cI cZ cO mi de z0 b L k xs cL_isRefused 15 (some .boolean) p l s m args meth c) (A : rv_Mem) (k978 : rC_gh → rv_Mem → Int32 → Bool → Int32 → Int32 → Int32 → Int32 → Int64 → Bool → Int32 → Option (Bool × rC_gh × rv_Mem)) (y1 y2 : Nat) (hy1 : y1 + 43 ≤ 495) (hy2 : y2 + 1946 ≤ 24294) (h978 : ∀ (gh : rC_gh) (M : rv_Mem) (x3 : Int32) (x4 : Bool) (x5 : Int32) (x6 : Int32) (x8 : Int32) (x9 : Int32) (x10 : Int64) (x12 : Bool) (x13 : Int32), rv_M (lk_G D cI cZ cO de z0 o k) (fun q => z0 ≤ q) p l e rmp_isRefused s m args below meth c (y1 + 43) (y2 + 1946) (lk_qWZ D cI cZ cO de z0 o k A below args s 511 24390) (k978 gh M x3 x4 x5 x6 x8 x9 x10 x12 x13) 978 [some (.ref o), none, none, some (.int x3), some (.int (rv_i x4)), some (.int x5), some (.int x6), none, some (.int x8), some (.int x9), some (.long x10), none, some (.int (rv_i x12)), some (.int x13), none] [] (gh, M, A)) : ∀ (gh : rC_gh) (M : rv_Mem) (x3 : Int32) (x4 : Bool) (x5 : Int32) (x6 : Int32) (x8 : Int32) (x9 : Int32) (x10 : Int64) (x13 : Int32) (s0 : Int32), rv_M (lk_G D cI cZ cO de z0 o k) (fun q => z0 ≤ q) p l e rmp_isRefused s m args below meth c (y1 + 0) (y2 + 0) (lk_qWZ D cI cZ cO de z0 o k A below args s 511 24390) (gp_isRefused_1017 A k978 gh M x3 x4 x5 x6 x8 x9 x10 x13 s0) 1017 [some (.ref o), none, none, some (.int x3), some (.int (rv_i x4)), some (.int x5), some (.int x6), none, some (.int x8), some (.int x9), some (.long x10), none, none, some (.int x13), none] [.int s0] (gh, M, A) := by
  intro gh M x3 x4 x5 x6 x8 x9 x10 x13 s0
  unfold gp_isRefused_1017
  refine rv_istore (q := 1019) (lv' := [_, _, _, _, _, _, _, _, _, _, _, _, _, _, _]) E.x dL_isRefused_1017 (Nat.le_of_ble_eq_true rfl) rfl rfl rfl ?_
  refine rv_aload_n (q := 1020) E.x dL_isRefused_1019 rfl rfl ?_
  refine rv_iconst (q := 1021) E.x dL_isRefused_1020 rv_ki1 rfl ?_
  refine rv_iload (q := 1023) E.x dL_isRefused_1021 rfl rfl ?_
  refine rv_iload (q := 1025) E.x dL_isRefused_1023 rfl rfl ?_
  refine rv_iconst (q := 1026) E.x dL_isRefused_1025 rv_ki0 rfl ?_
  refine rv_iconst (q := 1027) E.x dL_isRefused_1026 rv_ki0 rfl ?_
  refine rv_iconst (q := 1028) E.x dL_isRefused_1027 rv_ki0 rfl ?_
  refine lk_b3 (fun r2 g4 M3 e1 => ?_)
  refine lk_csW (q := 1031) (v := r2) (σ' := (g4, M3, A)) E (wP_act E.2.2.1 e1) gPs_241 hP_act ⟨rfl, rfl⟩ ⟨Nat.le_of_ble_eq_true rfl, Nat.le_of_ble_eq_true rfl⟩ ⟨lk_le2 hy1 (Nat.le_of_ble_eq_true rfl) (Nat.le_of_ble_eq_true rfl), lk_le2 hy2 (Nat.le_of_ble_eq_true rfl) (Nat.le_of_ble_eq_true rfl)⟩ rfl rfl rfl (Nat.le_of_ble_eq_true rfl) dL_isRefused_1028 rfl ?_
  refine rv_wd (y1 + 3) (y2 + 193) (Nat.le_of_eq (Nat.add_assoc _ _ _)) (Nat.le_of_eq (Nat.add_assoc _ _ _)) ?_
  refine rv_sipush (q := 1034) E.x dL_isRefused_1031 rv_ksm1261 rfl ?_
  refine rv_icmp_ne (q := 1037) (tgt := 1429) E.x dL_isRefused_1034 (by decide) rfl ?_ ?_
  · refine rv_aload_n (q := 1038) E.x dL_isRefused_1037 rfl rfl ?_
    refine rv_bipush (q := 1040) E.x dL_isRefused_1038 rv_kb10 rfl ?_
    refine rv_iload (q := 1042) E.x dL_isRefused_1040 rfl rfl ?_
    refine rv_iload (q := 1044) E.x dL_isRefused_1042 rfl rfl ?_
    refine rv_ifz_eq (q := 1047) (tgt := 1057) E.x dL_isRefused_1044 (by decide) rfl ?_ ?_
    · refine rv_bipush (q := 1049) E.x dL_isRefused_1047 rv_kbm2 rfl ?_
      refine rv_iload_n (q := 1050) E.x dL_isRefused_1049 rfl rfl ?_
      refine rv_bipush (q := 1052) E.x dL_isRefused_1050 rv_kb30 rfl ?_
      refine rv_irem (q := 1053) E.x dL_isRefused_1052 (by decide) rfl ?_
      refine rv_isub (q := 1054) E.x dL_isRefused_1053 rfl ?_
      refine rv_goto (q := 1058) E.x dL_isRefused_1054 (by decide) ?_
      refine rv_wk [true, false, false, true, true, true, true, false, true, true, true, false, false, true, true] ?_
      exact bp_isRefused_1058 E A k978 y1 y2 hy1 hy2 h978 g4 M3 x3 x4 x5 x6 x8 x9 x10 x13 s0 x13 ((-2) - (x3 - x3 / 30 * 30))
    · refine rv_iconst (q := 1058) E.x dL_isRefused_1057 rv_ki4 rfl ?_
      refine rv_wk [true, false, false, true, true, true, true, false, true, true, true, false, false, true, true] ?_
      exact bp_isRefused_1058 E A k978 y1 y2 hy1 hy2 h978 g4 M3 x3 x4 x5 x6 x8 x9 x10 x13 s0 x13 4
  · refine rv_wk [true, false, false, true, true, true, true, false, true, true, true, false, false, true, false] ?_
    refine rv_wd (y1 + 43) (y2 + 1946) (Nat.add_le_add_left (Nat.le_of_ble_eq_true rfl) _) (Nat.add_le_add_left (Nat.le_of_ble_eq_true rfl) _) ?_
    exact bp_isRefused_1429 E A k978 y1 y2 hy1 hy2 h978 g4 M3 x3 x4 x5 x6 x8 x9 x10 x13
set_option maxRecDepth 100000 in
theorem bp_isRefused_1496 {p : Program} {l : Launch} {e : Env} {s : State} {m : MethodId} {args : Array Value} {below : List Frame} {meth : Method} {c : Code} {D : va_G} {cI cZ cO : ClassId} {mi de z0 o b L : Nat} {k : Nat → Nat} {xs : Nat → Int32} (E : lk_E D cI cZ cO mi de z0 b L k xs cL_isRefused 15 (some .boolean) p l s m args meth c) (A : rv_Mem) (k1441 : rC_gh → rv_Mem → Int32 → Int64 → Bool → Int32 → Option (Bool × rC_gh × rv_Mem)) (y1 y2 : Nat) (hy1 : y1 + 1 ≤ 511) (hy2 : y2 + 6 ≤ 24390) (h1441 : ∀ (gh : rC_gh) (M : rv_Mem) (x6 : Int32) (x10 : Int64) (x12 : Bool) (x13 : Int32), rv_M (lk_G D cI cZ cO de z0 o k) (fun q => z0 ≤ q) p l e rmp_isRefused s m args below meth c (y1 + 1) (y2 + 6) (lk_qWZ D cI cZ cO de z0 o k A below args s 511 24390) (k1441 gh M x6 x10 x12 x13) 1441 [some (.ref o), none, none, none, none, none, some (.int x6), none, none, none, some (.long x10), none, some (.int (rv_i x12)), some (.int x13), none] [] (gh, M, A)) : ∀ (gh : rC_gh) (M : rv_Mem) (x6 : Int32) (x10 : Int64) (x13 : Int32) (s0 : Bool), rv_M (lk_G D cI cZ cO de z0 o k) (fun q => z0 ≤ q) p l e rmp_isRefused s m args below meth c (y1 + 1) (y2 + 6) (lk_qWZ D cI cZ cO de z0 o k A below args s 511 24390) (gp_isRefused_1496 A k1441 gh M x6 x10 x13 s0) 1496 [some (.ref o), none, none, none, none, none, some (.int x6), none, none, none, some (.long x10), none, none, some (.int x13), none] [.int (rv_i s0)] (gh, M, A) := by
  intro gh M x6 x10 x13 s0
  unfold gp_isRefused_1496
  refine rv_istore (q := 1498) (lv' := [_, _, _, _, _, _, _, _, _, _, _, _, _, _, _]) E.x dL_isRefused_1496 (Nat.le_of_ble_eq_true rfl) rfl rfl rfl ?_
  refine rv_iinc (q := 1501) (lv' := [_, _, _, _, _, _, _, _, _, _, _, _, _, _, _]) E.x dL_isRefused_1498 rv_ki1 rfl rfl rfl rfl ?_
  refine rv_goto (q := 1441) E.x dL_isRefused_1501 (by decide) ?_
  refine rv_wk [true, false, false, false, false, false, true, false, false, false, true, false, true, true, false] ?_
  exact h1441 gh M x6 x10 s0 (x13 + 1)
set_option maxRecDepth 100000 in
theorem bp_isRefused_1491 {p : Program} {l : Launch} {e : Env} {s : State} {m : MethodId} {args : Array Value} {below : List Frame} {meth : Method} {c : Code} {D : va_G} {cI cZ cO : ClassId} {mi de z0 o b L : Nat} {k : Nat → Nat} {xs : Nat → Int32} (E : lk_E D cI cZ cO mi de z0 b L k xs cL_isRefused 15 (some .boolean) p l s m args meth c) (A : rv_Mem) (k1441 : rC_gh → rv_Mem → Int32 → Int64 → Bool → Int32 → Option (Bool × rC_gh × rv_Mem)) (y1 y2 : Nat) (hy1 : y1 + 1 ≤ 511) (hy2 : y2 + 6 ≤ 24390) (h1441 : ∀ (gh : rC_gh) (M : rv_Mem) (x6 : Int32) (x10 : Int64) (x12 : Bool) (x13 : Int32), rv_M (lk_G D cI cZ cO de z0 o k) (fun q => z0 ≤ q) p l e rmp_isRefused s m args below meth c (y1 + 1) (y2 + 6) (lk_qWZ D cI cZ cO de z0 o k A below args s 511 24390) (k1441 gh M x6 x10 x12 x13) 1441 [some (.ref o), none, none, none, none, none, some (.int x6), none, none, none, some (.long x10), none, some (.int (rv_i x12)), some (.int x13), none] [] (gh, M, A)) : ∀ (gh : rC_gh) (M : rv_Mem) (x6 : Int32) (x10 : Int64) (x13 : Int32), rv_M (lk_G D cI cZ cO de z0 o k) (fun q => z0 ≤ q) p l e rmp_isRefused s m args below meth c (y1 + 1) (y2 + 6) (lk_qWZ D cI cZ cO de z0 o k A below args s 511 24390) (gp_isRefused_1491 A k1441 gh M x6 x10 x13) 1491 [some (.ref o), none, none, none, none, none, some (.int x6), none, none, none, some (.long x10), none, none, some (.int x13), none] [] (gh, M, A) := by
  intro gh M x6 x10 x13
  unfold gp_isRefused_1491
  refine rv_iconst (q := 1492) E.x dL_isRefused_1491 rv_ki1 rfl ?_
  refine rv_goto (q := 1496) E.x dL_isRefused_1492 (by decide) ?_
  refine rv_wk [true, false, false, false, false, false, true, false, false, false, true, false, false, true, false] ?_
  exact bp_isRefused_1496 E A k1441 y1 y2 hy1 hy2 h1441 gh M x6 x10 x13 true
set_option maxRecDepth 100000 in
theorem bp_isRefused_1504 {p : Program} {l : Launch} {e : Env} {s : State} {m : MethodId} {args : Array Value} {below : List Frame} {meth : Method} {c : Code} {D : va_G} {cI cZ cO : ClassId} {mi de z0 o b L : Nat} {k : Nat → Nat} {xs : Nat → Int32} (E : lk_E D cI cZ cO mi de z0 b L k xs cL_isRefused 15 (some .boolean) p l s m args meth c) (A : rv_Mem)   : ∀ (gh : rC_gh) (M : rv_Mem) (x10 : Int64) (x12 : Bool), rv_M (lk_G D cI cZ cO de z0 o k) (fun q => z0 ≤ q) p l e rmp_isRefused s m args below meth c 511 24390 (lk_qWZ D cI cZ cO de z0 o k A below args s 511 24390) (gp_isRefused_1504 A gh M x10 x12) 1504 [some (.ref o), none, none, none, none, none, none, none, none, none, some (.long x10), none, some (.int (rv_i x12)), none, none] [] (gh, M, A) := by
  intro gh M x10 x12
  unfold gp_isRefused_1504
  refine rv_iload (q := 1506) E.x dL_isRefused_1504 rfl rfl ?_
  refine rv_ifz_eq (q := 1509) (tgt := 1523) E.x dL_isRefused_1506 (by decide) rfl ?_ ?_
  · refine rv_aload_n (q := 1510) E.x dL_isRefused_1509 rfl rfl ?_
    refine rv_b2 (fun r2 M3 e1 => ?_)
    refine lk_csl0 (q := 1513) (v := r2) (σ' := (gh, M3, A)) E (wP_all E.2.2.1 e1) gPs_237 hP_all ⟨rfl, rfl⟩ ⟨Nat.le_of_ble_eq_true rfl, Nat.le_of_ble_eq_true rfl⟩ ⟨Nat.le_of_ble_eq_true rfl, Nat.le_of_ble_eq_true rfl⟩ rfl rfl rfl (Nat.le_of_ble_eq_true rfl) dL_isRefused_1510 rfl ?_
    refine rv_lload (q := 1515) E.x dL_isRefused_1513 rfl rfl ?_
    refine rv_lcmp (q := 1516) E.x dL_isRefused_1515 rfl ?_
    refine rv_if_ne (q := 1519) (tgt := 1523) E.x dL_isRefused_1516 (by decide) rfl ?_ ?_
    · refine rv_iconst (q := 1520) E.x dL_isRefused_1519 rv_ki1 rfl ?_
      refine rv_goto (q := 1524) E.x dL_isRefused_1520 (by decide) ?_
      exact lk_zret E true rfl ⟨Nat.le_of_ble_eq_true rfl, Nat.le_of_ble_eq_true rfl⟩ dL_isRefused_1524
    · refine rv_iconst (q := 1524) E.x dL_isRefused_1523 rv_ki0 rfl ?_
      exact lk_zret E false rfl ⟨Nat.le_of_ble_eq_true rfl, Nat.le_of_ble_eq_true rfl⟩ dL_isRefused_1524
  · refine rv_iconst (q := 1524) E.x dL_isRefused_1523 rv_ki0 rfl ?_
    exact lk_zret E false rfl ⟨Nat.le_of_ble_eq_true rfl, Nat.le_of_ble_eq_true rfl⟩ dL_isRefused_1524
set_option maxRecDepth 100000 in
theorem bp_isRefused_1441_s {p : Program} {l : Launch} {e : Env} {s : State} {m : MethodId} {args : Array Value} {below : List Frame} {meth : Method} {c : Code} {D : va_G} {cI cZ cO : ClassId} {mi de z0 o b L : Nat} {k : Nat → Nat} {xs : Nat → Int32} (E : lk_E D cI cZ cO mi de z0 b L k xs cL_isRefused 15 (some .boolean) p l s m args meth c) (A : rv_Mem) (y1 y2 : Nat) (hy1 : y1 + 1 ≤ 511) (hy2 : y2 + 6 ≤ 24390) (k1441 : rC_gh → rv_Mem → Int32 → Int64 → Bool → Int32 → Option (Bool × rC_gh × rv_Mem)) (h1441 : ∀ (gh : rC_gh) (M : rv_Mem) (x6 : Int32) (x10 : Int64) (x12 : Bool) (x13 : Int32), rv_M (lk_G D cI cZ cO de z0 o k) (fun q => z0 ≤ q) p l e rmp_isRefused s m args below meth c (y1 + 1) (y2 + 6) (lk_qWZ D cI cZ cO de z0 o k A below args s 511 24390) (k1441 gh M x6 x10 x12 x13) 1441 [some (.ref o), none, none, none, none, none, some (.int x6), none, none, none, some (.long x10), none, some (.int (rv_i x12)), some (.int x13), none] [] (gh, M, A)) : ∀ (gh : rC_gh) (M : rv_Mem) (x6 : Int32) (x10 : Int64) (x12 : Bool) (x13 : Int32), rv_M (lk_G D cI cZ cO de z0 o k) (fun q => z0 ≤ q) p l e rmp_isRefused s m args below meth c (y1 + 0) (y2 + 0) (lk_qWZ D cI cZ cO de z0 o k A below args s 511 24390) (gp_isRefused_1441_s A k1441 gh M x6 x10 x12 x13) 1441 [some (.ref o), none, none, none, none, none, some (.int x6), none, none, none, some (.long x10), none, some (.int (rv_i x12)), some (.int x13), none] [] (gh, M, A) := by
  intro gh M x6 x10 x12 x13
  unfold gp_isRefused_1441_s
  refine rv_iload (q := 1443) E.x dL_isRefused_1441 rfl rfl ?_
  refine rv_bipush (q := 1445) E.x dL_isRefused_1443 rv_kb19 rfl ?_
  refine rv_icmp_ge (q := 1448) (tgt := 1504) E.x dL_isRefused_1445 (by decide) rfl ?_ ?_
  · refine rv_iload (q := 1450) E.x dL_isRefused_1448 rfl rfl ?_
    refine rv_ifz_eq (q := 1453) (tgt := 1504) E.x dL_isRefused_1450 (by decide) rfl ?_ ?_
    · refine rv_iload (q := 1455) E.x dL_isRefused_1453 rfl rfl ?_
      refine rv_bipush (q := 1457) E.x dL_isRefused_1455 rv_kb9 rfl ?_
      refine rv_icmp_eq (q := 1460) (tgt := 1491) E.x dL_isRefused_1457 (by decide) rfl ?_ ?_
      · refine rv_iload (q := 1462) E.x dL_isRefused_1460 rfl rfl ?_
        refine rv_bipush (q := 1464) E.x dL_isRefused_1462 rv_kb10 rfl ?_
        refine rv_icmp_eq (q := 1467) (tgt := 1491) E.x dL_isRefused_1464 (by decide) rfl ?_ ?_
        · refine rv_iload (q := 1469) E.x dL_isRefused_1467 rfl rfl ?_
          refine rv_bipush (q := 1471) E.x dL_isRefused_1469 rv_kb15 rfl ?_
          refine rv_icmp_eq (q := 1474) (tgt := 1491) E.x dL_isRefused_1471 (by decide) rfl ?_ ?_
          · refine rv_aload_n (q := 1475) E.x dL_isRefused_1474 rfl rfl ?_
            refine rv_iload (q := 1477) E.x dL_isRefused_1475 rfl rfl ?_
            refine rv_iload (q := 1479) E.x dL_isRefused_1477 rfl rfl ?_
            refine rv_iconst (q := 1480) E.x dL_isRefused_1479 rv_ki0 rfl ?_
            refine rv_iconst (q := 1481) E.x dL_isRefused_1480 rv_ki0 rfl ?_
            refine rv_iconst (q := 1482) E.x dL_isRefused_1481 rv_ki0 rfl ?_
            refine rv_b2 (fun r2 M3 e1 => ?_)
            refine lk_csW (q := 1485) (v := r2) (σ' := (gh, M3, A)) E (wP_of E.2.2.1 e1) gPs_218 hP_of ⟨rfl, rfl⟩ ⟨Nat.le_of_ble_eq_true rfl, Nat.le_of_ble_eq_true rfl⟩ ⟨lk_le2 hy1 (Nat.le_of_ble_eq_true rfl) (Nat.le_of_ble_eq_true rfl), lk_le2 hy2 (Nat.le_of_ble_eq_true rfl) (Nat.le_of_ble_eq_true rfl)⟩ rfl rfl rfl (Nat.le_of_ble_eq_true rfl) dL_isRefused_1482 rfl ?_
            refine rv_wd (y1 + 1) (y2 + 6) (Nat.le_of_eq (Nat.add_assoc _ _ _)) (Nat.le_of_eq (Nat.add_assoc _ _ _)) ?_
            refine rv_sipush (q := 1488) E.x dL_isRefused_1485 rv_ksm1261 rfl ?_
            refine rv_icmp_ne (q := 1491) (tgt := 1495) E.x dL_isRefused_1488 (by decide) rfl ?_ ?_
            · refine rv_wk [true, false, false, false, false, false, true, false, false, false, true, false, false, true, false] ?_
              exact bp_isRefused_1491 E A k1441 y1 y2 hy1 hy2 h1441 gh M3 x6 x10 x13
            · refine rv_iconst (q := 1496) E.x dL_isRefused_1495 rv_ki0 rfl ?_
              refine rv_wk [true, false, false, false, false, false, true, false, false, false, true, false, false, true, false] ?_
              exact bp_isRefused_1496 E A k1441 y1 y2 hy1 hy2 h1441 gh M3 x6 x10 x13 false
          · refine rv_wk [true, false, false, false, false, false, true, false, false, false, true, false, false, true, false] ?_
            refine rv_wd (y1 + 1) (y2 + 6) (Nat.add_le_add_left (Nat.le_of_ble_eq_true rfl) _) (Nat.add_le_add_left (Nat.le_of_ble_eq_true rfl) _) ?_
            exact bp_isRefused_1491 E A k1441 y1 y2 hy1 hy2 h1441 gh M x6 x10 x13
        · refine rv_wk [true, false, false, false, false, false, true, false, false, false, true, false, false, true, false] ?_
          refine rv_wd (y1 + 1) (y2 + 6) (Nat.add_le_add_left (Nat.le_of_ble_eq_true rfl) _) (Nat.add_le_add_left (Nat.le_of_ble_eq_true rfl) _) ?_
          exact bp_isRefused_1491 E A k1441 y1 y2 hy1 hy2 h1441 gh M x6 x10 x13
      · refine rv_wk [true, false, false, false, false, false, true, false, false, false, true, false, false, true, false] ?_
        refine rv_wd (y1 + 1) (y2 + 6) (Nat.add_le_add_left (Nat.le_of_ble_eq_true rfl) _) (Nat.add_le_add_left (Nat.le_of_ble_eq_true rfl) _) ?_
        exact bp_isRefused_1491 E A k1441 y1 y2 hy1 hy2 h1441 gh M x6 x10 x13
    · refine rv_wd 511 24390 (lk_le1 hy1 (Nat.le_of_ble_eq_true rfl) (Nat.le_of_ble_eq_true rfl)) (lk_le1 hy2 (Nat.le_of_ble_eq_true rfl) (Nat.le_of_ble_eq_true rfl)) ?_
      refine rv_wk [true, false, false, false, false, false, false, false, false, false, true, false, true, false, false] ?_
      exact bp_isRefused_1504 E A gh M x10 x12
  · refine rv_wd 511 24390 (lk_le1 hy1 (Nat.le_of_ble_eq_true rfl) (Nat.le_of_ble_eq_true rfl)) (lk_le1 hy2 (Nat.le_of_ble_eq_true rfl) (Nat.le_of_ble_eq_true rfl)) ?_
    refine rv_wk [true, false, false, false, false, false, false, false, false, false, true, false, true, false, false] ?_
    exact bp_isRefused_1504 E A gh M x10 x12
theorem bp_isRefused_1441 {p : Program} {l : Launch} {e : Env} {s : State} {m : MethodId} {args : Array Value} {below : List Frame} {meth : Method} {c : Code} {D : va_G} {cI cZ cO : ClassId} {mi de z0 o b L : Nat} {k : Nat → Nat} {xs : Nat → Int32} (E : lk_E D cI cZ cO mi de z0 b L k xs cL_isRefused 15 (some .boolean) p l s m args meth c) (A : rv_Mem) : ∀ (n y1 y2 : Nat), y1 + n * 1 ≤ 511 → y2 + n * 6 ≤ 24390 → ∀ (gh : rC_gh) (M : rv_Mem) (x6 : Int32) (x10 : Int64) (x12 : Bool) (x13 : Int32), rv_M (lk_G D cI cZ cO de z0 o k) (fun q => z0 ≤ q) p l e rmp_isRefused s m args below meth c (y1 + 0) (y2 + 0) (lk_qWZ D cI cZ cO de z0 o k A below args s 511 24390) (gp_isRefused_1441 A n gh M x6 x10 x12 x13) 1441 [some (.ref o), none, none, none, none, none, some (.int x6), none, none, none, some (.long x10), none, some (.int (rv_i x12)), some (.int x13), none] [] (gh, M, A) := by
  intro n
  induction n with
  | zero => exact fun _ _ _ _ _ _ _ _ _ _ => rv_stuck
  | succ n ih => exact fun y1 y2 hy1 hy2 => bp_isRefused_1441_s E A y1 y2 (by omega) (by omega) (gp_isRefused_1441 A n) (ih (y1 + 1) (y2 + 6) (by omega) (by omega))
set_option maxRecDepth 100000 in
theorem bp_isRefused_1438 {p : Program} {l : Launch} {e : Env} {s : State} {m : MethodId} {args : Array Value} {below : List Frame} {meth : Method} {c : Code} {D : va_G} {cI cZ cO : ClassId} {mi de z0 o b L : Nat} {k : Nat → Nat} {xs : Nat → Int32} (E : lk_E D cI cZ cO mi de z0 b L k xs cL_isRefused 15 (some .boolean) p l s m args meth c) (A : rv_Mem)   : ∀ (gh : rC_gh) (M : rv_Mem) (x6 : Int32) (x10 : Int64) (x12 : Bool), rv_M (lk_G D cI cZ cO de z0 o k) (fun q => z0 ≤ q) p l e rmp_isRefused s m args below meth c 495 24294 (lk_qWZ D cI cZ cO de z0 o k A below args s 511 24390) (gp_isRefused_1438 A gh M x6 x10 x12) 1438 [some (.ref o), none, none, none, none, none, some (.int x6), none, none, none, some (.long x10), none, some (.int (rv_i x12)), none, none] [] (gh, M, A) := by
  intro gh M x6 x10 x12
  unfold gp_isRefused_1438
  refine rv_iconst (q := 1439) E.x dL_isRefused_1438 rv_ki4 rfl ?_
  refine rv_istore (q := 1441) (lv' := [_, _, _, _, _, _, _, _, _, _, _, _, _, _, _]) E.x dL_isRefused_1439 (Nat.le_of_ble_eq_true rfl) rfl rfl rfl ?_
  refine rv_wk [true, false, false, false, false, false, true, false, false, false, true, false, true, true, false] ?_
  refine rv_wd (495 + 0) (24294 + 0) (Nat.le_of_ble_eq_true rfl) (Nat.le_of_ble_eq_true rfl) ?_
  exact bp_isRefused_1441 E A 16 495 24294 (Nat.le_of_ble_eq_true rfl) (Nat.le_of_ble_eq_true rfl) gh M x6 x10 x12 4
set_option maxRecDepth 100000 in
theorem bp_isRefused_978_s {p : Program} {l : Launch} {e : Env} {s : State} {m : MethodId} {args : Array Value} {below : List Frame} {meth : Method} {c : Code} {D : va_G} {cI cZ cO : ClassId} {mi de z0 o b L : Nat} {k : Nat → Nat} {xs : Nat → Int32} (E : lk_E D cI cZ cO mi de z0 b L k xs cL_isRefused 15 (some .boolean) p l s m args meth c) (A : rv_Mem) (y1 y2 : Nat) (hy1 : y1 + 43 ≤ 495) (hy2 : y2 + 1946 ≤ 24294) (k978 : rC_gh → rv_Mem → Int32 → Bool → Int32 → Int32 → Int32 → Int32 → Int64 → Bool → Int32 → Option (Bool × rC_gh × rv_Mem)) (h978 : ∀ (gh : rC_gh) (M : rv_Mem) (x3 : Int32) (x4 : Bool) (x5 : Int32) (x6 : Int32) (x8 : Int32) (x9 : Int32) (x10 : Int64) (x12 : Bool) (x13 : Int32), rv_M (lk_G D cI cZ cO de z0 o k) (fun q => z0 ≤ q) p l e rmp_isRefused s m args below meth c (y1 + 43) (y2 + 1946) (lk_qWZ D cI cZ cO de z0 o k A below args s 511 24390) (k978 gh M x3 x4 x5 x6 x8 x9 x10 x12 x13) 978 [some (.ref o), none, none, some (.int x3), some (.int (rv_i x4)), some (.int x5), some (.int x6), none, some (.int x8), some (.int x9), some (.long x10), none, some (.int (rv_i x12)), some (.int x13), none] [] (gh, M, A)) : ∀ (gh : rC_gh) (M : rv_Mem) (x3 : Int32) (x4 : Bool) (x5 : Int32) (x6 : Int32) (x8 : Int32) (x9 : Int32) (x10 : Int64) (x12 : Bool) (x13 : Int32), rv_M (lk_G D cI cZ cO de z0 o k) (fun q => z0 ≤ q) p l e rmp_isRefused s m args below meth c (y1 + 0) (y2 + 0) (lk_qWZ D cI cZ cO de z0 o k A below args s 511 24390) (gp_isRefused_978_s A k978 gh M x3 x4 x5 x6 x8 x9 x10 x12 x13) 978 [some (.ref o), none, none, some (.int x3), some (.int (rv_i x4)), some (.int x5), some (.int x6), none, some (.int x8), some (.int x9), some (.long x10), none, some (.int (rv_i x12)), some (.int x13), none] [] (gh, M, A) := by
  intro gh M x3 x4 x5 x6 x8 x9 x10 x12 x13
  unfold gp_isRefused_978_s
  refine rv_iload (q := 980) E.x dL_isRefused_978 rfl rfl ?_
  refine rv_aload_n (q := 981) E.x dL_isRefused_980 rfl rfl ?_
  refine rv_b1 (fun r2 e1 => ?_)
  refine lk_cn (q := 984) (v := r2) (M1 := M) E (fun u hI => c11_changes hI e1) gP_187 hX11_changes ⟨rfl, rfl⟩ ⟨Nat.le_of_ble_eq_true rfl, Nat.le_of_ble_eq_true rfl⟩ ⟨lk_le1 hy1 (Nat.le_of_ble_eq_true rfl) (Nat.le_of_ble_eq_true rfl), lk_le1 hy2 (Nat.le_of_ble_eq_true rfl) (Nat.le_of_ble_eq_true rfl)⟩ rfl rfl rfl (Nat.le_of_ble_eq_true rfl) dL_isRefused_981 rfl ?_
  refine rv_icmp_ge (q := 987) (tgt := 1438) E.x dL_isRefused_984 (by decide) rfl ?_ ?_
  · refine rv_iload (q := 989) E.x dL_isRefused_987 rfl rfl ?_
    refine rv_ifz_eq (q := 992) (tgt := 1438) E.x dL_isRefused_989 (by decide) rfl ?_ ?_
    · refine rv_iload (q := 994) E.x dL_isRefused_992 rfl rfl ?_
      refine rv_ifz_eq (q := 997) (tgt := 1006) E.x dL_isRefused_994 (by decide) rfl ?_ ?_
      · refine rv_iconst (q := 998) E.x dL_isRefused_997 rv_kim1 rfl ?_
        refine rv_iload_n (q := 999) E.x dL_isRefused_998 rfl rfl ?_
        refine rv_bipush (q := 1001) E.x dL_isRefused_999 rv_kb30 rfl ?_
        refine rv_irem (q := 1002) E.x dL_isRefused_1001 (by decide) rfl ?_
        refine rv_isub (q := 1003) E.x dL_isRefused_1002 rfl ?_
        refine rv_goto (q := 1017) E.x dL_isRefused_1003 (by decide) ?_
        refine rv_wk [true, false, false, true, true, true, true, false, true, true, true, false, false, true, false] ?_
        exact bp_isRefused_1017 E A k978 y1 y2 hy1 hy2 h978 gh M x3 x4 x5 x6 x8 x9 x10 x13 ((-1) - (x3 - x3 / 30 * 30))
      · refine rv_aload_n (q := 1007) E.x dL_isRefused_1006 rfl rfl ?_
        refine rv_iload (q := 1009) E.x dL_isRefused_1007 rfl rfl ?_
        refine lk_x1r (fun r4 e3 => ?_) (fun w5 e6 => rv_stuck)
        refine lk_ci (q := 1012) (v := r4) (M1 := M) E (fun u hI _ => c11_sets E.2.2.1.1 hI e3) gP_127 hX11_sets ⟨rfl, rfl⟩ ⟨Nat.le_of_ble_eq_true rfl, Nat.le_of_ble_eq_true rfl⟩ ⟨lk_le1 hy1 (Nat.le_of_ble_eq_true rfl) (Nat.le_of_ble_eq_true rfl), lk_le1 hy2 (Nat.le_of_ble_eq_true rfl) (Nat.le_of_ble_eq_true rfl)⟩ rfl rfl rfl (Nat.le_of_ble_eq_true rfl) dL_isRefused_1009 rfl ?_
        refine rv_iload_n (q := 1013) E.x dL_isRefused_1012 rfl rfl ?_
        refine rv_bipush (q := 1015) E.x dL_isRefused_1013 rv_kb30 rfl ?_
        refine rv_irem (q := 1016) E.x dL_isRefused_1015 (by decide) rfl ?_
        refine rv_iadd (q := 1017) E.x dL_isRefused_1016 rfl ?_
        refine rv_wk [true, false, false, true, true, true, true, false, true, true, true, false, false, true, false] ?_
        exact bp_isRefused_1017 E A k978 y1 y2 hy1 hy2 h978 gh M x3 x4 x5 x6 x8 x9 x10 x13 (r4 + (x3 - x3 / 30 * 30))
    · refine rv_wd 495 24294 (lk_le1 hy1 (Nat.le_of_ble_eq_true rfl) (Nat.le_of_ble_eq_true rfl)) (lk_le1 hy2 (Nat.le_of_ble_eq_true rfl) (Nat.le_of_ble_eq_true rfl)) ?_
      refine rv_wk [true, false, false, false, false, false, true, false, false, false, true, false, true, false, false] ?_
      exact bp_isRefused_1438 E A gh M x6 x10 x12
  · refine rv_wd 495 24294 (lk_le1 hy1 (Nat.le_of_ble_eq_true rfl) (Nat.le_of_ble_eq_true rfl)) (lk_le1 hy2 (Nat.le_of_ble_eq_true rfl) (Nat.le_of_ble_eq_true rfl)) ?_
    refine rv_wk [true, false, false, false, false, false, true, false, false, false, true, false, true, false, false] ?_
    exact bp_isRefused_1438 E A gh M x6 x10 x12
theorem bp_isRefused_978 {p : Program} {l : Launch} {e : Env} {s : State} {m : MethodId} {args : Array Value} {below : List Frame} {meth : Method} {c : Code} {D : va_G} {cI cZ cO : ClassId} {mi de z0 o b L : Nat} {k : Nat → Nat} {xs : Nat → Int32} (E : lk_E D cI cZ cO mi de z0 b L k xs cL_isRefused 15 (some .boolean) p l s m args meth c) (A : rv_Mem) : ∀ (n y1 y2 : Nat), y1 + n * 43 ≤ 495 → y2 + n * 1946 ≤ 24294 → ∀ (gh : rC_gh) (M : rv_Mem) (x3 : Int32) (x4 : Bool) (x5 : Int32) (x6 : Int32) (x8 : Int32) (x9 : Int32) (x10 : Int64) (x12 : Bool) (x13 : Int32), rv_M (lk_G D cI cZ cO de z0 o k) (fun q => z0 ≤ q) p l e rmp_isRefused s m args below meth c (y1 + 0) (y2 + 0) (lk_qWZ D cI cZ cO de z0 o k A below args s 511 24390) (gp_isRefused_978 A n gh M x3 x4 x5 x6 x8 x9 x10 x12 x13) 978 [some (.ref o), none, none, some (.int x3), some (.int (rv_i x4)), some (.int x5), some (.int x6), none, some (.int x8), some (.int x9), some (.long x10), none, some (.int (rv_i x12)), some (.int x13), none] [] (gh, M, A) := by
  intro n
  induction n with
  | zero => exact fun _ _ _ _ _ _ _ _ _ _ _ _ _ _ _ => rv_stuck
  | succ n ih => exact fun y1 y2 hy1 hy2 => bp_isRefused_978_s E A y1 y2 (by omega) (by omega) (gp_isRefused_978 A n) (ih (y1 + 43) (y2 + 1946) (by omega) (by omega))
set_option maxRecDepth 100000 in
theorem bp_isRefused_973 {p : Program} {l : Launch} {e : Env} {s : State} {m : MethodId} {args : Array Value} {below : List Frame} {meth : Method} {c : Code} {D : va_G} {cI cZ cO : ClassId} {mi de z0 o b L : Nat} {k : Nat → Nat} {xs : Nat → Int32} (E : lk_E D cI cZ cO mi de z0 b L k xs cL_isRefused 15 (some .boolean) p l s m args meth c) (A : rv_Mem)   : ∀ (gh : rC_gh) (M : rv_Mem) (x3 : Int32) (x4 : Bool) (x5 : Int32) (x6 : Int32) (x8 : Int32) (x9 : Int32) (x10 : Int64) (s0 : Bool), rv_M (lk_G D cI cZ cO de z0 o k) (fun q => z0 ≤ q) p l e rmp_isRefused s m args below meth c 108 6780 (lk_qWZ D cI cZ cO de z0 o k A below args s 511 24390) (gp_isRefused_973 A gh M x3 x4 x5 x6 x8 x9 x10 s0) 973 [some (.ref o), none, none, some (.int x3), some (.int (rv_i x4)), some (.int x5), some (.int x6), none, some (.int x8), some (.int x9), some (.long x10), none, none, none, none] [.int (rv_i s0)] (gh, M, A) := by
  intro gh M x3 x4 x5 x6 x8 x9 x10 s0
  unfold gp_isRefused_973
  refine rv_istore (q := 975) (lv' := [_, _, _, _, _, _, _, _, _, _, _, _, _, _, _]) E.x dL_isRefused_973 (Nat.le_of_ble_eq_true rfl) rfl rfl rfl ?_
  refine rv_iconst (q := 976) E.x dL_isRefused_975 rv_ki0 rfl ?_
  refine rv_istore (q := 978) (lv' := [_, _, _, _, _, _, _, _, _, _, _, _, _, _, _]) E.x dL_isRefused_976 (Nat.le_of_ble_eq_true rfl) rfl rfl rfl ?_
  refine rv_wk [true, false, false, true, true, true, true, false, true, true, true, false, true, true, false] ?_
  refine rv_wd (108 + 0) (6780 + 0) (Nat.le_of_ble_eq_true rfl) (Nat.le_of_ble_eq_true rfl) ?_
  exact bp_isRefused_978 E A 9 108 6780 (Nat.le_of_ble_eq_true rfl) (Nat.le_of_ble_eq_true rfl) gh M x3 x4 x5 x6 x8 x9 x10 s0 0
set_option maxRecDepth 100000 in
theorem bp_isRefused_972 {p : Program} {l : Launch} {e : Env} {s : State} {m : MethodId} {args : Array Value} {below : List Frame} {meth : Method} {c : Code} {D : va_G} {cI cZ cO : ClassId} {mi de z0 o b L : Nat} {k : Nat → Nat} {xs : Nat → Int32} (E : lk_E D cI cZ cO mi de z0 b L k xs cL_isRefused 15 (some .boolean) p l s m args meth c) (A : rv_Mem)   : ∀ (gh : rC_gh) (M : rv_Mem) (x3 : Int32) (x4 : Bool) (x5 : Int32) (x6 : Int32) (x8 : Int32) (x9 : Int32) (x10 : Int64), rv_M (lk_G D cI cZ cO de z0 o k) (fun q => z0 ≤ q) p l e rmp_isRefused s m args below meth c 108 6780 (lk_qWZ D cI cZ cO de z0 o k A below args s 511 24390) (gp_isRefused_972 A gh M x3 x4 x5 x6 x8 x9 x10) 972 [some (.ref o), none, none, some (.int x3), some (.int (rv_i x4)), some (.int x5), some (.int x6), none, some (.int x8), some (.int x9), some (.long x10), none, none, none, none] [] (gh, M, A) := by
  intro gh M x3 x4 x5 x6 x8 x9 x10
  unfold gp_isRefused_972
  refine rv_iconst (q := 973) E.x dL_isRefused_972 rv_ki0 rfl ?_
  refine rv_wk [true, false, false, true, true, true, true, false, true, true, true, false, false, false, false] ?_
  exact bp_isRefused_973 E A gh M x3 x4 x5 x6 x8 x9 x10 false
set_option maxRecDepth 100000 in
theorem bp_isRefused_865 {p : Program} {l : Launch} {e : Env} {s : State} {m : MethodId} {args : Array Value} {below : List Frame} {meth : Method} {c : Code} {D : va_G} {cI cZ cO : ClassId} {mi de z0 o b L : Nat} {k : Nat → Nat} {xs : Nat → Int32} (E : lk_E D cI cZ cO mi de z0 b L k xs cL_isRefused 15 (some .boolean) p l s m args meth c) (A : rv_Mem)   : ∀ (gh : rC_gh) (M : rv_Mem) (x3 : Int32) (x4 : Bool) (x5 : Int32) (x6 : Int32) (x8 : Int32) (x9 : Int32) (x10 : Int64) (s2 : Int32), rv_M (lk_G D cI cZ cO de z0 o k) (fun q => z0 ≤ q) p l e rmp_isRefused s m args below meth c 90 5790 (lk_qWZ D cI cZ cO de z0 o k A below args s 511 24390) (gp_isRefused_865 A gh M x3 x4 x5 x6 x8 x9 x10 s2) 865 [some (.ref o), none, none, some (.int x3), some (.int (rv_i x4)), some (.int x5), some (.int x6), none, some (.int x8), some (.int x9), some (.long x10), none, none, none, none] [.int s2, .int 22, .ref o] (gh, M, A) := by
  intro gh M x3 x4 x5 x6 x8 x9 x10 s2
  unfold gp_isRefused_865
  refine rv_iconst (q := 866) E.x dL_isRefused_865 rv_ki0 rfl ?_
  refine rv_iconst (q := 867) E.x dL_isRefused_866 rv_ki0 rfl ?_
  refine rv_iconst (q := 868) E.x dL_isRefused_867 rv_ki0 rfl ?_
  refine rv_iconst (q := 869) E.x dL_isRefused_868 rv_ki0 rfl ?_
  refine lk_b3 (fun r2 g4 M3 e1 => ?_)
  refine lk_csW (q := 872) (v := r2) (σ' := (g4, M3, A)) E (wP_act E.2.2.1 e1) gPs_241 hP_act ⟨rfl, rfl⟩ ⟨Nat.le_of_ble_eq_true rfl, Nat.le_of_ble_eq_true rfl⟩ ⟨Nat.le_of_ble_eq_true rfl, Nat.le_of_ble_eq_true rfl⟩ rfl rfl rfl (Nat.le_of_ble_eq_true rfl) dL_isRefused_869 rfl ?_
  refine rv_sipush (q := 875) E.x dL_isRefused_872 rv_ksm1262 rfl ?_
  refine rv_icmp_ne (q := 878) (tgt := 972) E.x dL_isRefused_875 (by decide) rfl ?_ ?_
  · refine rv_aload_n (q := 879) E.x dL_isRefused_878 rfl rfl ?_
    refine rv_bipush (q := 881) E.x dL_isRefused_879 rv_kb23 rfl ?_
    refine rv_iload (q := 883) E.x dL_isRefused_881 rfl rfl ?_
    refine rv_iconst (q := 884) E.x dL_isRefused_883 rv_ki0 rfl ?_
    refine rv_iconst (q := 885) E.x dL_isRefused_884 rv_ki0 rfl ?_
    refine rv_iconst (q := 886) E.x dL_isRefused_885 rv_ki0 rfl ?_
    refine rv_iconst (q := 887) E.x dL_isRefused_886 rv_ki0 rfl ?_
    refine lk_b3 (fun r6 g8 M7 e5 => ?_)
    refine lk_csW (q := 890) (v := r6) (σ' := (g8, M7, A)) E (wP_act E.2.2.1 e5) gPs_241 hP_act ⟨rfl, rfl⟩ ⟨Nat.le_of_ble_eq_true rfl, Nat.le_of_ble_eq_true rfl⟩ ⟨Nat.le_of_ble_eq_true rfl, Nat.le_of_ble_eq_true rfl⟩ rfl rfl rfl (Nat.le_of_ble_eq_true rfl) dL_isRefused_887 rfl ?_
    refine rv_sipush (q := 893) E.x dL_isRefused_890 rv_ksm1261 rfl ?_
    refine rv_icmp_ne (q := 896) (tgt := 972) E.x dL_isRefused_893 (by decide) rfl ?_ ?_
    · refine rv_aload_n (q := 897) E.x dL_isRefused_896 rfl rfl ?_
      refine rv_bipush (q := 899) E.x dL_isRefused_897 rv_kb24 rfl ?_
      refine rv_iload (q := 901) E.x dL_isRefused_899 rfl rfl ?_
      refine rv_iconst (q := 902) E.x dL_isRefused_901 rv_ki0 rfl ?_
      refine rv_iconst (q := 903) E.x dL_isRefused_902 rv_ki1 rfl ?_
      refine rv_iconst (q := 904) E.x dL_isRefused_903 rv_ki0 rfl ?_
      refine rv_iconst (q := 905) E.x dL_isRefused_904 rv_ki0 rfl ?_
      refine lk_b3 (fun r10 g12 M11 e9 => ?_)
      refine lk_csW (q := 908) (v := r10) (σ' := (g12, M11, A)) E (wP_act E.2.2.1 e9) gPs_241 hP_act ⟨rfl, rfl⟩ ⟨Nat.le_of_ble_eq_true rfl, Nat.le_of_ble_eq_true rfl⟩ ⟨Nat.le_of_ble_eq_true rfl, Nat.le_of_ble_eq_true rfl⟩ rfl rfl rfl (Nat.le_of_ble_eq_true rfl) dL_isRefused_905 rfl ?_
      refine rv_sipush (q := 911) E.x dL_isRefused_908 rv_ksm1261 rfl ?_
      refine rv_icmp_ne (q := 914) (tgt := 972) E.x dL_isRefused_911 (by decide) rfl ?_ ?_
      · refine rv_aload_n (q := 915) E.x dL_isRefused_914 rfl rfl ?_
        refine rv_bipush (q := 917) E.x dL_isRefused_915 rv_kb25 rfl ?_
        refine rv_iload (q := 919) E.x dL_isRefused_917 rfl rfl ?_
        refine rv_iconst (q := 920) E.x dL_isRefused_919 rv_ki0 rfl ?_
        refine rv_iconst (q := 921) E.x dL_isRefused_920 rv_ki1 rfl ?_
        refine rv_iconst (q := 922) E.x dL_isRefused_921 rv_ki0 rfl ?_
        refine rv_iconst (q := 923) E.x dL_isRefused_922 rv_ki0 rfl ?_
        refine lk_b3 (fun r14 g16 M15 e13 => ?_)
        refine lk_csW (q := 926) (v := r14) (σ' := (g16, M15, A)) E (wP_act E.2.2.1 e13) gPs_241 hP_act ⟨rfl, rfl⟩ ⟨Nat.le_of_ble_eq_true rfl, Nat.le_of_ble_eq_true rfl⟩ ⟨Nat.le_of_ble_eq_true rfl, Nat.le_of_ble_eq_true rfl⟩ rfl rfl rfl (Nat.le_of_ble_eq_true rfl) dL_isRefused_923 rfl ?_
        refine rv_sipush (q := 929) E.x dL_isRefused_926 rv_ksm1261 rfl ?_
        refine rv_icmp_ne (q := 932) (tgt := 972) E.x dL_isRefused_929 (by decide) rfl ?_ ?_
        · refine rv_aload_n (q := 933) E.x dL_isRefused_932 rfl rfl ?_
          refine rv_iconst (q := 934) E.x dL_isRefused_933 rv_ki0 rfl ?_
          refine rv_iload (q := 936) E.x dL_isRefused_934 rfl rfl ?_
          refine rv_iconst (q := 937) E.x dL_isRefused_936 rv_ki0 rfl ?_
          refine rv_iconst (q := 938) E.x dL_isRefused_937 rv_ki0 rfl ?_
          refine rv_iconst (q := 939) E.x dL_isRefused_938 rv_ki0 rfl ?_
          refine rv_iconst (q := 940) E.x dL_isRefused_939 rv_ki0 rfl ?_
          refine lk_b3 (fun r18 g20 M19 e17 => ?_)
          refine lk_csW (q := 943) (v := r18) (σ' := (g20, M19, A)) E (wP_commented E.2.2.1 e17) gPs_246 hP_commented ⟨rfl, rfl⟩ ⟨Nat.le_of_ble_eq_true rfl, Nat.le_of_ble_eq_true rfl⟩ ⟨Nat.le_of_ble_eq_true rfl, Nat.le_of_ble_eq_true rfl⟩ rfl rfl rfl (Nat.le_of_ble_eq_true rfl) dL_isRefused_940 rfl ?_
          refine rv_sipush (q := 946) E.x dL_isRefused_943 rv_ksm1261 rfl ?_
          refine rv_icmp_ne (q := 949) (tgt := 972) E.x dL_isRefused_946 (by decide) rfl ?_ ?_
          · refine rv_aload_n (q := 950) E.x dL_isRefused_949 rfl rfl ?_
            refine rv_iload (q := 952) E.x dL_isRefused_950 rfl rfl ?_
            refine rv_iconst (q := 953) E.x dL_isRefused_952 rv_ki0 rfl ?_
            refine rv_iconst (q := 954) E.x dL_isRefused_953 rv_ki0 rfl ?_
            refine rv_iconst (q := 955) E.x dL_isRefused_954 rv_ki0 rfl ?_
            refine rv_iconst (q := 956) E.x dL_isRefused_955 rv_ki0 rfl ?_
            refine rv_sipush (q := 959) E.x dL_isRefused_956 rv_ks500 rfl ?_
            refine lk_b3 (fun r22 g24 M23 e21 => ?_)
            refine lk_csW (q := 962) (v := r22) (σ' := (g24, M23, A)) E (wP_found E.2.2.1 e21) gPs_249 hP_found ⟨rfl, rfl⟩ ⟨Nat.le_of_ble_eq_true rfl, Nat.le_of_ble_eq_true rfl⟩ ⟨Nat.le_of_ble_eq_true rfl, Nat.le_of_ble_eq_true rfl⟩ rfl rfl rfl (Nat.le_of_ble_eq_true rfl) dL_isRefused_959 rfl ?_
            refine rv_sipush (q := 965) E.x dL_isRefused_962 rv_ksm1261 rfl ?_
            refine rv_icmp_ne (q := 968) (tgt := 972) E.x dL_isRefused_965 (by decide) rfl ?_ ?_
            · refine rv_iconst (q := 969) E.x dL_isRefused_968 rv_ki1 rfl ?_
              refine rv_goto (q := 973) E.x dL_isRefused_969 (by decide) ?_
              refine rv_wk [true, false, false, true, true, true, true, false, true, true, true, false, false, false, false] ?_
              exact bp_isRefused_973 E A g24 M23 x3 x4 x5 x6 x8 x9 x10 true
            · refine rv_wk [true, false, false, true, true, true, true, false, true, true, true, false, false, false, false] ?_
              exact bp_isRefused_972 E A g24 M23 x3 x4 x5 x6 x8 x9 x10
          · refine rv_wk [true, false, false, true, true, true, true, false, true, true, true, false, false, false, false] ?_
            refine rv_wd 108 6780 (Nat.le_of_ble_eq_true rfl) (Nat.le_of_ble_eq_true rfl) ?_
            exact bp_isRefused_972 E A g20 M19 x3 x4 x5 x6 x8 x9 x10
        · refine rv_wk [true, false, false, true, true, true, true, false, true, true, true, false, false, false, false] ?_
          refine rv_wd 108 6780 (Nat.le_of_ble_eq_true rfl) (Nat.le_of_ble_eq_true rfl) ?_
          exact bp_isRefused_972 E A g16 M15 x3 x4 x5 x6 x8 x9 x10
      · refine rv_wk [true, false, false, true, true, true, true, false, true, true, true, false, false, false, false] ?_
        refine rv_wd 108 6780 (Nat.le_of_ble_eq_true rfl) (Nat.le_of_ble_eq_true rfl) ?_
        exact bp_isRefused_972 E A g12 M11 x3 x4 x5 x6 x8 x9 x10
    · refine rv_wk [true, false, false, true, true, true, true, false, true, true, true, false, false, false, false] ?_
      refine rv_wd 108 6780 (Nat.le_of_ble_eq_true rfl) (Nat.le_of_ble_eq_true rfl) ?_
      exact bp_isRefused_972 E A g8 M7 x3 x4 x5 x6 x8 x9 x10
  · refine rv_wk [true, false, false, true, true, true, true, false, true, true, true, false, false, false, false] ?_
    refine rv_wd 108 6780 (Nat.le_of_ble_eq_true rfl) (Nat.le_of_ble_eq_true rfl) ?_
    exact bp_isRefused_972 E A g4 M3 x3 x4 x5 x6 x8 x9 x10
set_option maxRecDepth 100000 in
theorem bp_isRefused_798 {p : Program} {l : Launch} {e : Env} {s : State} {m : MethodId} {args : Array Value} {below : List Frame} {meth : Method} {c : Code} {D : va_G} {cI cZ cO : ClassId} {mi de z0 o b L : Nat} {k : Nat → Nat} {xs : Nat → Int32} (E : lk_E D cI cZ cO mi de z0 b L k xs cL_isRefused 15 (some .boolean) p l s m args meth c) (A : rv_Mem)   : ∀ (gh : rC_gh) (M : rv_Mem) (x3 : Int32) (x4 : Bool) (x5 : Int32) (x6 : Int32) (x8 : Int32) (x9 : Int32) (x10 : Int64) (s3 : Int32), rv_M (lk_G D cI cZ cO de z0 o k) (fun q => z0 ≤ q) p l e rmp_isRefused s m args below meth c 81 5211 (lk_qWZ D cI cZ cO de z0 o k A below args s 511 24390) (gp_isRefused_798 A gh M x3 x4 x5 x6 x8 x9 x10 s3) 798 [some (.ref o), none, none, some (.int x3), some (.int (rv_i x4)), some (.int x5), some (.int x6), none, some (.int x8), some (.int x9), some (.long x10), none, none, none, none] [.int s3, .int 0, .int 19, .ref o] (gh, M, A) := by
  intro gh M x3 x4 x5 x6 x8 x9 x10 s3
  unfold gp_isRefused_798
  refine rv_iconst (q := 799) E.x dL_isRefused_798 rv_ki0 rfl ?_
  refine rv_iconst (q := 800) E.x dL_isRefused_799 rv_ki0 rfl ?_
  refine rv_iconst (q := 801) E.x dL_isRefused_800 rv_ki0 rfl ?_
  refine lk_b3 (fun r2 g4 M3 e1 => ?_)
  refine lk_csW (q := 804) (v := r2) (σ' := (g4, M3, A)) E (wP_act E.2.2.1 e1) gPs_241 hP_act ⟨rfl, rfl⟩ ⟨Nat.le_of_ble_eq_true rfl, Nat.le_of_ble_eq_true rfl⟩ ⟨Nat.le_of_ble_eq_true rfl, Nat.le_of_ble_eq_true rfl⟩ rfl rfl rfl (Nat.le_of_ble_eq_true rfl) dL_isRefused_801 rfl ?_
  refine rv_sipush (q := 807) E.x dL_isRefused_804 rv_ksm1262 rfl ?_
  refine rv_icmp_ne (q := 810) (tgt := 972) E.x dL_isRefused_807 (by decide) rfl ?_ ?_
  · refine rv_aload_n (q := 811) E.x dL_isRefused_810 rfl rfl ?_
    refine rv_bipush (q := 813) E.x dL_isRefused_811 rv_kb20 rfl ?_
    refine rv_iload (q := 815) E.x dL_isRefused_813 rfl rfl ?_
    refine rv_iconst (q := 816) E.x dL_isRefused_815 rv_ki0 rfl ?_
    refine rv_iconst (q := 817) E.x dL_isRefused_816 rv_ki0 rfl ?_
    refine rv_iconst (q := 818) E.x dL_isRefused_817 rv_ki0 rfl ?_
    refine rv_iconst (q := 819) E.x dL_isRefused_818 rv_ki0 rfl ?_
    refine lk_b3 (fun r6 g8 M7 e5 => ?_)
    refine lk_csW (q := 822) (v := r6) (σ' := (g8, M7, A)) E (wP_act E.2.2.1 e5) gPs_241 hP_act ⟨rfl, rfl⟩ ⟨Nat.le_of_ble_eq_true rfl, Nat.le_of_ble_eq_true rfl⟩ ⟨Nat.le_of_ble_eq_true rfl, Nat.le_of_ble_eq_true rfl⟩ rfl rfl rfl (Nat.le_of_ble_eq_true rfl) dL_isRefused_819 rfl ?_
    refine rv_sipush (q := 825) E.x dL_isRefused_822 rv_ksm1261 rfl ?_
    refine rv_icmp_ne (q := 828) (tgt := 972) E.x dL_isRefused_825 (by decide) rfl ?_ ?_
    · refine rv_aload_n (q := 829) E.x dL_isRefused_828 rfl rfl ?_
      refine rv_bipush (q := 831) E.x dL_isRefused_829 rv_kb21 rfl ?_
      refine rv_iconst (q := 832) E.x dL_isRefused_831 rv_ki0 rfl ?_
      refine rv_iload (q := 834) E.x dL_isRefused_832 rfl rfl ?_
      refine rv_iconst (q := 835) E.x dL_isRefused_834 rv_ki0 rfl ?_
      refine rv_iconst (q := 836) E.x dL_isRefused_835 rv_ki0 rfl ?_
      refine rv_iconst (q := 837) E.x dL_isRefused_836 rv_ki0 rfl ?_
      refine lk_b3 (fun r10 g12 M11 e9 => ?_)
      refine lk_csW (q := 840) (v := r10) (σ' := (g12, M11, A)) E (wP_act E.2.2.1 e9) gPs_241 hP_act ⟨rfl, rfl⟩ ⟨Nat.le_of_ble_eq_true rfl, Nat.le_of_ble_eq_true rfl⟩ ⟨Nat.le_of_ble_eq_true rfl, Nat.le_of_ble_eq_true rfl⟩ rfl rfl rfl (Nat.le_of_ble_eq_true rfl) dL_isRefused_837 rfl ?_
      refine rv_sipush (q := 843) E.x dL_isRefused_840 rv_ksm1261 rfl ?_
      refine rv_icmp_ne (q := 846) (tgt := 972) E.x dL_isRefused_843 (by decide) rfl ?_ ?_
      · refine rv_aload_n (q := 847) E.x dL_isRefused_846 rfl rfl ?_
        refine rv_bipush (q := 849) E.x dL_isRefused_847 rv_kb22 rfl ?_
        refine rv_iload (q := 851) E.x dL_isRefused_849 rfl rfl ?_
        refine rv_ifz_eq (q := 854) (tgt := 863) E.x dL_isRefused_851 (by decide) rfl ?_ ?_
        · refine rv_iconst (q := 855) E.x dL_isRefused_854 rv_ki0 rfl ?_
          refine rv_iload_n (q := 856) E.x dL_isRefused_855 rfl rfl ?_
          refine rv_bipush (q := 858) E.x dL_isRefused_856 rv_kb30 rfl ?_
          refine rv_irem (q := 859) E.x dL_isRefused_858 (by decide) rfl ?_
          refine rv_isub (q := 860) E.x dL_isRefused_859 rfl ?_
          refine rv_goto (q := 865) E.x dL_isRefused_860 (by decide) ?_
          refine rv_wk [true, false, false, true, true, true, true, false, true, true, true, false, false, false, false] ?_
          exact bp_isRefused_865 E A g12 M11 x3 x4 x5 x6 x8 x9 x10 (0 - (x3 - x3 / 30 * 30))
        · refine rv_bipush (q := 865) E.x dL_isRefused_863 rv_kb101 rfl ?_
          refine rv_wk [true, false, false, true, true, true, true, false, true, true, true, false, false, false, false] ?_
          exact bp_isRefused_865 E A g12 M11 x3 x4 x5 x6 x8 x9 x10 101
      · refine rv_wk [true, false, false, true, true, true, true, false, true, true, true, false, false, false, false] ?_
        refine rv_wd 108 6780 (Nat.le_of_ble_eq_true rfl) (Nat.le_of_ble_eq_true rfl) ?_
        exact bp_isRefused_972 E A g12 M11 x3 x4 x5 x6 x8 x9 x10
    · refine rv_wk [true, false, false, true, true, true, true, false, true, true, true, false, false, false, false] ?_
      refine rv_wd 108 6780 (Nat.le_of_ble_eq_true rfl) (Nat.le_of_ble_eq_true rfl) ?_
      exact bp_isRefused_972 E A g8 M7 x3 x4 x5 x6 x8 x9 x10
  · refine rv_wk [true, false, false, true, true, true, true, false, true, true, true, false, false, false, false] ?_
    refine rv_wd 108 6780 (Nat.le_of_ble_eq_true rfl) (Nat.le_of_ble_eq_true rfl) ?_
    exact bp_isRefused_972 E A g4 M3 x3 x4 x5 x6 x8 x9 x10
set_option maxRecDepth 100000 in
theorem bp_isRefused_752 {p : Program} {l : Launch} {e : Env} {s : State} {m : MethodId} {args : Array Value} {below : List Frame} {meth : Method} {c : Code} {D : va_G} {cI cZ cO : ClassId} {mi de z0 o b L : Nat} {k : Nat → Nat} {xs : Nat → Int32} (E : lk_E D cI cZ cO mi de z0 b L k xs cL_isRefused 15 (some .boolean) p l s m args meth c) (A : rv_Mem)   : ∀ (gh : rC_gh) (M : rv_Mem) (x3 : Int32) (x4 : Bool) (x5 : Int32) (x6 : Int32) (x8 : Int32) (x9 : Int32) (x10 : Int64) (s2 : Int32), rv_M (lk_G D cI cZ cO de z0 o k) (fun q => z0 ≤ q) p l e rmp_isRefused s m args below meth c 75 4825 (lk_qWZ D cI cZ cO de z0 o k A below args s 511 24390) (gp_isRefused_752 A gh M x3 x4 x5 x6 x8 x9 x10 s2) 752 [some (.ref o), none, none, some (.int x3), some (.int (rv_i x4)), some (.int x5), some (.int x6), none, some (.int x8), some (.int x9), some (.long x10), none, none, none, none] [.int s2, .int 18, .ref o] (gh, M, A) := by
  intro gh M x3 x4 x5 x6 x8 x9 x10 s2
  unfold gp_isRefused_752
  refine rv_iconst (q := 753) E.x dL_isRefused_752 rv_ki0 rfl ?_
  refine rv_iconst (q := 754) E.x dL_isRefused_753 rv_ki0 rfl ?_
  refine rv_iconst (q := 755) E.x dL_isRefused_754 rv_ki0 rfl ?_
  refine rv_iconst (q := 756) E.x dL_isRefused_755 rv_ki0 rfl ?_
  refine lk_b3 (fun r2 g4 M3 e1 => ?_)
  refine lk_csW (q := 759) (v := r2) (σ' := (g4, M3, A)) E (wP_act E.2.2.1 e1) gPs_241 hP_act ⟨rfl, rfl⟩ ⟨Nat.le_of_ble_eq_true rfl, Nat.le_of_ble_eq_true rfl⟩ ⟨Nat.le_of_ble_eq_true rfl, Nat.le_of_ble_eq_true rfl⟩ rfl rfl rfl (Nat.le_of_ble_eq_true rfl) dL_isRefused_756 rfl ?_
  refine rv_sipush (q := 762) E.x dL_isRefused_759 rv_ksm1261 rfl ?_
  refine rv_icmp_ne (q := 765) (tgt := 972) E.x dL_isRefused_762 (by decide) rfl ?_ ?_
  · refine rv_aload_n (q := 766) E.x dL_isRefused_765 rfl rfl ?_
    refine rv_bipush (q := 768) E.x dL_isRefused_766 rv_kb19 rfl ?_
    refine rv_iload (q := 770) E.x dL_isRefused_768 rfl rfl ?_
    refine rv_bipush (q := 772) E.x dL_isRefused_770 rv_kb9 rfl ?_
    refine rv_iconst (q := 773) E.x dL_isRefused_772 rv_ki0 rfl ?_
    refine rv_iconst (q := 774) E.x dL_isRefused_773 rv_ki0 rfl ?_
    refine rv_iconst (q := 775) E.x dL_isRefused_774 rv_ki0 rfl ?_
    refine lk_b3 (fun r6 g8 M7 e5 => ?_)
    refine lk_csW (q := 778) (v := r6) (σ' := (g8, M7, A)) E (wP_act E.2.2.1 e5) gPs_241 hP_act ⟨rfl, rfl⟩ ⟨Nat.le_of_ble_eq_true rfl, Nat.le_of_ble_eq_true rfl⟩ ⟨Nat.le_of_ble_eq_true rfl, Nat.le_of_ble_eq_true rfl⟩ rfl rfl rfl (Nat.le_of_ble_eq_true rfl) dL_isRefused_775 rfl ?_
    refine rv_sipush (q := 781) E.x dL_isRefused_778 rv_ksm1261 rfl ?_
    refine rv_icmp_ne (q := 784) (tgt := 972) E.x dL_isRefused_781 (by decide) rfl ?_ ?_
    · refine rv_aload_n (q := 785) E.x dL_isRefused_784 rfl rfl ?_
      refine rv_bipush (q := 787) E.x dL_isRefused_785 rv_kb19 rfl ?_
      refine rv_iconst (q := 788) E.x dL_isRefused_787 rv_ki0 rfl ?_
      refine rv_iload (q := 790) E.x dL_isRefused_788 rfl rfl ?_
      refine rv_ifz_eq (q := 793) (tgt := 797) E.x dL_isRefused_790 (by decide) rfl ?_ ?_
      · refine rv_iconst (q := 794) E.x dL_isRefused_793 rv_kim1 rfl ?_
        refine rv_goto (q := 798) E.x dL_isRefused_794 (by decide) ?_
        refine rv_wk [true, false, false, true, true, true, true, false, true, true, true, false, false, false, false] ?_
        exact bp_isRefused_798 E A g8 M7 x3 x4 x5 x6 x8 x9 x10 (-1)
      · refine rv_iconst (q := 798) E.x dL_isRefused_797 rv_ki3 rfl ?_
        refine rv_wk [true, false, false, true, true, true, true, false, true, true, true, false, false, false, false] ?_
        exact bp_isRefused_798 E A g8 M7 x3 x4 x5 x6 x8 x9 x10 3
    · refine rv_wk [true, false, false, true, true, true, true, false, true, true, true, false, false, false, false] ?_
      refine rv_wd 108 6780 (Nat.le_of_ble_eq_true rfl) (Nat.le_of_ble_eq_true rfl) ?_
      exact bp_isRefused_972 E A g8 M7 x3 x4 x5 x6 x8 x9 x10
  · refine rv_wk [true, false, false, true, true, true, true, false, true, true, true, false, false, false, false] ?_
    refine rv_wd 108 6780 (Nat.le_of_ble_eq_true rfl) (Nat.le_of_ble_eq_true rfl) ?_
    exact bp_isRefused_972 E A g4 M3 x3 x4 x5 x6 x8 x9 x10
set_option maxRecDepth 100000 in
theorem bp_isRefused_698 {p : Program} {l : Launch} {e : Env} {s : State} {m : MethodId} {args : Array Value} {below : List Frame} {meth : Method} {c : Code} {D : va_G} {cI cZ cO : ClassId} {mi de z0 o b L : Nat} {k : Nat → Nat} {xs : Nat → Int32} (E : lk_E D cI cZ cO mi de z0 b L k xs cL_isRefused 15 (some .boolean) p l s m args meth c) (A : rv_Mem)   : ∀ (gh : rC_gh) (M : rv_Mem) (x3 : Int32) (x4 : Bool) (x5 : Int32) (x6 : Int32) (x8 : Int32) (x9 : Int32) (x10 : Int64) (s4 : Int32), rv_M (lk_G D cI cZ cO de z0 o k) (fun q => z0 ≤ q) p l e rmp_isRefused s m args below meth c 69 4439 (lk_qWZ D cI cZ cO de z0 o k A below args s 511 24390) (gp_isRefused_698 A gh M x3 x4 x5 x6 x8 x9 x10 s4) 698 [some (.ref o), none, none, some (.int x3), some (.int (rv_i x4)), some (.int x5), some (.int x6), none, some (.int x8), some (.int x9), some (.long x10), none, none, none, none] [.int s4, .int 0, .int 9, .int 17, .ref o] (gh, M, A) := by
  intro gh M x3 x4 x5 x6 x8 x9 x10 s4
  unfold gp_isRefused_698
  refine rv_iconst (q := 699) E.x dL_isRefused_698 rv_ki0 rfl ?_
  refine rv_iconst (q := 700) E.x dL_isRefused_699 rv_ki0 rfl ?_
  refine lk_b3 (fun r2 g4 M3 e1 => ?_)
  refine lk_csW (q := 703) (v := r2) (σ' := (g4, M3, A)) E (wP_act E.2.2.1 e1) gPs_241 hP_act ⟨rfl, rfl⟩ ⟨Nat.le_of_ble_eq_true rfl, Nat.le_of_ble_eq_true rfl⟩ ⟨Nat.le_of_ble_eq_true rfl, Nat.le_of_ble_eq_true rfl⟩ rfl rfl rfl (Nat.le_of_ble_eq_true rfl) dL_isRefused_700 rfl ?_
  refine rv_sipush (q := 706) E.x dL_isRefused_703 rv_ksm1262 rfl ?_
  refine rv_icmp_ne (q := 709) (tgt := 972) E.x dL_isRefused_706 (by decide) rfl ?_ ?_
  · refine rv_aload_n (q := 710) E.x dL_isRefused_709 rfl rfl ?_
    refine rv_bipush (q := 712) E.x dL_isRefused_710 rv_kb17 rfl ?_
    refine rv_bipush (q := 714) E.x dL_isRefused_712 rv_kb9 rfl ?_
    refine rv_iconst (q := 715) E.x dL_isRefused_714 rv_ki0 rfl ?_
    refine rv_sipush (q := 718) E.x dL_isRefused_715 rv_ks512 rfl ?_
    refine rv_iconst (q := 719) E.x dL_isRefused_718 rv_ki0 rfl ?_
    refine rv_iconst (q := 720) E.x dL_isRefused_719 rv_ki0 rfl ?_
    refine lk_b3 (fun r6 g8 M7 e5 => ?_)
    refine lk_csW (q := 723) (v := r6) (σ' := (g8, M7, A)) E (wP_act E.2.2.1 e5) gPs_241 hP_act ⟨rfl, rfl⟩ ⟨Nat.le_of_ble_eq_true rfl, Nat.le_of_ble_eq_true rfl⟩ ⟨Nat.le_of_ble_eq_true rfl, Nat.le_of_ble_eq_true rfl⟩ rfl rfl rfl (Nat.le_of_ble_eq_true rfl) dL_isRefused_720 rfl ?_
    refine rv_sipush (q := 726) E.x dL_isRefused_723 rv_ksm1263 rfl ?_
    refine rv_icmp_ne (q := 729) (tgt := 972) E.x dL_isRefused_726 (by decide) rfl ?_ ?_
    · refine rv_aload_n (q := 730) E.x dL_isRefused_729 rfl rfl ?_
      refine rv_bipush (q := 732) E.x dL_isRefused_730 rv_kb18 rfl ?_
      refine rv_iload (q := 734) E.x dL_isRefused_732 rfl rfl ?_
      refine rv_ifz_eq (q := 737) (tgt := 746) E.x dL_isRefused_734 (by decide) rfl ?_ ?_
      · refine rv_iconst (q := 738) E.x dL_isRefused_737 rv_kim1 rfl ?_
        refine rv_iload_n (q := 739) E.x dL_isRefused_738 rfl rfl ?_
        refine rv_bipush (q := 741) E.x dL_isRefused_739 rv_kb30 rfl ?_
        refine rv_irem (q := 742) E.x dL_isRefused_741 (by decide) rfl ?_
        refine rv_isub (q := 743) E.x dL_isRefused_742 rfl ?_
        refine rv_goto (q := 752) E.x dL_isRefused_743 (by decide) ?_
        refine rv_wk [true, false, false, true, true, true, true, false, true, true, true, false, false, false, false] ?_
        exact bp_isRefused_752 E A g8 M7 x3 x4 x5 x6 x8 x9 x10 ((-1) - (x3 - x3 / 30 * 30))
      · refine rv_iconst (q := 747) E.x dL_isRefused_746 rv_ki1 rfl ?_
        refine rv_iload_n (q := 748) E.x dL_isRefused_747 rfl rfl ?_
        refine rv_bipush (q := 750) E.x dL_isRefused_748 rv_kb30 rfl ?_
        refine rv_irem (q := 751) E.x dL_isRefused_750 (by decide) rfl ?_
        refine rv_iadd (q := 752) E.x dL_isRefused_751 rfl ?_
        refine rv_wk [true, false, false, true, true, true, true, false, true, true, true, false, false, false, false] ?_
        exact bp_isRefused_752 E A g8 M7 x3 x4 x5 x6 x8 x9 x10 (1 + (x3 - x3 / 30 * 30))
    · refine rv_wk [true, false, false, true, true, true, true, false, true, true, true, false, false, false, false] ?_
      refine rv_wd 108 6780 (Nat.le_of_ble_eq_true rfl) (Nat.le_of_ble_eq_true rfl) ?_
      exact bp_isRefused_972 E A g8 M7 x3 x4 x5 x6 x8 x9 x10
  · refine rv_wk [true, false, false, true, true, true, true, false, true, true, true, false, false, false, false] ?_
    refine rv_wd 108 6780 (Nat.le_of_ble_eq_true rfl) (Nat.le_of_ble_eq_true rfl) ?_
    exact bp_isRefused_972 E A g4 M3 x3 x4 x5 x6 x8 x9 x10
set_option maxRecDepth 100000 in
theorem bp_isRefused_664 {p : Program} {l : Launch} {e : Env} {s : State} {m : MethodId} {args : Array Value} {below : List Frame} {meth : Method} {c : Code} {D : va_G} {cI cZ cO : ClassId} {mi de z0 o b L : Nat} {k : Nat → Nat} {xs : Nat → Int32} (E : lk_E D cI cZ cO mi de z0 b L k xs cL_isRefused 15 (some .boolean) p l s m args meth c) (A : rv_Mem)   : ∀ (gh : rC_gh) (M : rv_Mem) (x3 : Int32) (x4 : Bool) (x5 : Int32) (x6 : Int32) (x8 : Int32) (x9 : Int32) (x10 : Int64) (s3 : Int32), rv_M (lk_G D cI cZ cO de z0 o k) (fun q => z0 ≤ q) p l e rmp_isRefused s m args below meth c 66 4246 (lk_qWZ D cI cZ cO de z0 o k A below args s 511 24390) (gp_isRefused_664 A gh M x3 x4 x5 x6 x8 x9 x10 s3) 664 [some (.ref o), none, none, some (.int x3), some (.int (rv_i x4)), some (.int x5), some (.int x6), none, some (.int x8), some (.int x9), some (.long x10), none, none, none, none] [.int s3, .int 9, .int 17, .ref o] (gh, M, A) := by
  intro gh M x3 x4 x5 x6 x8 x9 x10 s3
  unfold gp_isRefused_664
  refine rv_iconst (q := 665) E.x dL_isRefused_664 rv_ki0 rfl ?_
  refine rv_iconst (q := 666) E.x dL_isRefused_665 rv_ki0 rfl ?_
  refine rv_iconst (q := 667) E.x dL_isRefused_666 rv_ki0 rfl ?_
  refine lk_b3 (fun r2 g4 M3 e1 => ?_)
  refine lk_csW (q := 670) (v := r2) (σ' := (g4, M3, A)) E (wP_act E.2.2.1 e1) gPs_241 hP_act ⟨rfl, rfl⟩ ⟨Nat.le_of_ble_eq_true rfl, Nat.le_of_ble_eq_true rfl⟩ ⟨Nat.le_of_ble_eq_true rfl, Nat.le_of_ble_eq_true rfl⟩ rfl rfl rfl (Nat.le_of_ble_eq_true rfl) dL_isRefused_667 rfl ?_
  refine rv_sipush (q := 673) E.x dL_isRefused_670 rv_ksm1262 rfl ?_
  refine rv_icmp_ne (q := 676) (tgt := 972) E.x dL_isRefused_673 (by decide) rfl ?_ ?_
  · refine rv_aload_n (q := 677) E.x dL_isRefused_676 rfl rfl ?_
    refine rv_bipush (q := 679) E.x dL_isRefused_677 rv_kb17 rfl ?_
    refine rv_bipush (q := 681) E.x dL_isRefused_679 rv_kb9 rfl ?_
    refine rv_iconst (q := 682) E.x dL_isRefused_681 rv_ki0 rfl ?_
    refine rv_iload (q := 684) E.x dL_isRefused_682 rfl rfl ?_
    refine rv_ifz_eq (q := 687) (tgt := 696) E.x dL_isRefused_684 (by decide) rfl ?_ ?_
    · refine rv_iconst (q := 688) E.x dL_isRefused_687 rv_kim1 rfl ?_
      refine rv_iload_n (q := 689) E.x dL_isRefused_688 rfl rfl ?_
      refine rv_bipush (q := 691) E.x dL_isRefused_689 rv_kb30 rfl ?_
      refine rv_irem (q := 692) E.x dL_isRefused_691 (by decide) rfl ?_
      refine rv_isub (q := 693) E.x dL_isRefused_692 rfl ?_
      refine rv_goto (q := 698) E.x dL_isRefused_693 (by decide) ?_
      refine rv_wk [true, false, false, true, true, true, true, false, true, true, true, false, false, false, false] ?_
      exact bp_isRefused_698 E A g4 M3 x3 x4 x5 x6 x8 x9 x10 ((-1) - (x3 - x3 / 30 * 30))
    · refine lk_ldc (q := 698) E wkL_245 dL_isRefused_696 rfl ?_
      refine rv_wk [true, false, false, true, true, true, true, false, true, true, true, false, false, false, false] ?_
      exact bp_isRefused_698 E A g4 M3 x3 x4 x5 x6 x8 x9 x10 65536
  · refine rv_wk [true, false, false, true, true, true, true, false, true, true, true, false, false, false, false] ?_
    refine rv_wd 108 6780 (Nat.le_of_ble_eq_true rfl) (Nat.le_of_ble_eq_true rfl) ?_
    exact bp_isRefused_972 E A g4 M3 x3 x4 x5 x6 x8 x9 x10
set_option maxRecDepth 100000 in
theorem bp_isRefused_630 {p : Program} {l : Launch} {e : Env} {s : State} {m : MethodId} {args : Array Value} {below : List Frame} {meth : Method} {c : Code} {D : va_G} {cI cZ cO : ClassId} {mi de z0 o b L : Nat} {k : Nat → Nat} {xs : Nat → Int32} (E : lk_E D cI cZ cO mi de z0 b L k xs cL_isRefused 15 (some .boolean) p l s m args meth c) (A : rv_Mem)   : ∀ (gh : rC_gh) (M : rv_Mem) (x3 : Int32) (x4 : Bool) (x5 : Int32) (x6 : Int32) (x8 : Int32) (x9 : Int32) (x10 : Int64) (s2 : Int32), rv_M (lk_G D cI cZ cO de z0 o k) (fun q => z0 ≤ q) p l e rmp_isRefused s m args below meth c 63 4053 (lk_qWZ D cI cZ cO de z0 o k A below args s 511 24390) (gp_isRefused_630 A gh M x3 x4 x5 x6 x8 x9 x10 s2) 630 [some (.ref o), none, none, some (.int x3), some (.int (rv_i x4)), some (.int x5), some (.int x6), none, some (.int x8), some (.int x9), some (.long x10), none, none, none, none] [.int s2, .int 17, .ref o] (gh, M, A) := by
  intro gh M x3 x4 x5 x6 x8 x9 x10 s2
  unfold gp_isRefused_630
  refine rv_iconst (q := 631) E.x dL_isRefused_630 rv_ki0 rfl ?_
  refine rv_iconst (q := 632) E.x dL_isRefused_631 rv_ki0 rfl ?_
  refine rv_iconst (q := 633) E.x dL_isRefused_632 rv_ki0 rfl ?_
  refine rv_iconst (q := 634) E.x dL_isRefused_633 rv_ki0 rfl ?_
  refine lk_b3 (fun r2 g4 M3 e1 => ?_)
  refine lk_csW (q := 637) (v := r2) (σ' := (g4, M3, A)) E (wP_act E.2.2.1 e1) gPs_241 hP_act ⟨rfl, rfl⟩ ⟨Nat.le_of_ble_eq_true rfl, Nat.le_of_ble_eq_true rfl⟩ ⟨Nat.le_of_ble_eq_true rfl, Nat.le_of_ble_eq_true rfl⟩ rfl rfl rfl (Nat.le_of_ble_eq_true rfl) dL_isRefused_634 rfl ?_
  refine rv_sipush (q := 640) E.x dL_isRefused_637 rv_ksm1262 rfl ?_
  refine rv_icmp_ne (q := 643) (tgt := 972) E.x dL_isRefused_640 (by decide) rfl ?_ ?_
  · refine rv_aload_n (q := 644) E.x dL_isRefused_643 rfl rfl ?_
    refine rv_bipush (q := 646) E.x dL_isRefused_644 rv_kb17 rfl ?_
    refine rv_bipush (q := 648) E.x dL_isRefused_646 rv_kb9 rfl ?_
    refine rv_iload (q := 650) E.x dL_isRefused_648 rfl rfl ?_
    refine rv_ifz_eq (q := 653) (tgt := 662) E.x dL_isRefused_650 (by decide) rfl ?_ ?_
    · refine rv_iconst (q := 654) E.x dL_isRefused_653 rv_kim1 rfl ?_
      refine rv_iload_n (q := 655) E.x dL_isRefused_654 rfl rfl ?_
      refine rv_bipush (q := 657) E.x dL_isRefused_655 rv_kb30 rfl ?_
      refine rv_irem (q := 658) E.x dL_isRefused_657 (by decide) rfl ?_
      refine rv_isub (q := 659) E.x dL_isRefused_658 rfl ?_
      refine rv_goto (q := 664) E.x dL_isRefused_659 (by decide) ?_
      refine rv_wk [true, false, false, true, true, true, true, false, true, true, true, false, false, false, false] ?_
      exact bp_isRefused_664 E A g4 M3 x3 x4 x5 x6 x8 x9 x10 ((-1) - (x3 - x3 / 30 * 30))
    · refine lk_ldc (q := 664) E wkL_245 dL_isRefused_662 rfl ?_
      refine rv_wk [true, false, false, true, true, true, true, false, true, true, true, false, false, false, false] ?_
      exact bp_isRefused_664 E A g4 M3 x3 x4 x5 x6 x8 x9 x10 65536
  · refine rv_wk [true, false, false, true, true, true, true, false, true, true, true, false, false, false, false] ?_
    refine rv_wd 108 6780 (Nat.le_of_ble_eq_true rfl) (Nat.le_of_ble_eq_true rfl) ?_
    exact bp_isRefused_972 E A g4 M3 x3 x4 x5 x6 x8 x9 x10
set_option maxRecDepth 100000 in
theorem bp_isRefused_599 {p : Program} {l : Launch} {e : Env} {s : State} {m : MethodId} {args : Array Value} {below : List Frame} {meth : Method} {c : Code} {D : va_G} {cI cZ cO : ClassId} {mi de z0 o b L : Nat} {k : Nat → Nat} {xs : Nat → Int32} (E : lk_E D cI cZ cO mi de z0 b L k xs cL_isRefused 15 (some .boolean) p l s m args meth c) (A : rv_Mem)   : ∀ (gh : rC_gh) (M : rv_Mem) (x3 : Int32) (x4 : Bool) (x5 : Int32) (x6 : Int32) (x8 : Int32) (x9 : Int32) (x10 : Int64) (s4 : Int32), rv_M (lk_G D cI cZ cO de z0 o k) (fun q => z0 ≤ q) p l e rmp_isRefused s m args below meth c 60 3860 (lk_qWZ D cI cZ cO de z0 o k A below args s 511 24390) (gp_isRefused_599 A gh M x3 x4 x5 x6 x8 x9 x10 s4) 599 [some (.ref o), none, none, some (.int x3), some (.int (rv_i x4)), some (.int x5), some (.int x6), none, some (.int x8), some (.int x9), some (.long x10), none, none, none, none] [.int s4, .int 0, .int 0, .int 16, .ref o] (gh, M, A) := by
  intro gh M x3 x4 x5 x6 x8 x9 x10 s4
  unfold gp_isRefused_599
  refine rv_iconst (q := 600) E.x dL_isRefused_599 rv_ki0 rfl ?_
  refine rv_iconst (q := 601) E.x dL_isRefused_600 rv_ki0 rfl ?_
  refine lk_b3 (fun r2 g4 M3 e1 => ?_)
  refine lk_csW (q := 604) (v := r2) (σ' := (g4, M3, A)) E (wP_act E.2.2.1 e1) gPs_241 hP_act ⟨rfl, rfl⟩ ⟨Nat.le_of_ble_eq_true rfl, Nat.le_of_ble_eq_true rfl⟩ ⟨Nat.le_of_ble_eq_true rfl, Nat.le_of_ble_eq_true rfl⟩ rfl rfl rfl (Nat.le_of_ble_eq_true rfl) dL_isRefused_601 rfl ?_
  refine rv_sipush (q := 607) E.x dL_isRefused_604 rv_ksm1262 rfl ?_
  refine rv_icmp_ne (q := 610) (tgt := 972) E.x dL_isRefused_607 (by decide) rfl ?_ ?_
  · refine rv_aload_n (q := 611) E.x dL_isRefused_610 rfl rfl ?_
    refine rv_bipush (q := 613) E.x dL_isRefused_611 rv_kb17 rfl ?_
    refine rv_iload (q := 615) E.x dL_isRefused_613 rfl rfl ?_
    refine rv_ifz_eq (q := 618) (tgt := 628) E.x dL_isRefused_615 (by decide) rfl ?_ ?_
    · refine rv_bipush (q := 620) E.x dL_isRefused_618 rv_kb7 rfl ?_
      refine rv_iload_n (q := 621) E.x dL_isRefused_620 rfl rfl ?_
      refine rv_bipush (q := 623) E.x dL_isRefused_621 rv_kb30 rfl ?_
      refine rv_irem (q := 624) E.x dL_isRefused_623 (by decide) rfl ?_
      refine rv_isub (q := 625) E.x dL_isRefused_624 rfl ?_
      refine rv_goto (q := 630) E.x dL_isRefused_625 (by decide) ?_
      refine rv_wk [true, false, false, true, true, true, true, false, true, true, true, false, false, false, false] ?_
      exact bp_isRefused_630 E A g4 M3 x3 x4 x5 x6 x8 x9 x10 (7 - (x3 - x3 / 30 * 30))
    · refine rv_bipush (q := 630) E.x dL_isRefused_628 rv_kb16 rfl ?_
      refine rv_wk [true, false, false, true, true, true, true, false, true, true, true, false, false, false, false] ?_
      exact bp_isRefused_630 E A g4 M3 x3 x4 x5 x6 x8 x9 x10 16
  · refine rv_wk [true, false, false, true, true, true, true, false, true, true, true, false, false, false, false] ?_
    refine rv_wd 108 6780 (Nat.le_of_ble_eq_true rfl) (Nat.le_of_ble_eq_true rfl) ?_
    exact bp_isRefused_972 E A g4 M3 x3 x4 x5 x6 x8 x9 x10
set_option maxRecDepth 100000 in
theorem bp_isRefused_554 {p : Program} {l : Launch} {e : Env} {s : State} {m : MethodId} {args : Array Value} {below : List Frame} {meth : Method} {c : Code} {D : va_G} {cI cZ cO : ClassId} {mi de z0 o b L : Nat} {k : Nat → Nat} {xs : Nat → Int32} (E : lk_E D cI cZ cO mi de z0 b L k xs cL_isRefused 15 (some .boolean) p l s m args meth c) (A : rv_Mem)   : ∀ (gh : rC_gh) (M : rv_Mem) (x3 : Int32) (x4 : Bool) (x5 : Int32) (x6 : Int32) (x8 : Int32) (x9 : Int32) (x10 : Int64) (s4 : Int32), rv_M (lk_G D cI cZ cO de z0 o k) (fun q => z0 ≤ q) p l e rmp_isRefused s m args below meth c 54 3474 (lk_qWZ D cI cZ cO de z0 o k A below args s 511 24390) (gp_isRefused_554 A gh M x3 x4 x5 x6 x8 x9 x10 s4) 554 [some (.ref o), none, none, some (.int x3), some (.int (rv_i x4)), some (.int x5), some (.int x6), none, some (.int x8), some (.int x9), some (.long x10), none, none, none, none] [.int s4, .int 0, .int 0, .int 14, .ref o] (gh, M, A) := by
  intro gh M x3 x4 x5 x6 x8 x9 x10 s4
  unfold gp_isRefused_554
  refine rv_iconst (q := 555) E.x dL_isRefused_554 rv_ki0 rfl ?_
  refine rv_iconst (q := 556) E.x dL_isRefused_555 rv_ki0 rfl ?_
  refine lk_b3 (fun r2 g4 M3 e1 => ?_)
  refine lk_csW (q := 559) (v := r2) (σ' := (g4, M3, A)) E (wP_act E.2.2.1 e1) gPs_241 hP_act ⟨rfl, rfl⟩ ⟨Nat.le_of_ble_eq_true rfl, Nat.le_of_ble_eq_true rfl⟩ ⟨Nat.le_of_ble_eq_true rfl, Nat.le_of_ble_eq_true rfl⟩ rfl rfl rfl (Nat.le_of_ble_eq_true rfl) dL_isRefused_556 rfl ?_
  refine rv_sipush (q := 562) E.x dL_isRefused_559 rv_ksm1262 rfl ?_
  refine rv_icmp_ne (q := 565) (tgt := 972) E.x dL_isRefused_562 (by decide) rfl ?_ ?_
  · refine rv_aload_n (q := 566) E.x dL_isRefused_565 rfl rfl ?_
    refine rv_bipush (q := 568) E.x dL_isRefused_566 rv_kb16 rfl ?_
    refine rv_iload (q := 570) E.x dL_isRefused_568 rfl rfl ?_
    refine rv_iconst (q := 571) E.x dL_isRefused_570 rv_ki0 rfl ?_
    refine rv_iconst (q := 572) E.x dL_isRefused_571 rv_ki0 rfl ?_
    refine rv_iconst (q := 573) E.x dL_isRefused_572 rv_ki0 rfl ?_
    refine rv_iconst (q := 574) E.x dL_isRefused_573 rv_ki0 rfl ?_
    refine lk_b3 (fun r6 g8 M7 e5 => ?_)
    refine lk_csW (q := 577) (v := r6) (σ' := (g8, M7, A)) E (wP_act E.2.2.1 e5) gPs_241 hP_act ⟨rfl, rfl⟩ ⟨Nat.le_of_ble_eq_true rfl, Nat.le_of_ble_eq_true rfl⟩ ⟨Nat.le_of_ble_eq_true rfl, Nat.le_of_ble_eq_true rfl⟩ rfl rfl rfl (Nat.le_of_ble_eq_true rfl) dL_isRefused_574 rfl ?_
    refine rv_sipush (q := 580) E.x dL_isRefused_577 rv_ksm1262 rfl ?_
    refine rv_icmp_ne (q := 583) (tgt := 972) E.x dL_isRefused_580 (by decide) rfl ?_ ?_
    · refine rv_aload_n (q := 584) E.x dL_isRefused_583 rfl rfl ?_
      refine rv_bipush (q := 586) E.x dL_isRefused_584 rv_kb16 rfl ?_
      refine rv_iconst (q := 587) E.x dL_isRefused_586 rv_ki0 rfl ?_
      refine rv_iconst (q := 588) E.x dL_isRefused_587 rv_ki0 rfl ?_
      refine rv_iload (q := 590) E.x dL_isRefused_588 rfl rfl ?_
      refine rv_ifz_eq (q := 593) (tgt := 597) E.x dL_isRefused_590 (by decide) rfl ?_ ?_
      · refine rv_iconst (q := 594) E.x dL_isRefused_593 rv_kim1 rfl ?_
        refine rv_goto (q := 599) E.x dL_isRefused_594 (by decide) ?_
        refine rv_wk [true, false, false, true, true, true, true, false, true, true, true, false, false, false, false] ?_
        exact bp_isRefused_599 E A g8 M7 x3 x4 x5 x6 x8 x9 x10 (-1)
      · refine rv_bipush (q := 599) E.x dL_isRefused_597 rv_kb32 rfl ?_
        refine rv_wk [true, false, false, true, true, true, true, false, true, true, true, false, false, false, false] ?_
        exact bp_isRefused_599 E A g8 M7 x3 x4 x5 x6 x8 x9 x10 32
    · refine rv_wk [true, false, false, true, true, true, true, false, true, true, true, false, false, false, false] ?_
      refine rv_wd 108 6780 (Nat.le_of_ble_eq_true rfl) (Nat.le_of_ble_eq_true rfl) ?_
      exact bp_isRefused_972 E A g8 M7 x3 x4 x5 x6 x8 x9 x10
  · refine rv_wk [true, false, false, true, true, true, true, false, true, true, true, false, false, false, false] ?_
    refine rv_wd 108 6780 (Nat.le_of_ble_eq_true rfl) (Nat.le_of_ble_eq_true rfl) ?_
    exact bp_isRefused_972 E A g4 M3 x3 x4 x5 x6 x8 x9 x10
set_option maxRecDepth 100000 in
theorem bp_isRefused_521 {p : Program} {l : Launch} {e : Env} {s : State} {m : MethodId} {args : Array Value} {below : List Frame} {meth : Method} {c : Code} {D : va_G} {cI cZ cO : ClassId} {mi de z0 o b L : Nat} {k : Nat → Nat} {xs : Nat → Int32} (E : lk_E D cI cZ cO mi de z0 b L k xs cL_isRefused 15 (some .boolean) p l s m args meth c) (A : rv_Mem)   : ∀ (gh : rC_gh) (M : rv_Mem) (x3 : Int32) (x4 : Bool) (x5 : Int32) (x6 : Int32) (x8 : Int32) (x9 : Int32) (x10 : Int64) (s3 : Int32), rv_M (lk_G D cI cZ cO de z0 o k) (fun q => z0 ≤ q) p l e rmp_isRefused s m args below meth c 51 3281 (lk_qWZ D cI cZ cO de z0 o k A below args s 511 24390) (gp_isRefused_521 A gh M x3 x4 x5 x6 x8 x9 x10 s3) 521 [some (.ref o), none, none, some (.int x3), some (.int (rv_i x4)), some (.int x5), some (.int x6), none, some (.int x8), some (.int x9), some (.long x10), none, none, none, none] [.int s3, .int 0, .int 14, .ref o] (gh, M, A) := by
  intro gh M x3 x4 x5 x6 x8 x9 x10 s3
  unfold gp_isRefused_521
  refine rv_iconst (q := 522) E.x dL_isRefused_521 rv_kim1 rfl ?_
  refine rv_iconst (q := 523) E.x dL_isRefused_522 rv_ki0 rfl ?_
  refine rv_iconst (q := 524) E.x dL_isRefused_523 rv_ki0 rfl ?_
  refine lk_b3 (fun r2 g4 M3 e1 => ?_)
  refine lk_csW (q := 527) (v := r2) (σ' := (g4, M3, A)) E (wP_act E.2.2.1 e1) gPs_241 hP_act ⟨rfl, rfl⟩ ⟨Nat.le_of_ble_eq_true rfl, Nat.le_of_ble_eq_true rfl⟩ ⟨Nat.le_of_ble_eq_true rfl, Nat.le_of_ble_eq_true rfl⟩ rfl rfl rfl (Nat.le_of_ble_eq_true rfl) dL_isRefused_524 rfl ?_
  refine rv_sipush (q := 530) E.x dL_isRefused_527 rv_ksm1261 rfl ?_
  refine rv_icmp_ne (q := 533) (tgt := 972) E.x dL_isRefused_530 (by decide) rfl ?_ ?_
  · refine rv_aload_n (q := 534) E.x dL_isRefused_533 rfl rfl ?_
    refine rv_bipush (q := 536) E.x dL_isRefused_534 rv_kb14 rfl ?_
    refine rv_iconst (q := 537) E.x dL_isRefused_536 rv_ki0 rfl ?_
    refine rv_iconst (q := 538) E.x dL_isRefused_537 rv_ki0 rfl ?_
    refine rv_iload (q := 540) E.x dL_isRefused_538 rfl rfl ?_
    refine rv_ifz_eq (q := 543) (tgt := 552) E.x dL_isRefused_540 (by decide) rfl ?_ ?_
    · refine rv_iconst (q := 544) E.x dL_isRefused_543 rv_kim1 rfl ?_
      refine rv_iload_n (q := 545) E.x dL_isRefused_544 rfl rfl ?_
      refine rv_bipush (q := 547) E.x dL_isRefused_545 rv_kb30 rfl ?_
      refine rv_irem (q := 548) E.x dL_isRefused_547 (by decide) rfl ?_
      refine rv_isub (q := 549) E.x dL_isRefused_548 rfl ?_
      refine rv_goto (q := 554) E.x dL_isRefused_549 (by decide) ?_
      refine rv_wk [true, false, false, true, true, true, true, false, true, true, true, false, false, false, false] ?_
      exact bp_isRefused_554 E A g4 M3 x3 x4 x5 x6 x8 x9 x10 ((-1) - (x3 - x3 / 30 * 30))
    · refine rv_bipush (q := 554) E.x dL_isRefused_552 rv_kb64 rfl ?_
      refine rv_wk [true, false, false, true, true, true, true, false, true, true, true, false, false, false, false] ?_
      exact bp_isRefused_554 E A g4 M3 x3 x4 x5 x6 x8 x9 x10 64
  · refine rv_wk [true, false, false, true, true, true, true, false, true, true, true, false, false, false, false] ?_
    refine rv_wd 108 6780 (Nat.le_of_ble_eq_true rfl) (Nat.le_of_ble_eq_true rfl) ?_
    exact bp_isRefused_972 E A g4 M3 x3 x4 x5 x6 x8 x9 x10
set_option maxRecDepth 100000 in
theorem bp_isRefused_439 {p : Program} {l : Launch} {e : Env} {s : State} {m : MethodId} {args : Array Value} {below : List Frame} {meth : Method} {c : Code} {D : va_G} {cI cZ cO : ClassId} {mi de z0 o b L : Nat} {k : Nat → Nat} {xs : Nat → Int32} (E : lk_E D cI cZ cO mi de z0 b L k xs cL_isRefused 15 (some .boolean) p l s m args meth c) (A : rv_Mem)   : ∀ (gh : rC_gh) (M : rv_Mem) (x3 : Int32) (x4 : Bool) (x5 : Int32) (x6 : Int32) (x8 : Int32) (x9 : Int32) (x10 : Int64) (s3 : Int32), rv_M (lk_G D cI cZ cO de z0 o k) (fun q => z0 ≤ q) p l e rmp_isRefused s m args below meth c 39 2509 (lk_qWZ D cI cZ cO de z0 o k A below args s 511 24390) (gp_isRefused_439 A gh M x3 x4 x5 x6 x8 x9 x10 s3) 439 [some (.ref o), none, none, some (.int x3), some (.int (rv_i x4)), some (.int x5), some (.int x6), none, some (.int x8), some (.int x9), some (.long x10), none, none, none, none] [.int s3, .int 0, .int 11, .ref o] (gh, M, A) := by
  intro gh M x3 x4 x5 x6 x8 x9 x10 s3
  unfold gp_isRefused_439
  refine rv_iconst (q := 440) E.x dL_isRefused_439 rv_ki0 rfl ?_
  refine rv_iconst (q := 441) E.x dL_isRefused_440 rv_ki0 rfl ?_
  refine rv_iconst (q := 442) E.x dL_isRefused_441 rv_ki0 rfl ?_
  refine lk_b3 (fun r2 g4 M3 e1 => ?_)
  refine lk_csW (q := 445) (v := r2) (σ' := (g4, M3, A)) E (wP_act E.2.2.1 e1) gPs_241 hP_act ⟨rfl, rfl⟩ ⟨Nat.le_of_ble_eq_true rfl, Nat.le_of_ble_eq_true rfl⟩ ⟨Nat.le_of_ble_eq_true rfl, Nat.le_of_ble_eq_true rfl⟩ rfl rfl rfl (Nat.le_of_ble_eq_true rfl) dL_isRefused_442 rfl ?_
  refine rv_sipush (q := 448) E.x dL_isRefused_445 rv_ksm1261 rfl ?_
  refine rv_icmp_ne (q := 451) (tgt := 972) E.x dL_isRefused_448 (by decide) rfl ?_ ?_
  · refine rv_aload_n (q := 452) E.x dL_isRefused_451 rfl rfl ?_
    refine rv_bipush (q := 454) E.x dL_isRefused_452 rv_kb12 rfl ?_
    refine rv_iload (q := 456) E.x dL_isRefused_454 rfl rfl ?_
    refine rv_iload (q := 458) E.x dL_isRefused_456 rfl rfl ?_
    refine rv_iconst (q := 459) E.x dL_isRefused_458 rv_ki0 rfl ?_
    refine rv_iconst (q := 460) E.x dL_isRefused_459 rv_ki0 rfl ?_
    refine rv_iconst (q := 461) E.x dL_isRefused_460 rv_ki0 rfl ?_
    refine lk_b3 (fun r6 g8 M7 e5 => ?_)
    refine lk_csW (q := 464) (v := r6) (σ' := (g8, M7, A)) E (wP_act E.2.2.1 e5) gPs_241 hP_act ⟨rfl, rfl⟩ ⟨Nat.le_of_ble_eq_true rfl, Nat.le_of_ble_eq_true rfl⟩ ⟨Nat.le_of_ble_eq_true rfl, Nat.le_of_ble_eq_true rfl⟩ rfl rfl rfl (Nat.le_of_ble_eq_true rfl) dL_isRefused_461 rfl ?_
    refine rv_sipush (q := 467) E.x dL_isRefused_464 rv_ksm1261 rfl ?_
    refine rv_icmp_ne (q := 470) (tgt := 972) E.x dL_isRefused_467 (by decide) rfl ?_ ?_
    · refine rv_aload_n (q := 471) E.x dL_isRefused_470 rfl rfl ?_
      refine rv_bipush (q := 473) E.x dL_isRefused_471 rv_kb13 rfl ?_
      refine rv_iload (q := 475) E.x dL_isRefused_473 rfl rfl ?_
      refine rv_iconst (q := 476) E.x dL_isRefused_475 rv_kim1 rfl ?_
      refine rv_iconst (q := 477) E.x dL_isRefused_476 rv_ki0 rfl ?_
      refine rv_iconst (q := 478) E.x dL_isRefused_477 rv_ki0 rfl ?_
      refine rv_iconst (q := 479) E.x dL_isRefused_478 rv_ki0 rfl ?_
      refine lk_b3 (fun r10 g12 M11 e9 => ?_)
      refine lk_csW (q := 482) (v := r10) (σ' := (g12, M11, A)) E (wP_act E.2.2.1 e9) gPs_241 hP_act ⟨rfl, rfl⟩ ⟨Nat.le_of_ble_eq_true rfl, Nat.le_of_ble_eq_true rfl⟩ ⟨Nat.le_of_ble_eq_true rfl, Nat.le_of_ble_eq_true rfl⟩ rfl rfl rfl (Nat.le_of_ble_eq_true rfl) dL_isRefused_479 rfl ?_
      refine rv_sipush (q := 485) E.x dL_isRefused_482 rv_ksm1261 rfl ?_
      refine rv_icmp_ne (q := 488) (tgt := 972) E.x dL_isRefused_485 (by decide) rfl ?_ ?_
      · refine rv_aload_n (q := 489) E.x dL_isRefused_488 rfl rfl ?_
        refine rv_bipush (q := 491) E.x dL_isRefused_489 rv_kb14 rfl ?_
        refine rv_iload (q := 493) E.x dL_isRefused_491 rfl rfl ?_
        refine rv_iconst (q := 494) E.x dL_isRefused_493 rv_ki0 rfl ?_
        refine rv_iconst (q := 495) E.x dL_isRefused_494 rv_kim1 rfl ?_
        refine rv_iconst (q := 496) E.x dL_isRefused_495 rv_ki0 rfl ?_
        refine rv_iconst (q := 497) E.x dL_isRefused_496 rv_ki0 rfl ?_
        refine lk_b3 (fun r14 g16 M15 e13 => ?_)
        refine lk_csW (q := 500) (v := r14) (σ' := (g16, M15, A)) E (wP_act E.2.2.1 e13) gPs_241 hP_act ⟨rfl, rfl⟩ ⟨Nat.le_of_ble_eq_true rfl, Nat.le_of_ble_eq_true rfl⟩ ⟨Nat.le_of_ble_eq_true rfl, Nat.le_of_ble_eq_true rfl⟩ rfl rfl rfl (Nat.le_of_ble_eq_true rfl) dL_isRefused_497 rfl ?_
        refine rv_sipush (q := 503) E.x dL_isRefused_500 rv_ksm1261 rfl ?_
        refine rv_icmp_ne (q := 506) (tgt := 972) E.x dL_isRefused_503 (by decide) rfl ?_ ?_
        · refine rv_aload_n (q := 507) E.x dL_isRefused_506 rfl rfl ?_
          refine rv_bipush (q := 509) E.x dL_isRefused_507 rv_kb14 rfl ?_
          refine rv_iconst (q := 510) E.x dL_isRefused_509 rv_ki0 rfl ?_
          refine rv_iload (q := 512) E.x dL_isRefused_510 rfl rfl ?_
          refine rv_ifz_eq (q := 515) (tgt := 519) E.x dL_isRefused_512 (by decide) rfl ?_ ?_
          · refine rv_iconst (q := 516) E.x dL_isRefused_515 rv_kim1 rfl ?_
            refine rv_goto (q := 521) E.x dL_isRefused_516 (by decide) ?_
            refine rv_wk [true, false, false, true, true, true, true, false, true, true, true, false, false, false, false] ?_
            exact bp_isRefused_521 E A g16 M15 x3 x4 x5 x6 x8 x9 x10 (-1)
          · refine rv_bipush (q := 521) E.x dL_isRefused_519 rv_kb7 rfl ?_
            refine rv_wk [true, false, false, true, true, true, true, false, true, true, true, false, false, false, false] ?_
            exact bp_isRefused_521 E A g16 M15 x3 x4 x5 x6 x8 x9 x10 7
        · refine rv_wk [true, false, false, true, true, true, true, false, true, true, true, false, false, false, false] ?_
          refine rv_wd 108 6780 (Nat.le_of_ble_eq_true rfl) (Nat.le_of_ble_eq_true rfl) ?_
          exact bp_isRefused_972 E A g16 M15 x3 x4 x5 x6 x8 x9 x10
      · refine rv_wk [true, false, false, true, true, true, true, false, true, true, true, false, false, false, false] ?_
        refine rv_wd 108 6780 (Nat.le_of_ble_eq_true rfl) (Nat.le_of_ble_eq_true rfl) ?_
        exact bp_isRefused_972 E A g12 M11 x3 x4 x5 x6 x8 x9 x10
    · refine rv_wk [true, false, false, true, true, true, true, false, true, true, true, false, false, false, false] ?_
      refine rv_wd 108 6780 (Nat.le_of_ble_eq_true rfl) (Nat.le_of_ble_eq_true rfl) ?_
      exact bp_isRefused_972 E A g8 M7 x3 x4 x5 x6 x8 x9 x10
  · refine rv_wk [true, false, false, true, true, true, true, false, true, true, true, false, false, false, false] ?_
    refine rv_wd 108 6780 (Nat.le_of_ble_eq_true rfl) (Nat.le_of_ble_eq_true rfl) ?_
    exact bp_isRefused_972 E A g4 M3 x3 x4 x5 x6 x8 x9 x10
set_option maxRecDepth 100000 in
theorem bp_isRefused_275 {p : Program} {l : Launch} {e : Env} {s : State} {m : MethodId} {args : Array Value} {below : List Frame} {meth : Method} {c : Code} {D : va_G} {cI cZ cO : ClassId} {mi de z0 o b L : Nat} {k : Nat → Nat} {xs : Nat → Int32} (E : lk_E D cI cZ cO mi de z0 b L k xs cL_isRefused 15 (some .boolean) p l s m args meth c) (A : rv_Mem)   : ∀ (gh : rC_gh) (M : rv_Mem) (x3 : Int32) (x4 : Bool) (x5 : Int32) (x6 : Int32) (x8 : Int32) (x9 : Int32) (x10 : Int64) (s3 : Int32), rv_M (lk_G D cI cZ cO de z0 o k) (fun q => z0 ≤ q) p l e rmp_isRefused s m args below meth c 15 965 (lk_qWZ D cI cZ cO de z0 o k A below args s 511 24390) (gp_isRefused_275 A gh M x3 x4 x5 x6 x8 x9 x10 s3) 275 [some (.ref o), none, some (.ref (k 2)), some (.int x3), some (.int (rv_i x4)), some (.int x5), some (.int x6), none, some (.int x8), some (.int x9), some (.long x10), none, none, none, none] [.int s3, .int 3, .int 3, .ref o] (gh, M, A) := by
  intro gh M x3 x4 x5 x6 x8 x9 x10 s3
  unfold gp_isRefused_275
  refine rv_iconst (q := 276) E.x dL_isRefused_275 rv_ki0 rfl ?_
  refine rv_iconst (q := 277) E.x dL_isRefused_276 rv_ki0 rfl ?_
  refine rv_iconst (q := 278) E.x dL_isRefused_277 rv_ki0 rfl ?_
  refine lk_b3 (fun r2 g4 M3 e1 => ?_)
  refine lk_csW (q := 281) (v := r2) (σ' := (g4, M3, A)) E (wP_act E.2.2.1 e1) gPs_241 hP_act ⟨rfl, rfl⟩ ⟨Nat.le_of_ble_eq_true rfl, Nat.le_of_ble_eq_true rfl⟩ ⟨Nat.le_of_ble_eq_true rfl, Nat.le_of_ble_eq_true rfl⟩ rfl rfl rfl (Nat.le_of_ble_eq_true rfl) dL_isRefused_278 rfl ?_
  refine rv_sipush (q := 284) E.x dL_isRefused_281 rv_ksm1261 rfl ?_
  refine rv_icmp_ne (q := 287) (tgt := 972) E.x dL_isRefused_284 (by decide) rfl ?_ ?_
  · refine rv_aload_n (q := 288) E.x dL_isRefused_287 rfl rfl ?_
    refine rv_iconst (q := 289) E.x dL_isRefused_288 rv_ki4 rfl ?_
    refine rv_iload (q := 291) E.x dL_isRefused_289 rfl rfl ?_
    refine rv_iconst (q := 292) E.x dL_isRefused_291 rv_ki0 rfl ?_
    refine rv_iconst (q := 293) E.x dL_isRefused_292 rv_ki0 rfl ?_
    refine rv_iconst (q := 294) E.x dL_isRefused_293 rv_ki0 rfl ?_
    refine rv_iconst (q := 295) E.x dL_isRefused_294 rv_ki0 rfl ?_
    refine lk_b3 (fun r6 g8 M7 e5 => ?_)
    refine lk_csW (q := 298) (v := r6) (σ' := (g8, M7, A)) E (wP_act E.2.2.1 e5) gPs_241 hP_act ⟨rfl, rfl⟩ ⟨Nat.le_of_ble_eq_true rfl, Nat.le_of_ble_eq_true rfl⟩ ⟨Nat.le_of_ble_eq_true rfl, Nat.le_of_ble_eq_true rfl⟩ rfl rfl rfl (Nat.le_of_ble_eq_true rfl) dL_isRefused_295 rfl ?_
    refine rv_sipush (q := 301) E.x dL_isRefused_298 rv_ksm1261 rfl ?_
    refine rv_icmp_ne (q := 304) (tgt := 972) E.x dL_isRefused_301 (by decide) rfl ?_ ?_
    · refine rv_aload_n (q := 305) E.x dL_isRefused_304 rfl rfl ?_
      refine rv_iconst (q := 306) E.x dL_isRefused_305 rv_ki5 rfl ?_
      refine rv_iconst (q := 307) E.x dL_isRefused_306 rv_ki0 rfl ?_
      refine rv_iload (q := 309) E.x dL_isRefused_307 rfl rfl ?_
      refine rv_iconst (q := 310) E.x dL_isRefused_309 rv_ki0 rfl ?_
      refine rv_iconst (q := 311) E.x dL_isRefused_310 rv_ki0 rfl ?_
      refine rv_iconst (q := 312) E.x dL_isRefused_311 rv_ki0 rfl ?_
      refine lk_b3 (fun r10 g12 M11 e9 => ?_)
      refine lk_csW (q := 315) (v := r10) (σ' := (g12, M11, A)) E (wP_act E.2.2.1 e9) gPs_241 hP_act ⟨rfl, rfl⟩ ⟨Nat.le_of_ble_eq_true rfl, Nat.le_of_ble_eq_true rfl⟩ ⟨Nat.le_of_ble_eq_true rfl, Nat.le_of_ble_eq_true rfl⟩ rfl rfl rfl (Nat.le_of_ble_eq_true rfl) dL_isRefused_312 rfl ?_
      refine rv_sipush (q := 318) E.x dL_isRefused_315 rv_ksm1261 rfl ?_
      refine rv_icmp_ne (q := 321) (tgt := 972) E.x dL_isRefused_318 (by decide) rfl ?_ ?_
      · refine rv_aload_n (q := 322) E.x dL_isRefused_321 rfl rfl ?_
        refine rv_bipush (q := 324) E.x dL_isRefused_322 rv_kb6 rfl ?_
        refine rv_iload (q := 326) E.x dL_isRefused_324 rfl rfl ?_
        refine rv_iload (q := 328) E.x dL_isRefused_326 rfl rfl ?_
        refine rv_iconst (q := 329) E.x dL_isRefused_328 rv_ki0 rfl ?_
        refine rv_iconst (q := 330) E.x dL_isRefused_329 rv_ki0 rfl ?_
        refine rv_iconst (q := 331) E.x dL_isRefused_330 rv_ki0 rfl ?_
        refine lk_b3 (fun r14 g16 M15 e13 => ?_)
        refine lk_csW (q := 334) (v := r14) (σ' := (g16, M15, A)) E (wP_act E.2.2.1 e13) gPs_241 hP_act ⟨rfl, rfl⟩ ⟨Nat.le_of_ble_eq_true rfl, Nat.le_of_ble_eq_true rfl⟩ ⟨Nat.le_of_ble_eq_true rfl, Nat.le_of_ble_eq_true rfl⟩ rfl rfl rfl (Nat.le_of_ble_eq_true rfl) dL_isRefused_331 rfl ?_
        refine rv_sipush (q := 337) E.x dL_isRefused_334 rv_ksm1261 rfl ?_
        refine rv_icmp_ne (q := 340) (tgt := 972) E.x dL_isRefused_337 (by decide) rfl ?_ ?_
        · refine rv_aload_n (q := 341) E.x dL_isRefused_340 rfl rfl ?_
          refine rv_bipush (q := 343) E.x dL_isRefused_341 rv_kb7 rfl ?_
          refine rv_iconst (q := 344) E.x dL_isRefused_343 rv_ki0 rfl ?_
          refine rv_iload (q := 346) E.x dL_isRefused_344 rfl rfl ?_
          refine rv_iconst (q := 347) E.x dL_isRefused_346 rv_ki0 rfl ?_
          refine rv_iconst (q := 348) E.x dL_isRefused_347 rv_ki0 rfl ?_
          refine rv_iconst (q := 349) E.x dL_isRefused_348 rv_ki0 rfl ?_
          refine lk_b3 (fun r18 g20 M19 e17 => ?_)
          refine lk_csW (q := 352) (v := r18) (σ' := (g20, M19, A)) E (wP_act E.2.2.1 e17) gPs_241 hP_act ⟨rfl, rfl⟩ ⟨Nat.le_of_ble_eq_true rfl, Nat.le_of_ble_eq_true rfl⟩ ⟨Nat.le_of_ble_eq_true rfl, Nat.le_of_ble_eq_true rfl⟩ rfl rfl rfl (Nat.le_of_ble_eq_true rfl) dL_isRefused_349 rfl ?_
          refine rv_sipush (q := 355) E.x dL_isRefused_352 rv_ksm1261 rfl ?_
          refine rv_icmp_ne (q := 358) (tgt := 972) E.x dL_isRefused_355 (by decide) rfl ?_ ?_
          · refine rv_aload_n (q := 359) E.x dL_isRefused_358 rfl rfl ?_
            refine rv_bipush (q := 361) E.x dL_isRefused_359 rv_kb8 rfl ?_
            refine rv_iload (q := 363) E.x dL_isRefused_361 rfl rfl ?_
            refine rv_iconst (q := 364) E.x dL_isRefused_363 rv_ki0 rfl ?_
            refine rv_iconst (q := 365) E.x dL_isRefused_364 rv_ki0 rfl ?_
            refine rv_iconst (q := 366) E.x dL_isRefused_365 rv_ki0 rfl ?_
            refine rv_iconst (q := 367) E.x dL_isRefused_366 rv_ki0 rfl ?_
            refine lk_b3 (fun r22 g24 M23 e21 => ?_)
            refine lk_csW (q := 370) (v := r22) (σ' := (g24, M23, A)) E (wP_act E.2.2.1 e21) gPs_241 hP_act ⟨rfl, rfl⟩ ⟨Nat.le_of_ble_eq_true rfl, Nat.le_of_ble_eq_true rfl⟩ ⟨Nat.le_of_ble_eq_true rfl, Nat.le_of_ble_eq_true rfl⟩ rfl rfl rfl (Nat.le_of_ble_eq_true rfl) dL_isRefused_367 rfl ?_
            refine rv_sipush (q := 373) E.x dL_isRefused_370 rv_ksm1261 rfl ?_
            refine rv_icmp_ne (q := 376) (tgt := 972) E.x dL_isRefused_373 (by decide) rfl ?_ ?_
            · refine rv_aload_n (q := 377) E.x dL_isRefused_376 rfl rfl ?_
              refine rv_bipush (q := 379) E.x dL_isRefused_377 rv_kb9 rfl ?_
              refine rv_iload (q := 381) E.x dL_isRefused_379 rfl rfl ?_
              refine rv_iconst (q := 382) E.x dL_isRefused_381 rv_ki0 rfl ?_
              refine rv_iconst (q := 383) E.x dL_isRefused_382 rv_ki0 rfl ?_
              refine rv_iconst (q := 384) E.x dL_isRefused_383 rv_ki0 rfl ?_
              refine rv_iconst (q := 385) E.x dL_isRefused_384 rv_ki0 rfl ?_
              refine lk_b3 (fun r26 g28 M27 e25 => ?_)
              refine lk_csW (q := 388) (v := r26) (σ' := (g28, M27, A)) E (wP_act E.2.2.1 e25) gPs_241 hP_act ⟨rfl, rfl⟩ ⟨Nat.le_of_ble_eq_true rfl, Nat.le_of_ble_eq_true rfl⟩ ⟨Nat.le_of_ble_eq_true rfl, Nat.le_of_ble_eq_true rfl⟩ rfl rfl rfl (Nat.le_of_ble_eq_true rfl) dL_isRefused_385 rfl ?_
              refine rv_sipush (q := 391) E.x dL_isRefused_388 rv_ksm1261 rfl ?_
              refine rv_icmp_ne (q := 394) (tgt := 972) E.x dL_isRefused_391 (by decide) rfl ?_ ?_
              · refine rv_aload_n (q := 395) E.x dL_isRefused_394 rfl rfl ?_
                refine rv_bipush (q := 397) E.x dL_isRefused_395 rv_kb10 rfl ?_
                refine rv_iload (q := 399) E.x dL_isRefused_397 rfl rfl ?_
                refine rv_bipush (q := 401) E.x dL_isRefused_399 rv_kbm5 rfl ?_
                refine rv_iconst (q := 402) E.x dL_isRefused_401 rv_ki0 rfl ?_
                refine rv_iconst (q := 403) E.x dL_isRefused_402 rv_ki0 rfl ?_
                refine rv_iconst (q := 404) E.x dL_isRefused_403 rv_ki0 rfl ?_
                refine lk_b3 (fun r30 g32 M31 e29 => ?_)
                refine lk_csW (q := 407) (v := r30) (σ' := (g32, M31, A)) E (wP_act E.2.2.1 e29) gPs_241 hP_act ⟨rfl, rfl⟩ ⟨Nat.le_of_ble_eq_true rfl, Nat.le_of_ble_eq_true rfl⟩ ⟨Nat.le_of_ble_eq_true rfl, Nat.le_of_ble_eq_true rfl⟩ rfl rfl rfl (Nat.le_of_ble_eq_true rfl) dL_isRefused_404 rfl ?_
                refine rv_sipush (q := 410) E.x dL_isRefused_407 rv_ksm1261 rfl ?_
                refine rv_icmp_ne (q := 413) (tgt := 972) E.x dL_isRefused_410 (by decide) rfl ?_ ?_
                · refine rv_aload_n (q := 414) E.x dL_isRefused_413 rfl rfl ?_
                  refine rv_bipush (q := 416) E.x dL_isRefused_414 rv_kb11 rfl ?_
                  refine rv_iconst (q := 417) E.x dL_isRefused_416 rv_ki0 rfl ?_
                  refine rv_iload (q := 419) E.x dL_isRefused_417 rfl rfl ?_
                  refine rv_ifz_eq (q := 422) (tgt := 431) E.x dL_isRefused_419 (by decide) rfl ?_ ?_
                  · refine rv_iconst (q := 423) E.x dL_isRefused_422 rv_kim1 rfl ?_
                    refine rv_iload_n (q := 424) E.x dL_isRefused_423 rfl rfl ?_
                    refine rv_bipush (q := 426) E.x dL_isRefused_424 rv_kb30 rfl ?_
                    refine rv_irem (q := 427) E.x dL_isRefused_426 (by decide) rfl ?_
                    refine rv_isub (q := 428) E.x dL_isRefused_427 rfl ?_
                    refine rv_goto (q := 439) E.x dL_isRefused_428 (by decide) ?_
                    refine rv_wk [true, false, false, true, true, true, true, false, true, true, true, false, false, false, false] ?_
                    exact bp_isRefused_439 E A g32 M31 x3 x4 x5 x6 x8 x9 x10 ((-1) - (x3 - x3 / 30 * 30))
                  · refine rv_aload_n (q := 432) E.x dL_isRefused_431 rfl rfl ?_
                    refine rv_iconst (q := 433) E.x dL_isRefused_432 rv_ki0 rfl ?_
                    refine lk_ald (q := 434) E 2 (by decide) dL_isRefused_433 rfl ?_
                    refine rv_iload_n (q := 435) E.x dL_isRefused_434 rfl rfl ?_
                    refine rv_bipush (q := 437) E.x dL_isRefused_435 rv_kb30 rfl ?_
                    refine rv_irem (q := 438) E.x dL_isRefused_437 (by decide) rfl ?_
                    refine rv_iadd (q := 439) E.x dL_isRefused_438 rfl ?_
                    refine rv_wk [true, false, false, true, true, true, true, false, true, true, true, false, false, false, false] ?_
                    exact bp_isRefused_439 E A g32 M31 x3 x4 x5 x6 x8 x9 x10 ((A 2 ((0 : Int32)).toNatClampNeg) + (x3 - x3 / 30 * 30))
                · refine rv_wk [true, false, false, true, true, true, true, false, true, true, true, false, false, false, false] ?_
                  refine rv_wd 108 6780 (Nat.le_of_ble_eq_true rfl) (Nat.le_of_ble_eq_true rfl) ?_
                  exact bp_isRefused_972 E A g32 M31 x3 x4 x5 x6 x8 x9 x10
              · refine rv_wk [true, false, false, true, true, true, true, false, true, true, true, false, false, false, false] ?_
                refine rv_wd 108 6780 (Nat.le_of_ble_eq_true rfl) (Nat.le_of_ble_eq_true rfl) ?_
                exact bp_isRefused_972 E A g28 M27 x3 x4 x5 x6 x8 x9 x10
            · refine rv_wk [true, false, false, true, true, true, true, false, true, true, true, false, false, false, false] ?_
              refine rv_wd 108 6780 (Nat.le_of_ble_eq_true rfl) (Nat.le_of_ble_eq_true rfl) ?_
              exact bp_isRefused_972 E A g24 M23 x3 x4 x5 x6 x8 x9 x10
          · refine rv_wk [true, false, false, true, true, true, true, false, true, true, true, false, false, false, false] ?_
            refine rv_wd 108 6780 (Nat.le_of_ble_eq_true rfl) (Nat.le_of_ble_eq_true rfl) ?_
            exact bp_isRefused_972 E A g20 M19 x3 x4 x5 x6 x8 x9 x10
        · refine rv_wk [true, false, false, true, true, true, true, false, true, true, true, false, false, false, false] ?_
          refine rv_wd 108 6780 (Nat.le_of_ble_eq_true rfl) (Nat.le_of_ble_eq_true rfl) ?_
          exact bp_isRefused_972 E A g16 M15 x3 x4 x5 x6 x8 x9 x10
      · refine rv_wk [true, false, false, true, true, true, true, false, true, true, true, false, false, false, false] ?_
        refine rv_wd 108 6780 (Nat.le_of_ble_eq_true rfl) (Nat.le_of_ble_eq_true rfl) ?_
        exact bp_isRefused_972 E A g12 M11 x3 x4 x5 x6 x8 x9 x10
    · refine rv_wk [true, false, false, true, true, true, true, false, true, true, true, false, false, false, false] ?_
      refine rv_wd 108 6780 (Nat.le_of_ble_eq_true rfl) (Nat.le_of_ble_eq_true rfl) ?_
      exact bp_isRefused_972 E A g8 M7 x3 x4 x5 x6 x8 x9 x10
  · refine rv_wk [true, false, false, true, true, true, true, false, true, true, true, false, false, false, false] ?_
    refine rv_wd 108 6780 (Nat.le_of_ble_eq_true rfl) (Nat.le_of_ble_eq_true rfl) ?_
    exact bp_isRefused_972 E A g4 M3 x3 x4 x5 x6 x8 x9 x10
set_option maxRecDepth 100000 in
theorem bp_isRefused_246 {p : Program} {l : Launch} {e : Env} {s : State} {m : MethodId} {args : Array Value} {below : List Frame} {meth : Method} {c : Code} {D : va_G} {cI cZ cO : ClassId} {mi de z0 o b L : Nat} {k : Nat → Nat} {xs : Nat → Int32} (E : lk_E D cI cZ cO mi de z0 b L k xs cL_isRefused 15 (some .boolean) p l s m args meth c) (A : rv_Mem)   : ∀ (gh : rC_gh) (M : rv_Mem) (x3 : Int32) (x4 : Bool) (x5 : Int32) (x6 : Int32) (x8 : Int32) (x9 : Int32) (x10 : Int64) (s4 : Int32), rv_M (lk_G D cI cZ cO de z0 o k) (fun q => z0 ≤ q) p l e rmp_isRefused s m args below meth c 12 772 (lk_qWZ D cI cZ cO de z0 o k A below args s 511 24390) (gp_isRefused_246 A gh M x3 x4 x5 x6 x8 x9 x10 s4) 246 [some (.ref o), none, some (.ref (k 2)), some (.int x3), some (.int (rv_i x4)), some (.int x5), some (.int x6), none, some (.int x8), some (.int x9), some (.long x10), none, none, none, none] [.int s4, .int 0, .int 3, .int 2, .ref o] (gh, M, A) := by
  intro gh M x3 x4 x5 x6 x8 x9 x10 s4
  unfold gp_isRefused_246
  refine rv_iconst (q := 247) E.x dL_isRefused_246 rv_ki0 rfl ?_
  refine rv_iconst (q := 248) E.x dL_isRefused_247 rv_ki0 rfl ?_
  refine lk_b3 (fun r2 g4 M3 e1 => ?_)
  refine lk_csW (q := 251) (v := r2) (σ' := (g4, M3, A)) E (wP_act E.2.2.1 e1) gPs_241 hP_act ⟨rfl, rfl⟩ ⟨Nat.le_of_ble_eq_true rfl, Nat.le_of_ble_eq_true rfl⟩ ⟨Nat.le_of_ble_eq_true rfl, Nat.le_of_ble_eq_true rfl⟩ rfl rfl rfl (Nat.le_of_ble_eq_true rfl) dL_isRefused_248 rfl ?_
  refine rv_sipush (q := 254) E.x dL_isRefused_251 rv_ksm1262 rfl ?_
  refine rv_icmp_ne (q := 257) (tgt := 972) E.x dL_isRefused_254 (by decide) rfl ?_ ?_
  · refine rv_aload_n (q := 258) E.x dL_isRefused_257 rfl rfl ?_
    refine rv_iconst (q := 259) E.x dL_isRefused_258 rv_ki3 rfl ?_
    refine rv_iconst (q := 260) E.x dL_isRefused_259 rv_ki3 rfl ?_
    refine rv_iload (q := 262) E.x dL_isRefused_260 rfl rfl ?_
    refine rv_ifz_eq (q := 265) (tgt := 269) E.x dL_isRefused_262 (by decide) rfl ?_ ?_
    · refine rv_iconst (q := 266) E.x dL_isRefused_265 rv_kim1 rfl ?_
      refine rv_goto (q := 275) E.x dL_isRefused_266 (by decide) ?_
      refine rv_wk [true, false, true, true, true, true, true, false, true, true, true, false, false, false, false] ?_
      exact bp_isRefused_275 E A g4 M3 x3 x4 x5 x6 x8 x9 x10 (-1)
    · refine rv_aload_n (q := 270) E.x dL_isRefused_269 rfl rfl ?_
      refine rv_iconst (q := 271) E.x dL_isRefused_270 rv_kim1 rfl ?_
      refine rv_iconst (q := 272) E.x dL_isRefused_271 rv_ki3 rfl ?_
      refine rv_b2 (fun r6 M7 e5 => ?_)
      refine lk_cs0 (q := 275) (v := r6) (σ' := (g4, M7, A)) E (wP_size E.2.2.1 e5) gPs_203 hP_size ⟨rfl, rfl⟩ ⟨Nat.le_of_ble_eq_true rfl, Nat.le_of_ble_eq_true rfl⟩ ⟨Nat.le_of_ble_eq_true rfl, Nat.le_of_ble_eq_true rfl⟩ rfl rfl rfl (Nat.le_of_ble_eq_true rfl) dL_isRefused_272 rfl ?_
      refine rv_wk [true, false, true, true, true, true, true, false, true, true, true, false, false, false, false] ?_
      exact bp_isRefused_275 E A g4 M7 x3 x4 x5 x6 x8 x9 x10 r6
  · refine rv_wk [true, false, false, true, true, true, true, false, true, true, true, false, false, false, false] ?_
    refine rv_wd 108 6780 (Nat.le_of_ble_eq_true rfl) (Nat.le_of_ble_eq_true rfl) ?_
    exact bp_isRefused_972 E A g4 M3 x3 x4 x5 x6 x8 x9 x10
set_option maxRecDepth 100000 in
theorem bp_isRefused_213 {p : Program} {l : Launch} {e : Env} {s : State} {m : MethodId} {args : Array Value} {below : List Frame} {meth : Method} {c : Code} {D : va_G} {cI cZ cO : ClassId} {mi de z0 o b L : Nat} {k : Nat → Nat} {xs : Nat → Int32} (E : lk_E D cI cZ cO mi de z0 b L k xs cL_isRefused 15 (some .boolean) p l s m args meth c) (A : rv_Mem)   : ∀ (gh : rC_gh) (M : rv_Mem) (x3 : Int32) (x4 : Bool) (x5 : Int32) (x6 : Int32) (x8 : Int32) (x9 : Int32) (x10 : Int64) (s3 : Int32), rv_M (lk_G D cI cZ cO de z0 o k) (fun q => z0 ≤ q) p l e rmp_isRefused s m args below meth c 9 579 (lk_qWZ D cI cZ cO de z0 o k A below args s 511 24390) (gp_isRefused_213 A gh M x3 x4 x5 x6 x8 x9 x10 s3) 213 [some (.ref o), none, some (.ref (k 2)), some (.int x3), some (.int (rv_i x4)), some (.int x5), some (.int x6), none, some (.int x8), some (.int x9), some (.long x10), none, none, none, none] [.int s3, .int 3, .int 2, .ref o] (gh, M, A) := by
  intro gh M x3 x4 x5 x6 x8 x9 x10 s3
  unfold gp_isRefused_213
  refine rv_iconst (q := 214) E.x dL_isRefused_213 rv_kim1 rfl ?_
  refine rv_iconst (q := 215) E.x dL_isRefused_214 rv_ki0 rfl ?_
  refine rv_iconst (q := 216) E.x dL_isRefused_215 rv_ki0 rfl ?_
  refine lk_b3 (fun r2 g4 M3 e1 => ?_)
  refine lk_csW (q := 219) (v := r2) (σ' := (g4, M3, A)) E (wP_act E.2.2.1 e1) gPs_241 hP_act ⟨rfl, rfl⟩ ⟨Nat.le_of_ble_eq_true rfl, Nat.le_of_ble_eq_true rfl⟩ ⟨Nat.le_of_ble_eq_true rfl, Nat.le_of_ble_eq_true rfl⟩ rfl rfl rfl (Nat.le_of_ble_eq_true rfl) dL_isRefused_216 rfl ?_
  refine rv_sipush (q := 222) E.x dL_isRefused_219 rv_ksm1261 rfl ?_
  refine rv_icmp_ne (q := 225) (tgt := 972) E.x dL_isRefused_222 (by decide) rfl ?_ ?_
  · refine rv_aload_n (q := 226) E.x dL_isRefused_225 rfl rfl ?_
    refine rv_iconst (q := 227) E.x dL_isRefused_226 rv_ki2 rfl ?_
    refine rv_iconst (q := 228) E.x dL_isRefused_227 rv_ki3 rfl ?_
    refine rv_iconst (q := 229) E.x dL_isRefused_228 rv_ki0 rfl ?_
    refine rv_iload (q := 231) E.x dL_isRefused_229 rfl rfl ?_
    refine rv_ifz_eq (q := 234) (tgt := 243) E.x dL_isRefused_231 (by decide) rfl ?_ ?_
    · refine rv_iconst (q := 235) E.x dL_isRefused_234 rv_kim1 rfl ?_
      refine rv_iload_n (q := 236) E.x dL_isRefused_235 rfl rfl ?_
      refine rv_bipush (q := 238) E.x dL_isRefused_236 rv_kb30 rfl ?_
      refine rv_irem (q := 239) E.x dL_isRefused_238 (by decide) rfl ?_
      refine rv_isub (q := 240) E.x dL_isRefused_239 rfl ?_
      refine rv_goto (q := 246) E.x dL_isRefused_240 (by decide) ?_
      refine rv_wk [true, false, true, true, true, true, true, false, true, true, true, false, false, false, false] ?_
      exact bp_isRefused_246 E A g4 M3 x3 x4 x5 x6 x8 x9 x10 ((-1) - (x3 - x3 / 30 * 30))
    · refine rv_sipush (q := 246) E.x dL_isRefused_243 rv_ks400 rfl ?_
      refine rv_wk [true, false, true, true, true, true, true, false, true, true, true, false, false, false, false] ?_
      exact bp_isRefused_246 E A g4 M3 x3 x4 x5 x6 x8 x9 x10 400
  · refine rv_wk [true, false, false, true, true, true, true, false, true, true, true, false, false, false, false] ?_
    refine rv_wd 108 6780 (Nat.le_of_ble_eq_true rfl) (Nat.le_of_ble_eq_true rfl) ?_
    exact bp_isRefused_972 E A g4 M3 x3 x4 x5 x6 x8 x9 x10
set_option maxRecDepth 100000 in
theorem bp_isRefused_129 {p : Program} {l : Launch} {e : Env} {s : State} {m : MethodId} {args : Array Value} {below : List Frame} {meth : Method} {c : Code} {D : va_G} {cI cZ cO : ClassId} {mi de z0 o b L : Nat} {k : Nat → Nat} {xs : Nat → Int32} (E : lk_E D cI cZ cO mi de z0 b L k xs cL_isRefused 15 (some .boolean) p l s m args meth c) (A : rv_Mem)   : ∀ (gh : rC_gh) (M : rv_Mem) (x3 : Int32) (x4 : Bool) (x5 : Int32) (x6 : Int32) (x7 : Int32) (x8 : Int32) (s0 : Int32), rv_M (lk_G D cI cZ cO de z0 o k) (fun q => z0 ≤ q) p l e rmp_isRefused s m args below meth c 0 0 (lk_qWZ D cI cZ cO de z0 o k A below args s 511 24390) (gp_isRefused_129 A gh M x3 x4 x5 x6 x7 x8 s0) 129 [some (.ref o), none, some (.ref (k 2)), some (.int x3), some (.int (rv_i x4)), some (.int x5), some (.int x6), some (.int x7), some (.int x8), none, none, none, none, none, none] [.int s0] (gh, M, A) := by
  intro gh M x3 x4 x5 x6 x7 x8 s0
  unfold gp_isRefused_129
  refine rv_istore (q := 131) (lv' := [_, _, _, _, _, _, _, _, _, _, _, _, _, _, _]) E.x dL_isRefused_129 (Nat.le_of_ble_eq_true rfl) rfl rfl rfl ?_
  refine rv_aload_n (q := 132) E.x dL_isRefused_131 rfl rfl ?_
  refine rv_b2 (fun r2 M3 e1 => ?_)
  refine lk_csl0 (q := 135) (v := r2) (σ' := (gh, M3, A)) E (wP_all E.2.2.1 e1) gPs_237 hP_all ⟨rfl, rfl⟩ ⟨Nat.le_of_ble_eq_true rfl, Nat.le_of_ble_eq_true rfl⟩ ⟨Nat.le_of_ble_eq_true rfl, Nat.le_of_ble_eq_true rfl⟩ rfl rfl rfl (Nat.le_of_ble_eq_true rfl) dL_isRefused_132 rfl ?_
  refine rv_lstore (q := 137) (lv' := [_, _, _, _, _, _, _, _, _, _, _, _, _, _, _]) E.x dL_isRefused_135 (Nat.le_of_ble_eq_true rfl) rfl rfl rfl ?_
  refine rv_aload_n (q := 138) E.x dL_isRefused_137 rfl rfl ?_
  refine rv_iconst (q := 139) E.x dL_isRefused_138 rv_ki0 rfl ?_
  refine rv_iload (q := 141) E.x dL_isRefused_139 rfl rfl ?_
  refine rv_iconst (q := 142) E.x dL_isRefused_141 rv_ki0 rfl ?_
  refine rv_iconst (q := 143) E.x dL_isRefused_142 rv_ki0 rfl ?_
  refine rv_iconst (q := 144) E.x dL_isRefused_143 rv_ki0 rfl ?_
  refine rv_iconst (q := 145) E.x dL_isRefused_144 rv_ki0 rfl ?_
  refine lk_b3 (fun r5 g7 M6 e4 => ?_)
  refine lk_csW (q := 148) (v := r5) (σ' := (g7, M6, A)) E (wP_act E.2.2.1 e4) gPs_241 hP_act ⟨rfl, rfl⟩ ⟨Nat.le_of_ble_eq_true rfl, Nat.le_of_ble_eq_true rfl⟩ ⟨Nat.le_of_ble_eq_true rfl, Nat.le_of_ble_eq_true rfl⟩ rfl rfl rfl (Nat.le_of_ble_eq_true rfl) dL_isRefused_145 rfl ?_
  refine rv_sipush (q := 151) E.x dL_isRefused_148 rv_ksm1261 rfl ?_
  refine rv_icmp_ne (q := 154) (tgt := 972) E.x dL_isRefused_151 (by decide) rfl ?_ ?_
  · refine rv_aload_n (q := 155) E.x dL_isRefused_154 rfl rfl ?_
    refine rv_iconst (q := 156) E.x dL_isRefused_155 rv_ki1 rfl ?_
    refine rv_iload (q := 158) E.x dL_isRefused_156 rfl rfl ?_
    refine rv_iconst (q := 159) E.x dL_isRefused_158 rv_ki0 rfl ?_
    refine rv_iconst (q := 160) E.x dL_isRefused_159 rv_ki0 rfl ?_
    refine rv_iconst (q := 161) E.x dL_isRefused_160 rv_ki0 rfl ?_
    refine rv_iconst (q := 162) E.x dL_isRefused_161 rv_ki0 rfl ?_
    refine lk_b3 (fun r9 g11 M10 e8 => ?_)
    refine lk_csW (q := 165) (v := r9) (σ' := (g11, M10, A)) E (wP_act E.2.2.1 e8) gPs_241 hP_act ⟨rfl, rfl⟩ ⟨Nat.le_of_ble_eq_true rfl, Nat.le_of_ble_eq_true rfl⟩ ⟨Nat.le_of_ble_eq_true rfl, Nat.le_of_ble_eq_true rfl⟩ rfl rfl rfl (Nat.le_of_ble_eq_true rfl) dL_isRefused_162 rfl ?_
    refine rv_sipush (q := 168) E.x dL_isRefused_165 rv_ksm1261 rfl ?_
    refine rv_icmp_ne (q := 171) (tgt := 972) E.x dL_isRefused_168 (by decide) rfl ?_ ?_
    · refine rv_aload_n (q := 172) E.x dL_isRefused_171 rfl rfl ?_
      refine rv_iconst (q := 173) E.x dL_isRefused_172 rv_ki2 rfl ?_
      refine rv_iload (q := 175) E.x dL_isRefused_173 rfl rfl ?_
      refine rv_iconst (q := 176) E.x dL_isRefused_175 rv_ki0 rfl ?_
      refine rv_iconst (q := 177) E.x dL_isRefused_176 rv_kim1 rfl ?_
      refine rv_iconst (q := 178) E.x dL_isRefused_177 rv_ki0 rfl ?_
      refine rv_iconst (q := 179) E.x dL_isRefused_178 rv_ki0 rfl ?_
      refine lk_b3 (fun r13 g15 M14 e12 => ?_)
      refine lk_csW (q := 182) (v := r13) (σ' := (g15, M14, A)) E (wP_act E.2.2.1 e12) gPs_241 hP_act ⟨rfl, rfl⟩ ⟨Nat.le_of_ble_eq_true rfl, Nat.le_of_ble_eq_true rfl⟩ ⟨Nat.le_of_ble_eq_true rfl, Nat.le_of_ble_eq_true rfl⟩ rfl rfl rfl (Nat.le_of_ble_eq_true rfl) dL_isRefused_179 rfl ?_
      refine rv_sipush (q := 185) E.x dL_isRefused_182 rv_ksm1261 rfl ?_
      refine rv_icmp_ne (q := 188) (tgt := 972) E.x dL_isRefused_185 (by decide) rfl ?_ ?_
      · refine rv_aload_n (q := 189) E.x dL_isRefused_188 rfl rfl ?_
        refine rv_iconst (q := 190) E.x dL_isRefused_189 rv_ki2 rfl ?_
        refine rv_iconst (q := 191) E.x dL_isRefused_190 rv_ki3 rfl ?_
        refine rv_iload (q := 193) E.x dL_isRefused_191 rfl rfl ?_
        refine rv_ifz_eq (q := 196) (tgt := 205) E.x dL_isRefused_193 (by decide) rfl ?_ ?_
        · refine rv_iconst (q := 197) E.x dL_isRefused_196 rv_kim1 rfl ?_
          refine rv_iload_n (q := 198) E.x dL_isRefused_197 rfl rfl ?_
          refine rv_bipush (q := 200) E.x dL_isRefused_198 rv_kb30 rfl ?_
          refine rv_irem (q := 201) E.x dL_isRefused_200 (by decide) rfl ?_
          refine rv_isub (q := 202) E.x dL_isRefused_201 rfl ?_
          refine rv_goto (q := 213) E.x dL_isRefused_202 (by decide) ?_
          refine rv_wk [true, false, true, true, true, true, true, false, true, true, true, false, false, false, false] ?_
          exact bp_isRefused_213 E A g15 M14 x3 x4 x5 x6 x8 s0 r2 ((-1) - (x3 - x3 / 30 * 30))
        · refine rv_aload_n (q := 206) E.x dL_isRefused_205 rfl rfl ?_
          refine rv_iconst (q := 207) E.x dL_isRefused_206 rv_kim1 rfl ?_
          refine rv_iconst (q := 208) E.x dL_isRefused_207 rv_ki3 rfl ?_
          refine rv_b2 (fun r17 M18 e16 => ?_)
          refine lk_cs0 (q := 211) (v := r17) (σ' := (g15, M18, A)) E (wP_size E.2.2.1 e16) gPs_203 hP_size ⟨rfl, rfl⟩ ⟨Nat.le_of_ble_eq_true rfl, Nat.le_of_ble_eq_true rfl⟩ ⟨Nat.le_of_ble_eq_true rfl, Nat.le_of_ble_eq_true rfl⟩ rfl rfl rfl (Nat.le_of_ble_eq_true rfl) dL_isRefused_208 rfl ?_
          refine rv_iconst (q := 212) E.x dL_isRefused_211 rv_ki1 rfl ?_
          refine rv_iadd (q := 213) E.x dL_isRefused_212 rfl ?_
          refine rv_wk [true, false, true, true, true, true, true, false, true, true, true, false, false, false, false] ?_
          exact bp_isRefused_213 E A g15 M18 x3 x4 x5 x6 x8 s0 r2 (r17 + 1)
      · refine rv_wk [true, false, false, true, true, true, true, false, true, true, true, false, false, false, false] ?_
        refine rv_wd 108 6780 (Nat.le_of_ble_eq_true rfl) (Nat.le_of_ble_eq_true rfl) ?_
        exact bp_isRefused_972 E A g15 M14 x3 x4 x5 x6 x8 s0 r2
    · refine rv_wk [true, false, false, true, true, true, true, false, true, true, true, false, false, false, false] ?_
      refine rv_wd 108 6780 (Nat.le_of_ble_eq_true rfl) (Nat.le_of_ble_eq_true rfl) ?_
      exact bp_isRefused_972 E A g11 M10 x3 x4 x5 x6 x8 s0 r2
  · refine rv_wk [true, false, false, true, true, true, true, false, true, true, true, false, false, false, false] ?_
    refine rv_wd 108 6780 (Nat.le_of_ble_eq_true rfl) (Nat.le_of_ble_eq_true rfl) ?_
    exact bp_isRefused_972 E A g7 M6 x3 x4 x5 x6 x8 s0 r2
set_option maxRecDepth 100000 in
theorem bp_isRefused_107 {p : Program} {l : Launch} {e : Env} {s : State} {m : MethodId} {args : Array Value} {below : List Frame} {meth : Method} {c : Code} {D : va_G} {cI cZ cO : ClassId} {mi de z0 o b L : Nat} {k : Nat → Nat} {xs : Nat → Int32} (E : lk_E D cI cZ cO mi de z0 b L k xs cL_isRefused 15 (some .boolean) p l s m args meth c) (A : rv_Mem)   : ∀ (gh : rC_gh) (M : rv_Mem) (x3 : Int32) (x4 : Bool) (x5 : Int32) (x6 : Int32) (x7 : Int32) (s0 : Int32), rv_M (lk_G D cI cZ cO de z0 o k) (fun q => z0 ≤ q) p l e rmp_isRefused s m args below meth c 0 0 (lk_qWZ D cI cZ cO de z0 o k A below args s 511 24390) (gp_isRefused_107 A gh M x3 x4 x5 x6 x7 s0) 107 [some (.ref o), none, some (.ref (k 2)), some (.int x3), some (.int (rv_i x4)), some (.int x5), some (.int x6), some (.int x7), none, none, none, none, none, none, none] [.int s0] (gh, M, A) := by
  intro gh M x3 x4 x5 x6 x7 s0
  unfold gp_isRefused_107
  refine rv_istore (q := 109) (lv' := [_, _, _, _, _, _, _, _, _, _, _, _, _, _, _]) E.x dL_isRefused_107 (Nat.le_of_ble_eq_true rfl) rfl rfl rfl ?_
  refine rv_iload (q := 111) E.x dL_isRefused_109 rfl rfl ?_
  refine rv_ifz_eq (q := 114) (tgt := 123) E.x dL_isRefused_111 (by decide) rfl ?_ ?_
  · refine rv_iconst (q := 115) E.x dL_isRefused_114 rv_kim1 rfl ?_
    refine rv_iload_n (q := 116) E.x dL_isRefused_115 rfl rfl ?_
    refine rv_bipush (q := 118) E.x dL_isRefused_116 rv_kb30 rfl ?_
    refine rv_irem (q := 119) E.x dL_isRefused_118 (by decide) rfl ?_
    refine rv_isub (q := 120) E.x dL_isRefused_119 rfl ?_
    refine rv_goto (q := 129) E.x dL_isRefused_120 (by decide) ?_
    refine rv_wk [true, false, true, true, true, true, true, true, true, false, false, false, false, false, false] ?_
    exact bp_isRefused_129 E A gh M x3 x4 x5 x6 x7 s0 ((-1) - (x3 - x3 / 30 * 30))
  · refine rv_iconst (q := 124) E.x dL_isRefused_123 rv_ki2 rfl ?_
    refine rv_iload_n (q := 125) E.x dL_isRefused_124 rfl rfl ?_
    refine rv_bipush (q := 127) E.x dL_isRefused_125 rv_kb30 rfl ?_
    refine rv_irem (q := 128) E.x dL_isRefused_127 (by decide) rfl ?_
    refine rv_iadd (q := 129) E.x dL_isRefused_128 rfl ?_
    refine rv_wk [true, false, true, true, true, true, true, true, true, false, false, false, false, false, false] ?_
    exact bp_isRefused_129 E A gh M x3 x4 x5 x6 x7 s0 (2 + (x3 - x3 / 30 * 30))
set_option maxRecDepth 100000 in
theorem bp_isRefused_85 {p : Program} {l : Launch} {e : Env} {s : State} {m : MethodId} {args : Array Value} {below : List Frame} {meth : Method} {c : Code} {D : va_G} {cI cZ cO : ClassId} {mi de z0 o b L : Nat} {k : Nat → Nat} {xs : Nat → Int32} (E : lk_E D cI cZ cO mi de z0 b L k xs cL_isRefused 15 (some .boolean) p l s m args meth c) (A : rv_Mem)   : ∀ (gh : rC_gh) (M : rv_Mem) (x3 : Int32) (x4 : Bool) (x5 : Int32) (x6 : Int32) (s0 : Int32), rv_M (lk_G D cI cZ cO de z0 o k) (fun q => z0 ≤ q) p l e rmp_isRefused s m args below meth c 0 0 (lk_qWZ D cI cZ cO de z0 o k A below args s 511 24390) (gp_isRefused_85 A gh M x3 x4 x5 x6 s0) 85 [some (.ref o), none, some (.ref (k 2)), some (.int x3), some (.int (rv_i x4)), some (.int x5), some (.int x6), none, none, none, none, none, none, none, none] [.int s0] (gh, M, A) := by
  intro gh M x3 x4 x5 x6 s0
  unfold gp_isRefused_85
  refine rv_istore (q := 87) (lv' := [_, _, _, _, _, _, _, _, _, _, _, _, _, _, _]) E.x dL_isRefused_85 (Nat.le_of_ble_eq_true rfl) rfl rfl rfl ?_
  refine rv_iload (q := 89) E.x dL_isRefused_87 rfl rfl ?_
  refine rv_ifz_eq (q := 92) (tgt := 101) E.x dL_isRefused_89 (by decide) rfl ?_ ?_
  · refine rv_iconst (q := 93) E.x dL_isRefused_92 rv_kim1 rfl ?_
    refine rv_iload_n (q := 94) E.x dL_isRefused_93 rfl rfl ?_
    refine rv_bipush (q := 96) E.x dL_isRefused_94 rv_kb30 rfl ?_
    refine rv_irem (q := 97) E.x dL_isRefused_96 (by decide) rfl ?_
    refine rv_isub (q := 98) E.x dL_isRefused_97 rfl ?_
    refine rv_goto (q := 107) E.x dL_isRefused_98 (by decide) ?_
    refine rv_wk [true, false, true, true, true, true, true, true, false, false, false, false, false, false, false] ?_
    exact bp_isRefused_107 E A gh M x3 x4 x5 x6 s0 ((-1) - (x3 - x3 / 30 * 30))
  · refine rv_iconst (q := 102) E.x dL_isRefused_101 rv_ki4 rfl ?_
    refine rv_iload_n (q := 103) E.x dL_isRefused_102 rfl rfl ?_
    refine rv_bipush (q := 105) E.x dL_isRefused_103 rv_kb30 rfl ?_
    refine rv_irem (q := 106) E.x dL_isRefused_105 (by decide) rfl ?_
    refine rv_iadd (q := 107) E.x dL_isRefused_106 rfl ?_
    refine rv_wk [true, false, true, true, true, true, true, true, false, false, false, false, false, false, false] ?_
    exact bp_isRefused_107 E A gh M x3 x4 x5 x6 s0 (4 + (x3 - x3 / 30 * 30))
set_option maxRecDepth 100000 in
theorem bp_isRefused_59 {p : Program} {l : Launch} {e : Env} {s : State} {m : MethodId} {args : Array Value} {below : List Frame} {meth : Method} {c : Code} {D : va_G} {cI cZ cO : ClassId} {mi de z0 o b L : Nat} {k : Nat → Nat} {xs : Nat → Int32} (E : lk_E D cI cZ cO mi de z0 b L k xs cL_isRefused 15 (some .boolean) p l s m args meth c) (A : rv_Mem)   : ∀ (gh : rC_gh) (M : rv_Mem) (x3 : Int32) (x4 : Bool) (x5 : Int32) (s0 : Int32), rv_M (lk_G D cI cZ cO de z0 o k) (fun q => z0 ≤ q) p l e rmp_isRefused s m args below meth c 0 0 (lk_qWZ D cI cZ cO de z0 o k A below args s 511 24390) (gp_isRefused_59 A gh M x3 x4 x5 s0) 59 [some (.ref o), none, some (.ref (k 2)), some (.int x3), some (.int (rv_i x4)), some (.int x5), none, none, none, none, none, none, none, none, none] [.int s0] (gh, M, A) := by
  intro gh M x3 x4 x5 s0
  unfold gp_isRefused_59
  refine rv_istore (q := 61) (lv' := [_, _, _, _, _, _, _, _, _, _, _, _, _, _, _]) E.x dL_isRefused_59 (Nat.le_of_ble_eq_true rfl) rfl rfl rfl ?_
  refine rv_iload (q := 63) E.x dL_isRefused_61 rfl rfl ?_
  refine rv_ifz_eq (q := 66) (tgt := 76) E.x dL_isRefused_63 (by decide) rfl ?_ ?_
  · refine rv_bipush (q := 68) E.x dL_isRefused_66 rv_kbm2 rfl ?_
    refine rv_iload_n (q := 69) E.x dL_isRefused_68 rfl rfl ?_
    refine rv_bipush (q := 71) E.x dL_isRefused_69 rv_kb30 rfl ?_
    refine rv_irem (q := 72) E.x dL_isRefused_71 (by decide) rfl ?_
    refine rv_isub (q := 73) E.x dL_isRefused_72 rfl ?_
    refine rv_goto (q := 85) E.x dL_isRefused_73 (by decide) ?_
    refine rv_wk [true, false, true, true, true, true, true, false, false, false, false, false, false, false, false] ?_
    exact bp_isRefused_85 E A gh M x3 x4 x5 s0 ((-2) - (x3 - x3 / 30 * 30))
  · refine rv_aload_n (q := 77) E.x dL_isRefused_76 rfl rfl ?_
    refine rv_b1 (fun r2 e1 => ?_)
    refine lk_cn (q := 80) (v := r2) (M1 := M) E (fun u hI => c11_commits hI e1) gP_181 hX11_commits ⟨rfl, rfl⟩ ⟨Nat.le_of_ble_eq_true rfl, Nat.le_of_ble_eq_true rfl⟩ ⟨Nat.le_of_ble_eq_true rfl, Nat.le_of_ble_eq_true rfl⟩ rfl rfl rfl (Nat.le_of_ble_eq_true rfl) dL_isRefused_77 rfl ?_
    refine rv_iload_n (q := 81) E.x dL_isRefused_80 rfl rfl ?_
    refine rv_bipush (q := 83) E.x dL_isRefused_81 rv_kb30 rfl ?_
    refine rv_irem (q := 84) E.x dL_isRefused_83 (by decide) rfl ?_
    refine rv_iadd (q := 85) E.x dL_isRefused_84 rfl ?_
    refine rv_wk [true, false, true, true, true, true, true, false, false, false, false, false, false, false, false] ?_
    exact bp_isRefused_85 E A gh M x3 x4 x5 s0 (r2 + (x3 - x3 / 30 * 30))
set_option maxRecDepth 100000 in
theorem bp_isRefused_34 {p : Program} {l : Launch} {e : Env} {s : State} {m : MethodId} {args : Array Value} {below : List Frame} {meth : Method} {c : Code} {D : va_G} {cI cZ cO : ClassId} {mi de z0 o b L : Nat} {k : Nat → Nat} {xs : Nat → Int32} (E : lk_E D cI cZ cO mi de z0 b L k xs cL_isRefused 15 (some .boolean) p l s m args meth c) (A : rv_Mem)   : ∀ (gh : rC_gh) (M : rv_Mem) (x3 : Int32) (x4 : Bool) (s0 : Int32), rv_M (lk_G D cI cZ cO de z0 o k) (fun q => z0 ≤ q) p l e rmp_isRefused s m args below meth c 0 0 (lk_qWZ D cI cZ cO de z0 o k A below args s 511 24390) (gp_isRefused_34 A gh M x3 x4 s0) 34 [some (.ref o), none, some (.ref (k 2)), some (.int x3), some (.int (rv_i x4)), none, none, none, none, none, none, none, none, none, none] [.int s0] (gh, M, A) := by
  intro gh M x3 x4 s0
  unfold gp_isRefused_34
  refine rv_istore (q := 36) (lv' := [_, _, _, _, _, _, _, _, _, _, _, _, _, _, _]) E.x dL_isRefused_34 (Nat.le_of_ble_eq_true rfl) rfl rfl rfl ?_
  refine rv_iload (q := 38) E.x dL_isRefused_36 rfl rfl ?_
  refine rv_ifz_eq (q := 41) (tgt := 50) E.x dL_isRefused_38 (by decide) rfl ?_ ?_
  · refine rv_iconst (q := 42) E.x dL_isRefused_41 rv_kim1 rfl ?_
    refine rv_iload_n (q := 43) E.x dL_isRefused_42 rfl rfl ?_
    refine rv_bipush (q := 45) E.x dL_isRefused_43 rv_kb30 rfl ?_
    refine rv_irem (q := 46) E.x dL_isRefused_45 (by decide) rfl ?_
    refine rv_isub (q := 47) E.x dL_isRefused_46 rfl ?_
    refine rv_goto (q := 59) E.x dL_isRefused_47 (by decide) ?_
    refine rv_wk [true, false, true, true, true, true, false, false, false, false, false, false, false, false, false] ?_
    exact bp_isRefused_59 E A gh M x3 x4 s0 ((-1) - (x3 - x3 / 30 * 30))
  · refine rv_aload_n (q := 51) E.x dL_isRefused_50 rfl rfl ?_
    refine rv_b1 (fun r2 e1 => ?_)
    refine lk_cn (q := 54) (v := r2) (M1 := M) E (fun u hI => c11_changes hI e1) gP_187 hX11_changes ⟨rfl, rfl⟩ ⟨Nat.le_of_ble_eq_true rfl, Nat.le_of_ble_eq_true rfl⟩ ⟨Nat.le_of_ble_eq_true rfl, Nat.le_of_ble_eq_true rfl⟩ rfl rfl rfl (Nat.le_of_ble_eq_true rfl) dL_isRefused_51 rfl ?_
    refine rv_iload_n (q := 55) E.x dL_isRefused_54 rfl rfl ?_
    refine rv_bipush (q := 57) E.x dL_isRefused_55 rv_kb30 rfl ?_
    refine rv_irem (q := 58) E.x dL_isRefused_57 (by decide) rfl ?_
    refine rv_iadd (q := 59) E.x dL_isRefused_58 rfl ?_
    refine rv_wk [true, false, true, true, true, true, false, false, false, false, false, false, false, false, false] ?_
    exact bp_isRefused_59 E A gh M x3 x4 s0 (r2 + (x3 - x3 / 30 * 30))
set_option maxRecDepth 100000 in
theorem bp_isRefused_11 {p : Program} {l : Launch} {e : Env} {s : State} {m : MethodId} {args : Array Value} {below : List Frame} {meth : Method} {c : Code} {D : va_G} {cI cZ cO : ClassId} {mi de z0 o b L : Nat} {k : Nat → Nat} {xs : Nat → Int32} (E : lk_E D cI cZ cO mi de z0 b L k xs cL_isRefused 15 (some .boolean) p l s m args meth c) (A : rv_Mem)   : ∀ (gh : rC_gh) (M : rv_Mem) (x3 : Int32) (s0 : Bool), rv_M (lk_G D cI cZ cO de z0 o k) (fun q => z0 ≤ q) p l e rmp_isRefused s m args below meth c 0 0 (lk_qWZ D cI cZ cO de z0 o k A below args s 511 24390) (gp_isRefused_11 A gh M x3 s0) 11 [some (.ref o), none, some (.ref (k 2)), some (.int x3), none, none, none, none, none, none, none, none, none, none, none] [.int (rv_i s0)] (gh, M, A) := by
  intro gh M x3 s0
  unfold gp_isRefused_11
  refine rv_istore (q := 13) (lv' := [_, _, _, _, _, _, _, _, _, _, _, _, _, _, _]) E.x dL_isRefused_11 (Nat.le_of_ble_eq_true rfl) rfl rfl rfl ?_
  refine rv_iload (q := 15) E.x dL_isRefused_13 rfl rfl ?_
  refine rv_ifz_eq (q := 18) (tgt := 27) E.x dL_isRefused_15 (by decide) rfl ?_ ?_
  · refine rv_iconst (q := 19) E.x dL_isRefused_18 rv_kim1 rfl ?_
    refine rv_iload_n (q := 20) E.x dL_isRefused_19 rfl rfl ?_
    refine rv_bipush (q := 22) E.x dL_isRefused_20 rv_kb30 rfl ?_
    refine rv_irem (q := 23) E.x dL_isRefused_22 (by decide) rfl ?_
    refine rv_isub (q := 24) E.x dL_isRefused_23 rfl ?_
    refine rv_goto (q := 34) E.x dL_isRefused_24 (by decide) ?_
    refine rv_wk [true, false, true, true, true, false, false, false, false, false, false, false, false, false, false] ?_
    exact bp_isRefused_34 E A gh M x3 s0 ((-1) - (x3 - x3 / 30 * 30))
  · refine rv_bipush (q := 29) E.x dL_isRefused_27 rv_kb6 rfl ?_
    refine rv_iload_n (q := 30) E.x dL_isRefused_29 rfl rfl ?_
    refine rv_bipush (q := 32) E.x dL_isRefused_30 rv_kb30 rfl ?_
    refine rv_irem (q := 33) E.x dL_isRefused_32 (by decide) rfl ?_
    refine rv_iadd (q := 34) E.x dL_isRefused_33 rfl ?_
    refine rv_wk [true, false, true, true, true, false, false, false, false, false, false, false, false, false, false] ?_
    exact bp_isRefused_34 E A gh M x3 s0 (6 + (x3 - x3 / 30 * 30))
set_option maxRecDepth 100000 in
theorem bp_isRefused {p : Program} {l : Launch} {e : Env} {s : State} {m : MethodId} {args : Array Value} {below : List Frame} {meth : Method} {c : Code} {D : va_G} {cI cZ cO : ClassId} {mi de z0 o b L : Nat} {k : Nat → Nat} {xs : Nat → Int32} (E : lk_E D cI cZ cO mi de z0 b L k xs cL_isRefused 15 (some .boolean) p l s m args meth c) (gh : rC_gh) (M A : rv_Mem) (a4 : Int32) : rv_M (lk_G D cI cZ cO de z0 o k) (fun q => z0 ≤ q) p l e rmp_isRefused s m args below meth c 0 0 (lk_qWZ D cI cZ cO de z0 o k A below args s 511 24390) (gp_isRefused gh M A a4) 0 [some (.ref o), some (.ref (k 0)), some (.ref (k 2)), some (.int a4), none, none, none, none, none, none, none, none, none, none, none] [] (gh, M, A) := by
  unfold gp_isRefused
  refine rv_iload_n (q := 1) E.x dL_isRefused_0 rfl rfl ?_
  refine rv_iconst (q := 2) E.x dL_isRefused_1 rv_ki2 rfl ?_
  refine rv_irem (q := 3) E.x dL_isRefused_2 (by decide) rfl ?_
  refine rv_if_ne (q := 6) (tgt := 10) E.x dL_isRefused_3 (by decide) rfl ?_ ?_
  · refine rv_iconst (q := 7) E.x dL_isRefused_6 rv_ki1 rfl ?_
    refine rv_goto (q := 11) E.x dL_isRefused_7 (by decide) ?_
    refine rv_wk [true, false, true, true, false, false, false, false, false, false, false, false, false, false, false] ?_
    exact bp_isRefused_11 E A gh M a4 true
  · refine rv_iconst (q := 11) E.x dL_isRefused_10 rv_ki0 rfl ?_
    refine rv_wk [true, false, true, true, false, false, false, false, false, false, false, false, false, false, false] ?_
    exact bp_isRefused_11 E A gh M a4 false
theorem wP_isRefused {l : Launch} {D : va_G} {cI cZ cO : ClassId} {mi de z0 o b L : Nat} {k : Nat → Nat} {xs : Nat → Int32} (S : lk_S l de z0 b k) {gh : rC_gh} {M A : rv_Mem} {a4 : Int32} {r : Bool} {gh1 : rC_gh} {M1 : rv_Mem} (h : gp_isRefused gh M A a4 = some (r, gh1, M1)) : Met l yL_isRefused (rv_ws yL_isRefused cL_isRefused 15 (some .boolean)) rmp_isRefused (va_Pc [.ref o, .ref (k 0), .ref (k 2), .int a4] (lk_P D cI cZ cO mi de z0 o b L k xs (gh, M, A))) (lk_qi D cI cZ cO de z0 o k (rv_i r) (gh1, M1, A)) 511 24390 (fun q => z0 ≤ q) := lk_met S rfl (Nat.le_of_ble_eq_true rfl) (fun p e s m args below meth c E => ⟨(lk_qWZ D cI cZ cO de z0 o k A below args s 511 24390), rfl, bp_isRefused E gh M A a4⟩) h
