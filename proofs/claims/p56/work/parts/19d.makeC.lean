/-! MAKING: what a constructor makes lies one behind the other from its own object on -/
theorem wK_arrI : Cond.arrayClass .int ∈ rv_AL := rv_al (rv_t1 (List.mem_of_getElem? (i := 84) rfl)) rfl
theorem wK_arrZ : Cond.arrayClass .boolean ∈ rv_AL := rv_al (rv_t1 (List.mem_of_getElem? (i := 198) rfl)) rfl
theorem wK_oi : Cond.instanceMethod Lib.objectInit ∈ rv_AL := rv_al (rv_t1 (List.mem_of_getElem? (i := 35) rfl)) rfl
theorem wK_oc : Cond.code Lib.objectInit ⟨#[0xb1]⟩ 1 none ∈ rv_AL := rv_al (rv_t1 (List.mem_of_getElem? (i := 36) rfl)) rfl
abbrev rK_mu : Type := List Value × List va_E
def rK_N (U : State) : Prop := va_Nw (.methodLinkNest RX2 11 yX3_init "ReviewForge") U ∧ va_Nw (.methodLinkNest RX11 41 yX6_init "ReviewForge") U
def rK_X (D : va_G) (cI cZ cO : ClassId) (de : Nat) (A : Nat → Prop) (U : State) (H : Heap) : Prop := va_K D vwCl [(cI, .int), (cZ, .boolean), (cO, .object "java/lang/Object")] U ∧ va_Z RJx4a65c "DEFAULTCAPACITY_EMPTY_ELEMENTDATA" "[Ljava/lang/Object;" (.ref de) A U H ∧ rK_N U
def rK_W (D : va_G) (b ci : Nat) (M : rK_mu) (H : Heap) : Prop := H.size = b + 1 + M.2.length ∧ va_at D vwCl (b, .inr (ci, M.1)) H ∧ ∀ (i : Nat) (x : va_E), M.2[i]? = some x → va_at D vwCl (b + 1 + i, x) H
def rK_G (D : va_G) (H0 : Heap) (b ci : Nat) (M : rK_mu) (H : Heap) : Prop := rK_W D b ci M H ∧ ∀ q : Nat, q < b → H[q]? = H0[q]?
def rK_P (D : va_G) (cI cZ cO : ClassId) (de b ci : Nat) (M : rK_mu) (U : State) : Prop := rK_X D cI cZ cO de (fun q => b ≤ q) U U.heap ∧ rK_W D b ci M U.heap
def rK_Q (D : va_G) (b ci : Nat) (M : rK_mu) : Array Value → State → Outcome → State → Prop := va_Qv (fun (_ : Unit) => True) (fun _ t => rK_W D b ci M t.heap) (fun q => b ≤ q)
def rK_E (D : va_G) (cI cZ cO : ClassId) (de b : Nat) (A : Nat → Prop) (own : String) (cc : ByteArray) (nL : Nat) (p : Program) (s : State) (m : MethodId) (args : Array Value) (c : Code) : Prop := CallFix p m c cc nL s args rv_AL own ∧ rK_X D cI cZ cO de A s s.heap ∧ ∀ q, b ≤ q → A q
theorem rK_P.bl {D : va_G} {cI cZ cO : ClassId} {de b ci : Nat} {M : rK_mu} {av : List Value} : FrameBlind (va_Pc av (rK_P D cI cZ cO de b ci M)) := fun a U g mk hq => ⟨hq.1, ⟨va_K.moved (u := U) (U := U.calling g mk a) (Vm.Alike.refl U.vm) hq.2.1.1, va_Z.moved (u := U) (U := U.calling g mk a) (Vm.Alike.refl U.vm) hq.2.1.2.1, hq.2.1.2.2.1.same rfl rfl, hq.2.1.2.2.2.same rfl rfl⟩, hq.2.2⟩
theorem rK_P.go {D : va_G} {cI cZ cO : ClassId} {de b2 ci : Nat} {M : rK_mu} {A : Nat → Prop} {s U : State} {H : Heap} {locs : List Loc} (hU : U.heap = H) (hW : s.WarmedH U.vm) (hX : rK_X D cI cZ cO de A s s.heap) (hS : va_S A s.heap H locs) (hA : ∀ q, b2 ≤ q → A q) (h : rK_W D b2 ci M H) : rK_P D cI cZ cO de b2 ci M U := by
  subst hU
  exact ⟨⟨va_K.moved hW.alike hX.1, va_Z.moved hW.alike ((hX.2.1.kept hS.2.1).narrow hA), hX.2.2.1.warmM hW, hX.2.2.2.warmM hW⟩, h⟩
theorem rK_join {D : va_G} {b : Nat} {ws w1 : List va_E} {H : Heap} (h1 : ∀ (i : Nat) (x : va_E), ws[i]? = some x → va_at D vwCl (b + 1 + i, x) H) (h2 : ∀ (j : Nat) (y : va_E), w1[j]? = some y → va_at D vwCl (b + 1 + ws.length + j, y) H) : ∀ (i : Nat) (x : va_E), (ws ++ w1)[i]? = some x → va_at D vwCl (b + 1 + i, x) H := by
  intro i x hx
  by_cases hi : i < ws.length
  · rw [List.getElem?_append_left hi] at hx
    exact h1 i x hx
  · rw [List.getElem?_append_right (by omega)] at hx
    have h := h2 _ _ hx
    rwa [show b + 1 + ws.length + (i - ws.length) = b + 1 + i by omega] at h
section RK
variable {p : Program} {l : Launch} {e : Env} {R : Room} {s : State} {m : MethodId} {args : Array Value} {below : List Frame} {meth : Method} {c : Code} {cells slots : Nat}
variable {ρ : Type} {D : va_G} {cI cZ cO : ClassId} {de b ci : Nat} {H0 : Heap} {A : Nat → Prop} {own : String} {Q : ρ → State → Prop}
variable {cc : ByteArray} {nL pc q : Nat} {lv : List (Option Value)} {st : List Value} {fs : List Value} {ws : List va_E} {t : Option ρ}
theorem rK_E.x (E : rK_E D cI cZ cO de b A own cc nL p s m args c) : rv_E p c cc := ⟨E.1.1, E.1.2.1⟩
theorem rK_E.hts (E : rK_E D cI cZ cO de b A own cc nL p s m args c) : ∀ w ∈ rv_AL, w.before args s = true := E.1.2.2.2.2
theorem rK_E.ow (E : rK_E D cI cZ cO de b A own cc nL p s m args c) : s.vm.findClass own = some m.cls := E.1.2.2.2.1
theorem rK_push {H H1 : Heap} {w1 : List va_E} {locs : List Loc} (hG : rK_G D H0 b ci (fs, ws) H) (hs : H1.size = b + 1 + ws.length + w1.length) (ho : ∀ q : Nat, q < H.size → H1[q]? = H[q]?) (hn : ∀ (j : Nat) (y : va_E), w1[j]? = some y → va_at D vwCl (b + 1 + ws.length + j, y) H1) : rK_G D H0 b ci (fs, ws ++ w1) H1 := by
  obtain ⟨⟨z, h1, h2⟩, h3⟩ := hG
  refine ⟨⟨by show H1.size = b + 1 + (ws ++ w1).length; rw [List.length_append]; omega, h1.kept (ho _ h1.lt), rK_join (fun i x hx => (h2 i x hx).kept (ho _ (h2 i x hx).lt)) hn⟩, fun q hq => ?_⟩
  rw [ho q (by have : H.size = b + 1 + ws.length := z; omega)]
  exact h3 q hq
theorem rK_one {P : va_E → Nat → Prop} {x : va_E} (h : P x 0) : ∀ (j : Nat) (y : va_E), [x][j]? = some y → P y j := fun j y hy => by
  match j, hy with
  | 0, hy => cases hy; exact h
  | j + 1, hy => simp at hy
theorem rK_newI (E : rK_E D cI cZ cO de b A own cc nL p s m args c) {n : Int32} {N k : Nat} (hn : ¬ n < 0) (hN : n.toNatClampNeg = N) (hk : ws.length = k) (hb9 : N * componentBytes .int ≤ 536870912) (hc : cells + 1 ≤ R.cells) (hs : slots + N ≤ R.slots) (d : decode cc pc = .ok (.newarray .int, 2)) (hq : pc + 2 = q) (kk : rv_M (rK_G D H0 b ci) A p l e R s m args below meth c (cells + 1) (slots + N) Q t q lv (.ref (b + 1 + k) :: st) (fs, ws ++ [.inl (cI, N, .inl (fun _ => 0))])) : rv_M (rK_G D H0 b ci) A p l e R s m args below meth c cells slots Q t pc lv (.int n :: st) (fs, ws) := by
  subst hq; subst hk
  intro res h H locs ls hG hS hl
  have z : H.size = b + 1 + ws.length := hG.1.1
  refine va_newaK (atype := .int) E.1.1 E.1.2.1 (E.hts _ wK_arrI) rfl d rfl hn hN hb9 hc hs z (fun H1 cA e1 z1 o1 hAr hNm => ?_)
  have hcA : cA = cI := Option.some.inj (hNm.symm.trans (E.2.1.1.2 0 _ rfl).2)
  subst hcA
  refine kk res h H1 locs ls (rK_push (locs := locs) hG z1 (fun q hq => o1 q (by omega)) (rK_one (P := fun y j => va_at D vwCl (b + 1 + ws.length + j, y) H1) ?_)) ⟨by have := hS.1; omega, fun q h1 h2 => (o1 q (by have := hS.1; omega)).trans (hS.2.1 q h1 h2), hS.2.2⟩ hl
  show H1[b + 1 + ws.length]? = some (vp_cell cA (N, .inl (fun _ => 0)))
  rw [vp_cell_i]
  exact e1
theorem rK_newZ (E : rK_E D cI cZ cO de b A own cc nL p s m args c) {n : Int32} {N k : Nat} (hn : ¬ n < 0) (hN : n.toNatClampNeg = N) (hk : ws.length = k) (hb9 : N * componentBytes .boolean ≤ 536870912) (hc : cells + 1 ≤ R.cells) (hs : slots + N ≤ R.slots) (d : decode cc pc = .ok (.newarray .boolean, 2)) (hq : pc + 2 = q) (kk : rv_M (rK_G D H0 b ci) A p l e R s m args below meth c (cells + 1) (slots + N) Q t q lv (.ref (b + 1 + k) :: st) (fs, ws ++ [.inl (cZ, N, .inl (fun _ => 0))])) : rv_M (rK_G D H0 b ci) A p l e R s m args below meth c cells slots Q t pc lv (.int n :: st) (fs, ws) := by
  subst hq; subst hk
  intro res h H locs ls hG hS hl
  have z : H.size = b + 1 + ws.length := hG.1.1
  refine va_newaK (atype := .boolean) E.1.1 E.1.2.1 (E.hts _ wK_arrZ) rfl d rfl hn hN hb9 hc hs z (fun H1 cA e1 z1 o1 hAr hNm => ?_)
  have hcA : cA = cZ := Option.some.inj (hNm.symm.trans (E.2.1.1.2 1 _ rfl).2)
  subst hcA
  refine kk res h H1 locs ls (rK_push (locs := locs) hG z1 (fun q hq => o1 q (by omega)) (rK_one (P := fun y j => va_at D vwCl (b + 1 + ws.length + j, y) H1) ?_)) ⟨by have := hS.1; omega, fun q h1 h2 => (o1 q (by have := hS.1; omega)).trans (hS.2.1 q h1 h2), hS.2.2⟩ hl
  show H1[b + 1 + ws.length]? = some (vp_cell cA (N, .inl (fun _ => 0)))
  rw [vp_cell_i]
  exact e1
theorem rK_putF (E : rK_E D cI cZ cO de b A own cc nL p s m args c) (hnm : meth.name = "<init>") {N idx : Nat} {C : String} {T : u_T} {ty0 : Nat → FieldType} {ty : FieldType} (j : Nat) {v : Value} (hcl : vwCl[ci]? = some (C, T, N)) (hin : ∀ w ∈ u_ws C T N, w ∈ rv_AL) (hty : ∀ k, k < N → parseFieldDescriptor (T k).2.2.1 = some (ty0 k)) (hnmT : ∀ a, a < N → ∀ b, b < N → a ≠ b → (T a).2.1 ≠ (T b).2.1) (hlk : Cond.fieldLink own idx (T j).1 (T j).2.1 (T j).2.2.1 ∈ rv_AL) (hfin : (T j).2.2.2 = true) (hdecl : (T j).1 = own) (hj : j < N) (hd : parseFieldDescriptor (T j).2.2.1 = some ty) (hn : narrow ty v = v) (hfit : fits ty v = true) (hlen : j < fs.length) (d : decode cc pc = .ok (.putfield idx, 3)) (hq : pc + 3 = q) (kk : rv_M (rK_G D H0 b ci) A p l e R s m args below meth c cells slots Q t q lv st (fs.set j v, ws)) : rv_M (rK_G D H0 b ci) A p l e R s m args below meth c cells slots Q t pc lv (v :: .ref b :: st) (fs, ws) := by
  subst hq
  intro res h H locs ls hG hS hl
  obtain ⟨⟨z, hat, hws⟩, h3⟩ := hG
  have hts := E.hts
  have hown := E.ow
  have hK := E.2.1.1
  have hap := va_apart (own := own) hts hin ty0 hty hnmT hK (ci := ci) hcl
  obtain ⟨r, h1, cell, q1, q2, q3, q4⟩ := hat
  have hr : r = (C, T, N) := Option.some.inj (h1.symm.trans hcl)
  subst hr
  obtain ⟨hSl, hfc, kC, hkC, hkind⟩ := hK.1 ci _ hcl
  obtain ⟨cf, kf, fi, f, hi, hsl⟩ := hSl j hj
  have hlay := hts _ (hin _ (u_in_lay hj))
  unfold u_lay at hlay
  rw [if_pos hfin] at hlay
  have hst := (u_facts hfc hkC (u_lays hts hin hj) hi).1
  have hcf : m.cls = cf := by
    obtain ⟨_, _, c', _, _, _, -, -, hf', -, -, -, hown2, -⟩ := Cond.laysFinal_spec hlay
    have e1 : c' = cf := by have := hi.symm.trans hf'; simp at this; exact this.1.symm
    rw [hdecl] at hown2
    rw [← e1]; exact Option.some.inj (hown.symm.trans hown2)
  have h6 := u_fits hfc hkC hkind (Or.inr hlay) hi hd hn hfit
  refine W.putFinK E.1.1 E.1.2.1 hown (hts _ hlk) hi hst hcf hnm (by rw [q2]; exact h6) q1 q3 (by rw [hsl]; exact k2_hasslot (q4 j hj)) rfl rfl d fun H' e1 e2 e3 => ?_
  rw [hsl] at e1 ⊢
  refine kk res h H' _ ls ⟨⟨e2.trans z, ⟨_, hcl, t_OB.to (V := updV (vp_V fs) j v) ⟨_, e1, q2, q3, t_set q4 hap hj v⟩ (fun i _ => vp_updV_set hlen v i)⟩, fun i x hx => (hws i x hx).kept (e3 _ (by show b + 1 + i ≠ b; omega))⟩, fun q hq => (e3 q (Nat.ne_of_lt hq)).trans (h3 q hq)⟩ (hS.put e2 e3 (E.2.2 b (Nat.le_refl b))) hl
theorem rK_putN (E : rK_E D cI cZ cO de b A own cc nL p s m args c) {N idx : Nat} {C : String} {T : u_T} {ty0 : Nat → FieldType} {ty : FieldType} (j : Nat) {v : Value} (hcl : vwCl[ci]? = some (C, T, N)) (hin : ∀ w ∈ u_ws C T N, w ∈ rv_AL) (hty : ∀ k, k < N → parseFieldDescriptor (T k).2.2.1 = some (ty0 k)) (hnmT : ∀ a, a < N → ∀ b, b < N → a ≠ b → (T a).2.1 ≠ (T b).2.1) (hlk : Cond.fieldLink own idx (T j).1 (T j).2.1 (T j).2.2.1 ∈ rv_AL) (hfin : (T j).2.2.2 = false) (hj : j < N) (hd : parseFieldDescriptor (T j).2.2.1 = some ty) (hn : narrow ty v = v) (hfit : fits ty v = true) (hlen : j < fs.length) (d : decode cc pc = .ok (.putfield idx, 3)) (hq : pc + 3 = q) (kk : rv_M (rK_G D H0 b ci) A p l e R s m args below meth c cells slots Q t q lv st (fs.set j v, ws)) : rv_M (rK_G D H0 b ci) A p l e R s m args below meth c cells slots Q t pc lv (v :: .ref b :: st) (fs, ws) := by
  subst hq
  intro res h H locs ls hG hS hl
  obtain ⟨⟨z, hat, hws⟩, h3⟩ := hG
  have hts := E.hts
  have hown := E.ow
  have hK := E.2.1.1
  have hap := va_apart (own := own) hts hin ty0 hty hnmT hK (ci := ci) hcl
  obtain ⟨r, h1, cell, q1, q2, q3, q4⟩ := hat
  have hr : r = (C, T, N) := Option.some.inj (h1.symm.trans hcl)
  subst hr
  obtain ⟨hSl, hfc, kC, hkC, hkind⟩ := hK.1 ci _ hcl
  obtain ⟨cf, kf, fi, f, hi, hsl⟩ := hSl j hj
  have hlay := hts _ (hin _ (u_in_lay hj))
  unfold u_lay at hlay
  rw [if_neg (by rw [hfin]; decide)] at hlay
  have hst := (u_facts hfc hkC (u_lays hts hin hj) hi).1
  have h6 := u_store hfc hkC hkind hlay hi hd hn hfit
  refine W.putK E.1.1 E.1.2.1 (f := f) ⟨hown, hts _ hlk, ⟨_, _, _, hi⟩, hst⟩ (by rw [q2]; exact h6) q1 q3 (by rw [hsl]; exact k2_hasslot (q4 j hj)) rfl rfl d fun H' e1 e2 e3 => ?_
  rw [hsl] at e1 ⊢
  refine kk res h H' _ ls ⟨⟨e2.trans z, ⟨_, hcl, t_OB.to (V := updV (vp_V fs) j v) ⟨_, e1, q2, q3, t_set q4 hap hj v⟩ (fun i _ => vp_updV_set hlen v i)⟩, fun i x hx => (hws i x hx).kept (e3 _ (by show b + 1 + i ≠ b; omega))⟩, fun q hq => (e3 q (Nat.ne_of_lt hq)).trans (h3 q hq)⟩ (hS.put e2 e3 (E.2.2 b (Nat.le_refl b))) hl
theorem rK_getS (E : rK_E D cI cZ cO de b A own cc nL p s m args c) {N idx : Nat} {C : String} {T : u_T} (j : Nat) {v : Value} (hcl : vwCl[ci]? = some (C, T, N)) (hin : ∀ w ∈ u_ws C T N, w ∈ rv_AL) (hlk : Cond.fieldLink own idx (T j).1 (T j).2.1 (T j).2.2.1 ∈ rv_AL) (hj : j < N) (hv : fs[j]? = some v) (d : decode cc pc = .ok (.getfield idx, 3)) (hq : pc + 3 = q) (kk : rv_M (rK_G D H0 b ci) A p l e R s m args below meth c cells slots Q t q lv (v :: st) (fs, ws)) : rv_M (rK_G D H0 b ci) A p l e R s m args below meth c cells slots Q t pc lv (.ref b :: st) (fs, ws) := by
  subst hq
  intro res h H locs ls hG hS hl
  exact va_get (D := D) (ci := ci) (C := C) (T := T) (N := N) E.1.1 E.1.2.1 E.hts hin E.ow E.2.1.1 (rJ_1 hG.1.2.1) 0 rfl hcl j hj (E.hts _ hlk) (fun x hx => hx) hv d (kk res h H locs ls hG hS hl)
theorem rK_static (E : rK_E D cI cZ cO de b A RJx4a65c cc nL p s m args c) (d : decode cc pc = .ok (.getstatic 39, 3)) (hq : pc + 3 = q) (kk : rv_M (rK_G D H0 b ci) A p l e R s m args below meth c cells slots Q t q lv (.ref de :: st) (fs, ws)) : rv_M (rK_G D H0 b ci) A p l e R s m args below meth c cells slots Q t pc lv st (fs, ws) := by
  subst hq
  intro res h H locs ls hG hS hl
  exact va_gets E.1.1 E.1.2.1 E.2.1.2.1 hS E.ow (E.hts _ wJa_39) (fun x hx => hx) d (kk res h H locs ls hG hS hl)
theorem rK_new (E : rK_E D cI cZ cO de b A own cc nL p s m args c) {N idx k ci2 : Nat} {C : String} {T : u_T} {ty0 : Nat → FieldType} {f2 : List Value} (hcl : vwCl[ci2]? = some (C, T, N)) (hin : ∀ w ∈ u_ws C T N, w ∈ rv_AL) (hty : ∀ k, k < N → parseFieldDescriptor (T k).2.2.1 = some (ty0 k)) (hcl9 : Cond.classLink own idx C ∈ rv_AL) (hin9 : Cond.instantiable C N ∈ rv_AL) (hini : Cond.initialized C ∈ rv_AL) (hfs : ∀ j, j < N → defaultValue (ty0 j) = vp_V f2 j) (hk : ws.length = k) (hc : cells + 1 ≤ R.cells) (hs : slots + N ≤ R.slots) (d : decode cc pc = .ok (.new idx, 3)) (hq : pc + 3 = q) (kk : rv_M (rK_G D H0 b ci) A p l e R s m args below meth c (cells + 1) (slots + N) Q t q lv (.ref (b + 1 + k) :: st) (fs, ws ++ [.inr (ci2, f2)])) : rv_M (rK_G D H0 b ci) A p l e R s m args below meth c cells slots Q t pc lv st (fs, ws) := by
  subst hq; subst hk
  intro res h H locs ls hG hS hl
  have hKn := E.2.1.1.1 ci2 _ hcl
  have z : H.size = b + 1 + ws.length := hG.1.1
  refine W.newcK E.1.1 E.1.2.1 E.ow (E.hts _ hcl9) (E.hts _ hin9) (E.hts _ hini) rfl d hc hs hKn.2.1 z fun H1 kC hkC e1 z1 o1 => ?_
  refine kk res h H1 locs ls (rK_push (locs := locs) hG z1 (fun q hq => o1 q (by omega)) (rK_one (P := fun y j => va_at D vwCl (b + 1 + ws.length + j, y) H1) ?_)) ⟨by have := hS.1; omega, fun q h1 h2 => (o1 q (by have := hS.1; omega)).trans (hS.2.1 q h1 h2), hS.2.2⟩ hl
  exact ⟨_, hcl, (u_born ty0 E.hts hin hKn hkC e1 hty).to hfs⟩
theorem rK_obj (E : rK_E D cI cZ cO de b A own cc nL p s m args c) {idx a : Nat} (hlk : Cond.methodLink own idx Lib.objectInit ∈ rv_AL) (hlv : lv.length = nL) (hfr : 1 ≤ R.frames) (hlo : (st.map fun v => v.category).sum + 12 ≤ R.locals) (d : decode cc pc = .ok (.invokespecial idx, 3)) (hq : pc + 3 = q) (kk : rv_M (rK_G D H0 b ci) A p l e R s m args below meth c cells slots Q t q lv st (fs, ws)) : rv_M (rK_G D H0 b ci) A p l e R s m args below meth c cells slots Q t pc lv (.ref a :: st) (fs, ws) := by
  subst hq
  intro res h H locs ls hG hS hl
  exact W.objInit E.1.1 E.1.2.1 E.ow (E.hts _ hlk) (E.hts _ wK_oi) (E.hts _ wK_oc) rfl (by show ls.size = c.maxLocals; rw [hl.1, hlv, E.1.2.2.1]) rfl d hfr (by show 2 * 0 + _ + 12 ≤ _; omega) (kk res h H locs ls hG hS hl)
theorem rK_callL (E : rK_E D cI cZ cO de b A own cc nL p s m args c) {y : MethodName} {host : String} {by_ : ByteArray} {maxL n idx k ci2 mc ms : Nat} {rm : Room} {As rest f2 f2' : List Value} {w2 : List va_E} (hM : Met l y (rv_ws y by_ maxL none) rm (va_Pc (.ref (b + 1 + k) :: As) (rK_P D cI cZ cO de (b + 1 + k) ci2 (f2, []))) (rK_Q D (b + 1 + k) ci2 (f2', w2)) mc ms (fun q => b + 1 + k ≤ q)) (hc9 : Cond.code y by_ maxL none ∈ rv_AL) (hl9 : Cond.methodLink own idx y ∈ rv_AL) (hini : Cond.initialized y.cls ∈ rv_AL) (hin9 : Cond.instanceMethod y ∈ rv_AL) (hy1 : y.name = "<init>") (hrm : rm.cells = mc ∧ rm.slots = ms) (hd : y.cls ≠ "java/lang/invoke/MethodHandle" ∧ y.cls ≠ "java/lang/invoke/VarHandle" ∧ (parseMethodDescriptor y.desc).map (fun d => d.parameters.length) = some n) (hR : rm.frames + 1 ≤ R.frames ∧ 8 + (maxL + 11) + rm.locals ≤ R.locals) (hn : As.length = n) (hlv : lv.length = nL) (hk : ws.length = k) (hst : As.reverse ++ .ref (b + 1 + k) :: rest = st) (hrs : (rest.map fun v => v.category).sum ≤ 8) (hf : cells + mc ≤ R.cells ∧ slots + ms ≤ R.slots) (d : decode cc pc = .ok (.invokespecial idx, 3)) (hq : pc + 3 = q) (kk : rv_M (rK_G D H0 b ci) A p l e R s m args below meth c (cells + mc) (slots + ms) Q t q lv rest (fs, ws ++ (.inr (ci2, f2') :: w2))) : rv_M (rK_G D H0 b ci) A p l e R s m args below meth c cells slots Q t pc lv st (fs, ws ++ [.inr (ci2, f2)]) := by
  subst hq; subst hst; subst hk
  intro res h H locs ls hG hS hl
  have z : H.size = b + 1 + (ws.length + 1) := by have h9 := hG.1.1; simpa [Nat.add_assoc] using h9
  have h0 : rK_W D (b + 1 + ws.length) ci2 (f2, []) H := ⟨by omega, hG.1.2.2 ws.length (.inr (ci2, f2)) (by simp), fun i x hx => by simp at hx⟩
  have hA : ∀ q, b + 1 + ws.length ≤ q → A q := fun q hq => E.2.2 q (by omega)
  refine va_callv (va_runI (As := As) (rest := rest) E.1 hM (cwI n E.hts (rv_gN hc9) rfl hrm.1 hrm.2 (E.hts _ hini) (E.hts _ hl9) (E.hts _ hin9) hy1 hd hR) ⟨rK_P.bl, fun U hU hW => ⟨rfl, rK_P.go (b2 := b + 1 + ws.length) hU hW E.2.1 hS hA h0⟩⟩ rfl hn (hl.1.trans hlv) rfl (by show 2 * 0 + _ ≤ 8; omega) d hf) hS (fun q _ hq => hA q hq) hA (fun u t H1 locs1 ht hvm hw hB hz1 hk1 hS1 => ?_)
  · rw [ht] at hB
    have hz : H.size = b + 1 + ws.length + 1 := by rw [z]; omega
    have kp : ∀ q : Nat, q < b + 1 + ws.length → H1[q]? = H[q]? := fun q hq => hk1 q (by omega) (by show ¬ b + 1 + ws.length ≤ q; omega)
    refine kk res h H1 locs1 ls ⟨⟨?_, hG.1.2.1.kept (kp b (by omega)), rK_join (fun i x hx => ?_) (fun j y hy => ?_)⟩, fun q hq => (kp q (by omega)).trans (hG.2 q hq)⟩ hS1 hl
    · have h9 : H1.size = b + 1 + ws.length + 1 + w2.length := hB.1
      rw [h9]; simp; omega
    · have hi : i < ws.length := (List.getElem?_eq_some_iff.mp hx).1
      exact (hG.1.2.2 i x (by rw [List.getElem?_append_left hi]; exact hx)).kept (kp _ (by show b + 1 + i < _; omega))
    · match j, hy with
      | 0, hy => cases hy; exact hB.2.1
      | j + 1, hy =>
        have h9 := hB.2.2 j y (by simpa using hy)
        rwa [show b + 1 + ws.length + 1 + j = b + 1 + ws.length + (j + 1) by omega] at h9
theorem rK_callS (E : rK_E D cI cZ cO de b A own cc nL p s m args c) {y : MethodName} {host : String} {by_ : ByteArray} {maxL n idx mc ms : Nat} {rm : Room} {As rest f2 f2' : List Value} {w2 : List va_E} (hM : Met l y (rv_ws y by_ maxL none) rm (va_Pc (.ref (b) :: As) (rK_P D cI cZ cO de (b) ci (f2, ws))) (rK_Q D (b) ci (f2', w2)) mc ms (fun q => b ≤ q)) (hc9 : Cond.code y by_ maxL none ∈ rv_AL) (hl9 : Cond.methodLink own idx y ∈ rv_AL) (hini : Cond.initialized y.cls ∈ rv_AL) (hin9 : Cond.instanceMethod y ∈ rv_AL) (hy1 : y.name = "<init>") (hrm : rm.cells = mc ∧ rm.slots = ms) (hd : y.cls ≠ "java/lang/invoke/MethodHandle" ∧ y.cls ≠ "java/lang/invoke/VarHandle" ∧ (parseMethodDescriptor y.desc).map (fun d => d.parameters.length) = some n) (hR : rm.frames + 1 ≤ R.frames ∧ 8 + (maxL + 11) + rm.locals ≤ R.locals) (hn : As.length = n) (hlv : lv.length = nL) (hst : As.reverse ++ .ref (b) :: rest = st) (hrs : (rest.map fun v => v.category).sum ≤ 8) (hf : cells + mc ≤ R.cells ∧ slots + ms ≤ R.slots) (d : decode cc pc = .ok (.invokespecial idx, 3)) (hq : pc + 3 = q) (kk : rv_M (rK_G D H0 b ci) A p l e R s m args below meth c (cells + mc) (slots + ms) Q t q lv rest (f2', w2)) : rv_M (rK_G D H0 b ci) A p l e R s m args below meth c cells slots Q t pc lv st (f2, ws) := by
  subst hq; subst hst
  intro res h H locs ls hG hS hl
  have z : H.size = b + 1 + (ws.length) := by have h9 := hG.1.1; simpa [Nat.add_assoc] using h9
  have h0 : rK_W D (b) ci (f2, ws) H := hG.1
  have hA : ∀ q, b ≤ q → A q := fun q hq => E.2.2 q (by omega)
  refine va_callv (va_runI (As := As) (rest := rest) E.1 hM (cwI n E.hts (rv_gN hc9) rfl hrm.1 hrm.2 (E.hts _ hini) (E.hts _ hl9) (E.hts _ hin9) hy1 hd hR) ⟨rK_P.bl, fun U hU hW => ⟨rfl, rK_P.go (b2 := b) hU hW E.2.1 hS hA h0⟩⟩ rfl hn (hl.1.trans hlv) rfl (by show 2 * 0 + _ ≤ 8; omega) d hf) hS (fun q _ hq => hA q hq) hA (fun u t H1 locs1 ht hvm hw hB hz1 hk1 hS1 => ?_)
  · rw [ht] at hB
    exact kk res h H1 locs1 ls ⟨hB, fun q hq => (hk1 q (by have : b < H.size := hG.1.2.1.lt; omega) (by show ¬ b ≤ q; omega)).trans (hG.2 q hq)⟩ hS1 hl
theorem rK_callLn (E : rK_E D cI cZ cO de b A own cc nL p s m args c) {y : MethodName} {host : String} {by_ : ByteArray} {maxL n idx k ci2 mc ms : Nat} {rm : Room} {As rest f2 f2' : List Value} {w2 : List va_E} (hM : Met l y (rv_ws y by_ maxL none) rm (va_Pc (.ref (b + 1 + k) :: As) (rK_P D cI cZ cO de (b + 1 + k) ci2 (f2, []))) (rK_Q D (b + 1 + k) ci2 (f2', w2)) mc ms (fun q => b + 1 + k ≤ q)) (hc9 : Cond.code y by_ maxL none ∈ rv_AL) (hl9 : va_Nw (.methodLinkNest own idx y host) s) (hini : Cond.initialized y.cls ∈ rv_AL) (hin9 : Cond.instanceMethod y ∈ rv_AL) (hy1 : y.name = "<init>") (hrm : rm.cells = mc ∧ rm.slots = ms) (hd : y.cls ≠ "java/lang/invoke/MethodHandle" ∧ y.cls ≠ "java/lang/invoke/VarHandle" ∧ (parseMethodDescriptor y.desc).map (fun d => d.parameters.length) = some n) (hR : rm.frames + 1 ≤ R.frames ∧ 8 + (maxL + 11) + rm.locals ≤ R.locals) (hn : As.length = n) (hlv : lv.length = nL) (hk : ws.length = k) (hst : As.reverse ++ .ref (b + 1 + k) :: rest = st) (hrs : (rest.map fun v => v.category).sum ≤ 8) (hf : cells + mc ≤ R.cells ∧ slots + ms ≤ R.slots) (d : decode cc pc = .ok (.invokespecial idx, 3)) (hq : pc + 3 = q) (kk : rv_M (rK_G D H0 b ci) A p l e R s m args below meth c (cells + mc) (slots + ms) Q t q lv rest (fs, ws ++ (.inr (ci2, f2') :: w2))) : rv_M (rK_G D H0 b ci) A p l e R s m args below meth c cells slots Q t pc lv st (fs, ws ++ [.inr (ci2, f2)]) := by
  subst hq; subst hst; subst hk
  intro res h H locs ls hG hS hl
  have z : H.size = b + 1 + (ws.length + 1) := by have h9 := hG.1.1; simpa [Nat.add_assoc] using h9
  have h0 : rK_W D (b + 1 + ws.length) ci2 (f2, []) H := ⟨by omega, hG.1.2.2 ws.length (.inr (ci2, f2)) (by simp), fun i x hx => by simp at hx⟩
  have hA : ∀ q, b + 1 + ws.length ≤ q → A q := fun q hq => E.2.2 q (by omega)
  refine va_callv (va_runIN (As := As) (rest := rest) E.1 hM ⟨va_cnB n E.hts (rv_gN hc9) rfl hrm.1 hrm.2 hl9 (E.hts _ hini) hd hR, hy1, E.hts _ hin9⟩ ⟨rK_P.bl, fun U hU hW => ⟨rfl, rK_P.go (b2 := b + 1 + ws.length) hU hW E.2.1 hS hA h0⟩⟩ rfl hn (hl.1.trans hlv) rfl (by show 2 * 0 + _ ≤ 8; omega) d hf) hS (fun q _ hq => hA q hq) hA (fun u t H1 locs1 ht hvm hw hB hz1 hk1 hS1 => ?_)
  · rw [ht] at hB
    have hz : H.size = b + 1 + ws.length + 1 := by rw [z]; omega
    have kp : ∀ q : Nat, q < b + 1 + ws.length → H1[q]? = H[q]? := fun q hq => hk1 q (by omega) (by show ¬ b + 1 + ws.length ≤ q; omega)
    refine kk res h H1 locs1 ls ⟨⟨?_, hG.1.2.1.kept (kp b (by omega)), rK_join (fun i x hx => ?_) (fun j y hy => ?_)⟩, fun q hq => (kp q (by omega)).trans (hG.2 q hq)⟩ hS1 hl
    · have h9 : H1.size = b + 1 + ws.length + 1 + w2.length := hB.1
      rw [h9]; simp; omega
    · have hi : i < ws.length := (List.getElem?_eq_some_iff.mp hx).1
      exact (hG.1.2.2 i x (by rw [List.getElem?_append_left hi]; exact hx)).kept (kp _ (by show b + 1 + i < _; omega))
    · match j, hy with
      | 0, hy => cases hy; exact hB.2.1
      | j + 1, hy =>
        have h9 := hB.2.2 j y (by simpa using hy)
        rwa [show b + 1 + ws.length + 1 + j = b + 1 + ws.length + (j + 1) by omega] at h9
theorem rK_callSn (E : rK_E D cI cZ cO de b A own cc nL p s m args c) {y : MethodName} {host : String} {by_ : ByteArray} {maxL n idx mc ms : Nat} {rm : Room} {As rest f2 f2' : List Value} {w2 : List va_E} (hM : Met l y (rv_ws y by_ maxL none) rm (va_Pc (.ref (b) :: As) (rK_P D cI cZ cO de (b) ci (f2, ws))) (rK_Q D (b) ci (f2', w2)) mc ms (fun q => b ≤ q)) (hc9 : Cond.code y by_ maxL none ∈ rv_AL) (hl9 : va_Nw (.methodLinkNest own idx y host) s) (hini : Cond.initialized y.cls ∈ rv_AL) (hin9 : Cond.instanceMethod y ∈ rv_AL) (hy1 : y.name = "<init>") (hrm : rm.cells = mc ∧ rm.slots = ms) (hd : y.cls ≠ "java/lang/invoke/MethodHandle" ∧ y.cls ≠ "java/lang/invoke/VarHandle" ∧ (parseMethodDescriptor y.desc).map (fun d => d.parameters.length) = some n) (hR : rm.frames + 1 ≤ R.frames ∧ 8 + (maxL + 11) + rm.locals ≤ R.locals) (hn : As.length = n) (hlv : lv.length = nL) (hst : As.reverse ++ .ref (b) :: rest = st) (hrs : (rest.map fun v => v.category).sum ≤ 8) (hf : cells + mc ≤ R.cells ∧ slots + ms ≤ R.slots) (d : decode cc pc = .ok (.invokespecial idx, 3)) (hq : pc + 3 = q) (kk : rv_M (rK_G D H0 b ci) A p l e R s m args below meth c (cells + mc) (slots + ms) Q t q lv rest (f2', w2)) : rv_M (rK_G D H0 b ci) A p l e R s m args below meth c cells slots Q t pc lv st (f2, ws) := by
  subst hq; subst hst
  intro res h H locs ls hG hS hl
  have z : H.size = b + 1 + (ws.length) := by have h9 := hG.1.1; simpa [Nat.add_assoc] using h9
  have h0 : rK_W D (b) ci (f2, ws) H := hG.1
  have hA : ∀ q, b ≤ q → A q := fun q hq => E.2.2 q (by omega)
  refine va_callv (va_runIN (As := As) (rest := rest) E.1 hM ⟨va_cnB n E.hts (rv_gN hc9) rfl hrm.1 hrm.2 hl9 (E.hts _ hini) hd hR, hy1, E.hts _ hin9⟩ ⟨rK_P.bl, fun U hU hW => ⟨rfl, rK_P.go (b2 := b) hU hW E.2.1 hS hA h0⟩⟩ rfl hn (hl.1.trans hlv) rfl (by show 2 * 0 + _ ≤ 8; omega) d hf) hS (fun q _ hq => hA q hq) hA (fun u t H1 locs1 ht hvm hw hB hz1 hk1 hS1 => ?_)
  · rw [ht] at hB
    exact kk res h H1 locs1 ls ⟨hB, fun q hq => (hk1 q (by have : b < H.size := hG.1.2.1.lt; omega) (by show ¬ b ≤ q; omega)).trans (hG.2 q hq)⟩ hS1 hl
theorem rK_ret {mc ms : Nat} {M M' : rK_mu} (hr : meth.sig.returnType = none) (hlk : meth.locks = false) (E : rK_E D cI cZ cO de b (fun q => b ≤ q) own cc nL p s m args c) (hM : M = M') (hc : cells ≤ mc) (hs : slots ≤ ms) (d : decode cc pc = .ok (.return_, 1)) : rv_M (rK_G D H0 b ci) (fun q => b ≤ q) p l e R s m args below meth c cells slots (fun _ : Unit => MQ below (rK_Q D b ci M') args s mc ms (fun q => b ≤ q)) (some ()) pc lv [] M := by
  subst hM
  intro res h H locs ls hG hS hl
  refine W.widen hc hs ?_
  exact W.vret E.1.1 E.1.2.1 hr (fun t ht hW => ⟨⟨(), rfl, trivial, by show rK_W D b ci M t.heap; rw [ht]; exact hG.1⟩, hS.F ht⟩) hS.2.2 d (hlocks := hlk)
end RK
theorem rK_met {l : Launch} {own : String} {y : MethodName} {cc : ByteArray} {maxL : Nat} {rm : Room} {D : va_G} {cI cZ cO : ClassId} {de b ci : Nat} {M M' : rK_mu} {vs : List Value} {mc ms : Nat} (hy : y.cls = own) (hp : plainName own = true) (hnm : y.name = "<init>") (hvn : (rv_lv vs).length ≤ maxL)
    (body : ∀ (p : Program) (e : Env) (s : State) (m : MethodId) (args : Array Value) (below : List Frame) (meth : Method) (c : Code), rK_E D cI cZ cO de b (fun q => b ≤ q) own cc maxL p s m args c → meth.name = "<init>" → meth.sig.returnType = none → meth.locks = false → rv_M (rK_G D s.heap b ci) (fun q => b ≤ q) p l e rm s m args below meth c 0 0 (fun _ : Unit => MQ below (rK_Q D b ci M') args s mc ms (fun q => b ≤ q)) (some ()) 0 (rv_lv vs ++ List.replicate (maxL - (rv_lv vs).length) none) [] M) : Met l y (rv_ws y cc maxL none) rm (va_Pc vs (rK_P D cI cZ cO de b ci M)) (rK_Q D b ci M') mc ms (fun q => b ≤ q) := by
  refine Met.ofW (cc := cc) (maxL := maxL) (ret := none) (by rw [hy]; exact hp) rfl ?_
  intro p e s m args below meth c s₁ B hml hv
  obtain ⟨rfl, hX, hW⟩ := hv
  have hts := atoms_spec (ws := rv_ws y cc maxL none) B.pre
  have hown : s.vm.findClass own = some m.cls := by rw [← hy]; exact findClass_of_methodNamed B.named
  rw [lg_entry_eq]
  exact body p e s m vs.toArray below meth c ⟨⟨B.exec, B.bytes, hml, hown, fun w hw => hts w (List.mem_cons_of_mem _ hw)⟩, hX, fun _ h => h⟩ ((name_of_methodNamed B.named B.method).1.trans hnm) B.returns B.notSynchronized () rfl s.heap [] _ ⟨hW, fun q hq => rfl⟩ va_S.rf (rv_entryL vs hvn (lv_entry vs (n := maxL) (by rw [← rv_lv_len]; exact hvn)))
