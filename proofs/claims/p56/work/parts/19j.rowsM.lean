/-! ROWS OF MAKING IN THE HOUSE -/
def rM_tk (mi de : Nat) (A : Nat → Prop) (U : State) : Prop := va_Mi "[Ljava/lang/Object;" mi U ∧ va_Dc U ∧ va_AO "java/lang/Object" U ∧ va_Z RJx4a65c "DEFAULTCAPACITY_EMPTY_ELEMENTDATA" "[Ljava/lang/Object;" (.ref de) A U U.heap ∧ va_Nw (.castable RX0 "java/lang/Object") U ∧ va_Nw (.castable RX1 "java/lang/Object") U ∧ va_Nw (.castable RX4 "java/lang/Object") U
def rM_A (ad : Nat → Nat) (gh : rC_gh) (sz : Nat) (q : Nat) : Prop := rC_A ad gh sz q ∨ ∃ i, i < 3 ∧ (q = ad (9 + i) ∨ (0 < gh.1 i ∧ q = ad (9 + i + 44)))
theorem rM_tk.same {mi de : Nat} {A : Nat → Prop} {s U : State} (hv : s.vm = U.vm) (hh : s.heap = U.heap) (h : rM_tk mi de A s) : rM_tk mi de A U := by
  have ha : s.vm.Alike U.vm := by rw [hv]; exact Vm.Alike.refl _
  exact ⟨h.1.moved ha, h.2.1.moved ha, h.2.2.1.moved ha, by rw [← hh]; exact h.2.2.2.1.moved ha, h.2.2.2.2.1.same rfl hv, h.2.2.2.2.2.1.same rfl hv, h.2.2.2.2.2.2.same rfl hv⟩
theorem rM_tk.warm {mi de : Nat} {A B : Nat → Prop} {s U : State} {H : Heap} {locs : List Loc} (hU : U.heap = H) (hW : s.WarmedH U.vm) (hS : va_S A s.heap H locs) (hAB : ∀ q, B q → A q) (h : rM_tk mi de A s) : rM_tk mi de B U := by
  refine ⟨h.1.moved hW.alike, h.2.1.moved hW.alike, h.2.2.1.moved hW.alike, ?_, h.2.2.2.2.1.warmC hW, h.2.2.2.2.2.1.warmC hW, h.2.2.2.2.2.2.warmC hW⟩
  rw [hU]
  exact va_Z.moved hW.alike ((h.2.2.2.1.kept hS.2.1).narrow hAB)
def rM_Px (D : va_G) (cI cZ cO : ClassId) (ad : Nat → Nat) (gh : rC_gh) (mi de sz : Nat) (av : List Value) (M : rv_Mem) : Array Value → State → Prop := va_Pc av (fun U => (U.heap.size = sz ∧ rC_G D cI cZ cO ad gh de M U.heap ∧ va_K D vwCl [(cI, .int), (cZ, .boolean), (cO, .object "java/lang/Object")] U ∧ rC_nw U ∧ rC_tk (rC_A ad gh sz) U) ∧ rM_tk mi de (rM_A ad gh sz) U)
theorem rM_pblind {D : va_G} {cI cZ cO : ClassId} {ad : Nat → Nat} {gh : rC_gh} {mi de sz : Nat} {av : List Value} {M : rv_Mem} : FrameBlind (rM_Px D cI cZ cO ad gh mi de sz av M) := fun a U g mk hq => ⟨hq.1, ⟨hq.2.1.1, hq.2.1.2.1, va_K.moved (u := U) (U := U.calling g mk a) (Vm.Alike.refl U.vm) hq.2.1.2.2.1, hq.2.1.2.2.2.1.same rfl, rC_tk.same (s := U) (U := U.calling g mk a) rfl rfl hq.2.1.2.2.2.2⟩, rM_tk.same (s := U) (U := U.calling g mk a) rfl rfl hq.2.2⟩
/-- what the lists hold are things of the class ci -/
def rC_bc (i : Nat) : Nat := if i = 0 then 1 else if i = 1 then 2 else 5
theorem rC_el_at {D : va_G} {cI cZ cO : ClassId} {ad : Nat → Nat} {gh : rC_gh} {de : Nat} {M : rv_Mem} {H : Heap} {i : Nat} (hi : i < 3) (hI : rC_I ad gh) (hG : rC_G D cI cZ cO ad gh de M H) : ∀ j, j < gh.1 i → ∃ vs : List Value, va_at D vwCl (ad (rC_b i + j), .inr (rC_bc i, vs)) H := by
  intro j hj
  have hk := rC_dm_el hi (hI.bd hi) hj
  have h := hG.1 _ hk
  have hb := hI.bd hi
  have e : rC_kd (rC_b i + j) = 100 + rC_bc i := by
    match i, hi with
    | 0, _ =>
      have hb : gh.1 0 ≤ 20 := hb
      show rC_kd (100 + j) = 101
      unfold rC_kd
      rw [if_neg (by omega), if_pos (by omega)]
    | 1, _ =>
      have hb : gh.1 1 ≤ 60 := hb
      show rC_kd (200 + j) = 102
      unfold rC_kd
      rw [if_neg (by omega), if_neg (by omega), if_neg (by omega), if_pos (by omega)]
    | 2, _ =>
      have hb : gh.1 2 ≤ 40 := hb
      show rC_kd (400 + j) = 105
      unfold rC_kd
      rw [if_neg (by omega), if_neg (by omega), if_neg (by omega), if_neg (by omega), if_neg (by omega), if_pos (by omega)]
  unfold rC_ent at h
  rw [if_pos (by rw [e]; omega), e, Nat.add_sub_cancel_left] at h
  exact ⟨_, h⟩
theorem rC_bc_ex : ∀ {i : Nat}, i < 3 → ∃ r, vwCl[rC_bc i]? = some r := fun {i} hi => by
  match i, hi with
  | 0, _ => exact ⟨_, rfl⟩
  | 1, _ => exact ⟨_, rfl⟩
  | 2, _ => exact ⟨_, rfl⟩
section RMX
variable {p : Program} {l : Launch} {e : Env} {R : Room} {s : State} {m : MethodId} {args : Array Value} {below : List Frame} {meth : Method} {c : Code} {cells slots mc ms : Nat}
variable {D : va_G} {cI cZ cO : ClassId} {ad : Nat → Nat} {gh : rC_gh} {mi de : Nat} {own : String} {Q : State → Prop} {A : Nat → Prop}
variable {cc : ByteArray} {nL pc : Nat} {ret : Option FieldType} {lv : List (Option Value)} {st : List Value} {M : rv_Mem} {H : Heap} {locs : List Loc} {ls : Array Slot}
theorem rM_new (E : rC_X D cI cZ cO ad gh own cc nL ret p l s m args meth c) {N idx ci2 : Nat} {C : String} {T : u_T} {ty0 : Nat → FieldType} {f2 : List Value} (hcl : vwCl[ci2]? = some (C, T, N)) (hin : ∀ w ∈ u_ws C T N, w ∈ rv_AL) (hty : ∀ k, k < N → parseFieldDescriptor (T k).2.2.1 = some (ty0 k)) (hcl9 : Cond.classLink own idx C ∈ rv_AL) (hin9 : Cond.instantiable C N ∈ rv_AL) (hini : Cond.initialized C ∈ rv_AL) (hfs : ∀ j, j < N → defaultValue (ty0 j) = vp_V f2 j) (hc : cells + 1 ≤ R.cells) (hs : slots + N ≤ R.slots) (d : decode cc pc = .ok (.new idx, 3)) (hS : va_S A s.heap H locs)
    (kk : ∀ H1 : Heap, H1.size = H.size + 1 → (∀ q : Nat, q < H.size → H1[q]? = H[q]?) → va_at D vwCl (H.size, .inr (ci2, f2)) H1 → va_S A s.heap H1 locs → W p l e R s m args below meth c H1 locs (cells + 1) (slots + N) Q (F0 m (pc + 3) ls (.ref H.size :: st))) : W p l e R s m args below meth c H locs cells slots Q (F0 m pc ls st) := by
  have hKn := E.1.2.1.1 ci2 _ hcl
  refine W.newcK E.1.1.1 E.1.1.2.1 E.1.ow (E.1.hts _ hcl9) (E.1.hts _ hin9) (E.1.hts _ hini) rfl d hc hs hKn.2.1 rfl fun H1 kC hkC e1 z1 o1 => ?_
  exact kk H1 z1 (fun q hq => o1 q hq) ⟨_, hcl, (u_born ty0 E.1.hts hin hKn hkC e1 hty).to hfs⟩ ⟨by have := hS.1; omega, fun q h1 h2 => (o1 q (by have := hS.1; omega)).trans (hS.2.1 q h1 h2), hS.2.2⟩
theorem rM_ctor (E : rC_X D cI cZ cO ad gh own cc nL ret p l s m args meth c) {S : Type} {y : MethodName} {by_ : ByteArray} {maxL n idx q9 : Nat} {rm : Room} {As rest : List Value} {PU : Heap → Prop} {post : S → Prop} {B : S → State → Prop} {A1 : Nat → Prop} (hM : Met l y (rv_ws y by_ maxL none) rm (va_Pc (.ref q9 :: As) (fun U => va_K D vwCl [(cI, .int), (cZ, .boolean), (cO, .object "java/lang/Object")] U ∧ PU U.heap)) (va_Qv post B A1) mc ms A1) (hc9 : Cond.code y by_ maxL none ∈ rv_AL) (hl9 : Cond.methodLink own idx y ∈ rv_AL) (hini : Cond.initialized y.cls ∈ rv_AL) (hin9 : Cond.instanceMethod y ∈ rv_AL) (hy1 : y.name = "<init>") (hrm : rm.cells = mc ∧ rm.slots = ms) (hd : y.cls ≠ "java/lang/invoke/MethodHandle" ∧ y.cls ≠ "java/lang/invoke/VarHandle" ∧ (parseMethodDescriptor y.desc).map (fun d => d.parameters.length) = some n) (hR : rm.frames + 1 ≤ R.frames ∧ 8 + (maxL + 11) + rm.locals ≤ R.locals) (hn : As.length = n) (hl : rv_has ls lv) (hlv : lv.length = nL) (hst : As.reverse ++ .ref q9 :: rest = st) (hrs : (rest.map fun v => v.category).sum ≤ 8) (hf : cells + mc ≤ R.cells ∧ slots + ms ≤ R.slots) (d : decode cc pc = .ok (.invokespecial idx, 3)) (hP : PU H) (hS : va_S A s.heap H locs) (hA : ∀ q, A1 q → A q)
    (kk : ∀ (u : S) (H1 : Heap) (locs1 : List Loc) (t : State), t.heap = H1 → post u → B u t → H.size ≤ H1.size → (∀ q : Nat, q < H.size → ¬ A1 q → H1[q]? = H[q]?) → va_S A s.heap H1 locs1 → W p l e R s m args below meth c H1 locs1 (cells + mc) (slots + ms) Q (F0 m (pc + 3) ls rest)) : W p l e R s m args below meth c H locs cells slots Q (F0 m pc ls st) := by
  subst hst
  exact va_callv (va_runI (As := As) (rest := rest) E.1.1 hM (cwI n E.1.hts (rv_gN hc9) rfl hrm.1 hrm.2 (E.1.hts _ hini) (E.1.hts _ hl9) (E.1.hts _ hin9) hy1 hd hR) ⟨fun a U g mk hq => ⟨hq.1, va_K.moved (u := U) (U := U.calling g mk a) (Vm.Alike.refl U.vm) hq.2.1, hq.2.2⟩, fun U hU hW => ⟨rfl, va_K.moved hW.alike E.1.2.1, by rw [hU]; exact hP⟩⟩ rfl hn (hl.1.trans hlv) rfl (by show 2 * 0 + _ ≤ 8; omega) d hf) hS (fun q _ hq => hA q hq) hA (fun u t H1 locs1 ht hvm hw hB hz1 hk1 hS1 => kk u H1 locs1 t ht hw hB hz1 hk1 hS1)
theorem rM_add (E : rC_X D cI cZ cO ad gh RX11 cc nL ret p l s m args meth c) (hT : rM_tk mi de (rM_A ad gh s.heap.size) s) {i x : Nat} (hi : i < 3) (hb : gh.1 i < 64) (hL : rC_L D cO ad gh de (9 + i) (gh.1 i) (rC_b i) H) (hel : ∀ j, j < gh.1 i → ∃ vs : List Value, va_at D vwCl (ad (rC_b i + j), .inr (rC_bc i, vs)) H) (hlo : ∀ j, j < gh.1 i → ad (rC_b i + j) ≠ ad (9 + i)) {vs : List Value} (hx : va_at D vwCl (x, .inr (rC_bc i, vs)) H) (hx1 : x ≠ ad (9 + i) ∧ x ≠ ad (9 + i + 44)) (hcast : ∀ r, vwCl[rC_bc i]? = some r → va_Nw (.castable r.1 "java/lang/Object") s) (hR : 8 ≤ R.frames ∧ 8 + (2 + 11) + 190 ≤ R.locals) (hl : rv_has ls lv) (hlv : lv.length = nL) (hrs : (st.map fun v => v.category).sum ≤ 8) (hf : cells + 1 ≤ R.cells ∧ slots + 100 ≤ R.slots) (d : decode cc pc = .ok (.invokevirtual 172, 3)) (hS : va_S (rM_A ad gh s.heap.size) s.heap H locs)
    (kk : ∀ (cap : Nat) (mc : Int32) (f' : Nat → Option Nat) (e' : Nat) (H1 : Heap) (locs1 : List Loc), H.size ≤ H1.size → (∀ q : Nat, q < H.size → q ≠ ad (9 + i) → (0 < gh.1 i → q ≠ ad (9 + i + 44)) → H1[q]? = H[q]?) → va_at D vwCl (ad (9 + i), .inr (0, [.int mc, .ref e', .int (nI (gh.1 i + 1))])) H1 → va_at D vwCl (e', .inl (cO, cap, .inr (.inr (.inr (.inr f'))))) H1 → gh.1 i < cap → cap ≤ 100 → 10 ≤ cap → (∀ j, j < gh.1 i → f' j = some (ad (rC_b i + j))) → f' (gh.1 i) = some x → (∀ j, gh.1 i < j → f' j = none) → (e' = ad (9 + i + 44) ∧ 0 < gh.1 i ∨ H.size ≤ e') → va_S (rM_A ad gh s.heap.size) s.heap H1 locs1 → W p l e R s m args below meth c H1 locs1 (cells + 1) (slots + 100) Q (F0 m (pc + 3) ls (.int 1 :: st))) : W p l e R s m args below meth c H locs cells slots Q (F0 m pc ls (.ref x :: .ref (ad (9 + i)) :: st)) := by
  obtain ⟨cap, mc, f, k1, k2, k3, k4, k5, k6, k7, k8, k9⟩ := hL
  have hne : ad (9 + i) ≠ ad (9 + i + 44) := k9 _ (Or.inr (by omega))
  obtain ⟨r, hr⟩ := rC_bc_ex hi
  have hxs := hx.lt
  have hxs : x < H.size := hxs
  have hh : rJ_h de H.size (ad (9 + i)) (ad (9 + i + 44)) (gh.1 i) cap f := by
    refine ⟨k1.lt, k2.lt, hne, fun j y hy => ?_, k3, k4, k5, k6, k8⟩
    by_cases hj : j < gh.1 i
    · rw [k7 j hj] at hy
      cases hy
      exact hlo j hj
    · rw [k8 j (by omega)] at hy; cases hy
  have hxn : x < H.size ∧ x ≠ ad (9 + i) ∧ x ≠ ad (9 + i + 44) := ⟨hxs, hx1.1, hx1.2⟩
  have hAs : ∀ q, rJ_A H.size (ad (9 + i)) (gh.1 i) (ad (9 + i + 44)) q → rM_A ad gh s.heap.size q := fun q h => by
    rcases h with h | h | h
    · exact Or.inl (Or.inr (Nat.le_trans hS.1 h))
    · exact Or.inr ⟨i, hi, Or.inl h⟩
    · exact Or.inr ⟨i, hi, Or.inr h⟩
  have hX : rJ_X D cI cZ cO mi de (rM_A ad gh s.heap.size) s s.heap := ⟨E.1.2.1, hT.1, hT.2.1, hT.2.2.1, hT.2.2.2.1⟩
  have hX2 := (hX.kp hS).nar hAs
  have hel2 : rJ_el D (rC_bc i) H.size (ad (9 + i + 44)) f H := fun j y hy => by
    by_cases hj : j < gh.1 i
    · rw [k7 j hj] at hy
      cases hy
      obtain ⟨vs, hv⟩ := hel j hj
      refine ⟨hv.lt, ?_, vs, hv⟩
      have hdm : rC_dm gh (rC_b i + j) = true := rC_dm_el hi (E.1.2.2.1.bd hi) hj
      exact k9 _ (Or.inl hdm)
    · rw [k8 j (by omega)] at hy; cases hy
  refine va_calli (va_runV (C := RJx4a65c) (b := ad (9 + i)) (As := [.ref x]) (rest := st) E.1.1 (cJ_add (z0 := H.size) (mc := mc) (f := f) (mi := mi) (de := de) (cI := cI) (cZ := cZ) hr hh hb hxn) (cwV 1 E.1.hts gX11_172 rfl rfl rfl (by decide +kernel) hR) ⟨rJ_aP.bl, va_recv E.1.2.1 (rJ_1 k1) (ci := 0) (q0 := 0) rfl rfl, fun U hU hW => ⟨rfl, rJ_P.go hU hW hX2 k1 k2 (Nat.le_refl _) hel2 (hcast r hr), vs, by rw [hU]; exact hx⟩⟩ rfl rfl (hl.1.trans hlv) rfl (by simpa using hrs) d hf) hS (fun q _ hq => hAs q hq) hAs (fun r9 u t H1 locs1 ht hvm hw hB hz1 hk1 hS1 => ?_)
  obtain ⟨rfl, w1, w2, w3, w4, w5, w6, w7⟩ := hw
  obtain ⟨B1, B2⟩ := hB
  rw [ht] at B1 B2
  refine kk u.2.1 (mc + 1) u.2.2 u.1 H1 locs1 hz1 (fun q h1 h2 h3 => hk1 q h1 (fun z => ?_)) B1 B2 w1 w2 w3 (fun j hj => by rw [w4 j hj]; exact k7 j hj) w5 w6 w7 hS1
  rcases z with z | z | z
  · exact absurd h1 (Nat.not_lt.mpr z)
  · exact h2 z
  · exact h3 z.1 z.2
end RMX
theorem rM_xmet {l : Launch} {own : String} {y : MethodName} {cc : ByteArray} {maxL : Nat} {ret : Option FieldType} {rm : Room} {D : va_G} {cI cZ cO : ClassId} {ad : Nat → Nat} {gh : rC_gh} {mi de sz : Nat} {M : rv_Mem} {vs : List Value} {Qc : Nat → Array Value → State → Outcome → State → Prop} {XC : Nat → String → State → State → Prop} {FR : Nat → Nat → Prop} {ρ : Type} {t : Option ρ} {r : ρ} {mc ms : Nat} (hfl : l.stackTraces = false) (hI : rC_I ad gh) (hy : y.cls = own) (hp : plainName own = true) (hvn : (rv_lv vs).length ≤ maxL)
    (body : ∀ (p : Program) (e : Env) (s : State) (m : MethodId) (args : Array Value) (below : List Frame) (meth : Method) (c : Code), rC_X D cI cZ cO ad gh own cc maxL ret p l s m args meth c → rM_tk mi de (rM_A ad gh s.heap.size) s → ∃ Q : ρ → State → Prop, Q r = vx_MQ below (Qc s.heap.size) (XC s.heap.size) args s mc ms (FR s.heap.size) ∧ rv_M (rC_G D cI cZ cO ad gh de) (rC_A ad gh s.heap.size) p l e rm s m args below meth c 0 0 Q t 0 (rv_lv vs ++ List.replicate (maxL - (rv_lv vs).length) none) [] M) (ht : t = some r) : vx_Met l y (rv_ws y cc maxL ret) rm (rM_Px D cI cZ cO ad gh mi de sz vs M) (Qc sz) (XC sz) mc ms (FR sz) := by
  refine vx_ofW (cc := cc) (maxL := maxL) (ret := ret) (by rw [hy]; exact hp) rfl ?_
  intro p e s m args below meth c s₁ B hml hex hv
  obtain ⟨rfl, ⟨hsz, hG, hK, hnw, htk⟩, hT⟩ := hv
  subst hsz
  have hts := atoms_spec (ws := rv_ws y cc maxL ret) B.pre
  have hown : s.vm.findClass own = some m.cls := by rw [← hy]; exact findClass_of_methodNamed B.named
  obtain ⟨Q, hQ, k⟩ := body p e s m vs.toArray below meth c ⟨⟨⟨B.exec, B.bytes, hml, hown, fun w hw => hts w (List.mem_cons_of_mem _ hw)⟩, hK, hI, fun _ h => Or.inl h, B.returns, B.notSynchronized, hnw⟩, hfl, hex, htk⟩ hT
  rw [← hQ, lg_entry_eq]
  exact k r ht s.heap [] _ hG va_S.rf (rv_entryL vs hvn (lv_entry vs (n := maxL) (by rw [← rv_lv_len]; exact hvn)))
