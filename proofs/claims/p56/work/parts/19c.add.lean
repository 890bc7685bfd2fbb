/-! LISTS GROW -/
theorem wcJL_73 : Cond.code yJ8_newLength_cabcc cJ8_newLength_cabcc 4 (some .int) ∈ rv_AL := rv_al (rv_t3 (List.mem_of_getElem? (i := 218) rfl)) rfl
theorem wiJL_73 : Cond.initialized "jdk/internal/util/ArraysSupport" ∈ rv_AL := rv_al (rv_t1 (List.mem_of_getElem? (i := 22) rfl)) rfl
theorem gJL_73 : GoodIn rv_AL (va_wsS RJx4a65c 73 yJ8_newLength_cabcc (rv_ws yJ8_newLength_cabcc cJ8_newLength_cabcc 4 (some .int))) := rv_gS (rv_al (rv_t3 (List.mem_of_getElem? (i := 216) rfl)) rfl) (rv_al (rv_t3 (List.mem_of_getElem? (i := 217) rfl)) rfl) wiJL_73 wcJL_73
theorem wcJL_66 : Cond.code yJ7_copyOf_1904c cJ7_copyOf_1904c 2 (some (.array (.object "java/lang/Object"))) ∈ rv_AL := rv_al (rv_t3 (List.mem_of_getElem? (i := 228) rfl)) rfl
theorem wiJL_66 : Cond.initialized "java/util/Arrays" ∈ rv_AL := rv_al (rv_t1 (List.mem_of_getElem? (i := 3) rfl)) rfl
theorem gJL_66 : GoodIn rv_AL (va_wsS RJx4a65c 66 yJ7_copyOf_1904c (rv_ws yJ7_copyOf_1904c cJ7_copyOf_1904c 2 (some (.array (.object "java/lang/Object"))))) := rv_gS (rv_al (rv_t3 (List.mem_of_getElem? (i := 226) rfl)) rfl) (rv_al (rv_t3 (List.mem_of_getElem? (i := 227) rfl)) rfl) wiJL_66 wcJL_66
theorem wcJ7_300 : Cond.code yJ7_copyOf_6403c cJ7_copyOf_6403c 4 (some (.array (.object "java/lang/Object"))) ∈ rv_AL := rv_al (rv_t4 (List.mem_of_getElem? (i := 11) rfl)) rfl
theorem wiJ7_300 : Cond.initialized "java/util/Arrays" ∈ rv_AL := rv_al (rv_t1 (List.mem_of_getElem? (i := 3) rfl)) rfl
theorem gJ7_300 : GoodIn rv_AL (va_wsS RJ7 300 yJ7_copyOf_6403c (rv_ws yJ7_copyOf_6403c cJ7_copyOf_6403c 4 (some (.array (.object "java/lang/Object"))))) := rv_gS (rv_al (rv_t4 (List.mem_of_getElem? (i := 9) rfl)) rfl) (rv_al (rv_t4 (List.mem_of_getElem? (i := 10) rfl)) rfl) wiJ7_300 wcJ7_300
theorem wcJL_69 : Cond.code yJx4a65c_grow_92f84 cJx4a65c_grow_92f84 4 (some (.array (.object "java/lang/Object"))) ∈ rv_AL := rv_al (rv_t3 (List.mem_of_getElem? (i := 215) rfl)) rfl
theorem wiJL_69 : Cond.initialized "java/util/ArrayList" ∈ rv_AL := rv_al (rv_t1 (List.mem_of_getElem? (i := 11) rfl)) rfl
theorem gJL_69 : GoodIn rv_AL (wsV RJx4a65c 69 RJx4a65c yJx4a65c_grow_92f84 (rv_ws yJx4a65c_grow_92f84 cJx4a65c_grow_92f84 4 (some (.array (.object "java/lang/Object"))))) := rv_gV (rv_al (rv_t3 (List.mem_of_getElem? (i := 212) rfl)) rfl) (rv_al (rv_t3 (List.mem_of_getElem? (i := 214) rfl)) rfl) (rv_sl (q := (yJx4a65c_grow_92f84, 3)) (List.mem_append_left _ (List.mem_of_getElem? (i := 7) rfl))) wiJL_69 wcJL_69
theorem wcJL_129 : Cond.code yJx4a65c_grow_d5877 cJx4a65c_grow_d5877 1 (some (.array (.object "java/lang/Object"))) ∈ rv_AL := rv_al (rv_t3 (List.mem_of_getElem? (i := 211) rfl)) rfl
theorem wiJL_129 : Cond.initialized "java/util/ArrayList" ∈ rv_AL := rv_al (rv_t1 (List.mem_of_getElem? (i := 11) rfl)) rfl
theorem gJL_129 : GoodIn rv_AL (wsV RJx4a65c 129 RJx4a65c yJx4a65c_grow_d5877 (rv_ws yJx4a65c_grow_d5877 cJx4a65c_grow_d5877 1 (some (.array (.object "java/lang/Object"))))) := rv_gV (rv_al (rv_t3 (List.mem_of_getElem? (i := 208) rfl)) rfl) (rv_al (rv_t3 (List.mem_of_getElem? (i := 210) rfl)) rfl) (rv_sl (q := (yJx4a65c_grow_d5877, 3)) (List.mem_append_left _ (List.mem_of_getElem? (i := 6) rfl))) wiJL_129 wcJL_129
theorem wcJL_131 : Cond.code yJx4a65c_add_72be8 cJx4a65c_add_72be8 4 none ∈ rv_AL := rv_al (rv_t3 (List.mem_of_getElem? (i := 207) rfl)) rfl
theorem wiJL_131 : Cond.initialized "java/util/ArrayList" ∈ rv_AL := rv_al (rv_t1 (List.mem_of_getElem? (i := 11) rfl)) rfl
theorem gJL_131 : GoodIn rv_AL (wsV RJx4a65c 131 RJx4a65c yJx4a65c_add_72be8 (rv_ws yJx4a65c_add_72be8 cJx4a65c_add_72be8 4 none)) := rv_gV (rv_al (rv_t3 (List.mem_of_getElem? (i := 204) rfl)) rfl) (rv_al (rv_t3 (List.mem_of_getElem? (i := 206) rfl)) rfl) (rv_sl (q := (yJx4a65c_add_72be8, 3)) (List.mem_append_left _ (List.mem_of_getElem? (i := 5) rfl))) wiJL_131 wcJL_131
theorem wJa_39 : Cond.fieldLink RJx4a65c 39 "java/util/ArrayList" "DEFAULTCAPACITY_EMPTY_ELEMENTDATA" "[Ljava/lang/Object;" ∈ rv_AL := rv_al (rv_t1 (List.mem_of_getElem? (i := 231) rfl)) rfl
theorem wJa_63 : Cond.fieldLink RJx4a65c 63 "java/util/ArrayList" "modCount" "I" ∈ rv_AL := rv_al (rv_t1 (List.mem_of_getElem? (i := 236) rfl)) rfl
theorem wJa_same : Cond.sameField "java/util/ArrayList" "java/util/AbstractList" "modCount" "I" ∈ rv_AL := rv_al (rv_t1 (List.mem_of_getElem? (i := 237) rfl)) rfl
theorem wJa_200 : Cond.constant RJ8 200 2147483639 ∈ rv_AL := rv_al (rv_t3 (List.mem_of_getElem? (i := 222) rfl)) rfl
theorem wJa_86 : Cond.methodLink RJ7 86 ⟨"java/lang/Object", "getClass", "()Ljava/lang/Class;"⟩ ∈ rv_AL := rv_al (rv_t3 (List.mem_of_getElem? (i := 229) rfl)) rfl
theorem wJa_gi : Cond.instanceMethod ⟨"java/lang/Object", "getClass", "()Ljava/lang/Class;"⟩ ∈ rv_AL := rv_al (rv_t3 (List.mem_of_getElem? (i := 230) rfl)) rfl
theorem wJa_gn : Cond.native ⟨"java/lang/Object", "getClass", "()Ljava/lang/Class;"⟩ ∈ rv_AL := rv_al (rv_t4 (List.mem_of_getElem? (i := 8) rfl)) rfl
theorem wJa_gs : Cond.selects "[Ljava/lang/Object;" ⟨"java/lang/Object", "getClass", "()Ljava/lang/Class;"⟩ ⟨"java/lang/Object", "getClass", "()Ljava/lang/Class;"⟩ ∈ rv_AL := rv_al (rv_t7 (List.mem_of_getElem? (i := 7) rfl)) rfl
theorem wJa_110 : Cond.classLink RJ7 110 "[Ljava/lang/Object;" ∈ rv_AL := rv_al (rv_t4 (List.mem_of_getElem? (i := 12) rfl)) rfl
theorem wJa_2 : Cond.classLink RJ7 2 "java/lang/Object" ∈ rv_AL := rv_al (rv_t4 (List.mem_of_getElem? (i := 14) rfl)) rfl
theorem wJa_7 : Cond.classLink RJx4a65c 7 "java/lang/Object" ∈ rv_AL := rv_al (rv_t4 (List.mem_of_getElem? (i := 22) rfl)) rfl
theorem wJa_150 : Cond.methodLink RJ7 150 arraycopyName ∈ rv_AL := rv_al (rv_t4 (List.mem_of_getElem? (i := 18) rfl)) rfl
theorem wJa_acs : Cond.static arraycopyName ∈ rv_AL := rv_al (rv_t4 (List.mem_of_getElem? (i := 19) rfl)) rfl
theorem wJa_acn : Cond.native arraycopyName ∈ rv_AL := rv_al (rv_t4 (List.mem_of_getElem? (i := 20) rfl)) rfl
theorem wJa_sys : Cond.initialized "java/lang/System" ∈ rv_AL := rv_al (rv_t1 (List.mem_of_getElem? (i := 24) rfl)) rfl
theorem wJa_mth : Cond.initialized "java/lang/Math" ∈ rv_AL := rv_al (rv_t1 (List.mem_of_getElem? (i := 23) rfl)) rfl
theorem wJa_max194 : Cond.methodLink RJ8 194 Lib.Math.max.name ∈ rv_AL := rv_al (rv_t3 (List.mem_of_getElem? (i := 219) rfl)) rfl
theorem wJa_max79 : Cond.methodLink RJx4a65c 79 Lib.Math.max.name ∈ rv_AL := rv_al (rv_t4 (List.mem_of_getElem? (i := 21) rfl)) rfl
theorem wJa_min304 : Cond.methodLink RJ7 304 Lib.Math.min.name ∈ rv_AL := rv_al (rv_t4 (List.mem_of_getElem? (i := 15) rfl)) rfl
theorem wJa_maxs : Cond.static Lib.Math.max.name ∈ rv_AL := rv_al (rv_t3 (List.mem_of_getElem? (i := 220) rfl)) rfl
theorem wJa_maxc : Cond.code Lib.Math.max.name Lib.Math.max.code 2 (some .int) ∈ rv_AL := rv_al (rv_t3 (List.mem_of_getElem? (i := 221) rfl)) rfl
theorem wJa_mins : Cond.static Lib.Math.min.name ∈ rv_AL := rv_al (rv_t4 (List.mem_of_getElem? (i := 16) rfl)) rfl
theorem wJa_minc : Cond.code Lib.Math.min.name Lib.Math.min.code 2 (some .int) ∈ rv_AL := rv_al (rv_t4 (List.mem_of_getElem? (i := 17) rfl)) rfl
/-- what the JDK's rows need of the state -/
def rJ_X (D : va_G) (cI cZ cO : ClassId) (mi de : Nat) (A : Nat → Prop) (U : State) (H : Heap) : Prop := va_K D vwCl [(cI, .int), (cZ, .boolean), (cO, .object "java/lang/Object")] U ∧ va_Mi "[Ljava/lang/Object;" mi U ∧ va_Dc U ∧ va_AO "java/lang/Object" U ∧ va_Z RJx4a65c "DEFAULTCAPACITY_EMPTY_ELEMENTDATA" "[Ljava/lang/Object;" (.ref de) A U H
theorem rJ_X.mv {D : va_G} {cI cZ cO : ClassId} {mi de : Nat} {A : Nat → Prop} {u U : State} {H : Heap} (hv : u.vm.Alike U.vm) (h : rJ_X D cI cZ cO mi de A u H) : rJ_X D cI cZ cO mi de A U H := ⟨va_K.moved hv h.1, h.2.1.moved hv, h.2.2.1.moved hv, h.2.2.2.1.moved hv, h.2.2.2.2.moved hv⟩
theorem rJ_X.nar {D : va_G} {cI cZ cO : ClassId} {mi de : Nat} {A B : Nat → Prop} {U : State} {H : Heap} (hAB : ∀ q, B q → A q) (h : rJ_X D cI cZ cO mi de A U H) : rJ_X D cI cZ cO mi de B U H := ⟨h.1, h.2.1, h.2.2.1, h.2.2.2.1, h.2.2.2.2.narrow hAB⟩
theorem rJ_X.kp {D : va_G} {cI cZ cO : ClassId} {mi de : Nat} {A : Nat → Prop} {s : State} {H : Heap} {locs : List Loc} (hS : va_S A s.heap H locs) (h : rJ_X D cI cZ cO mi de A s s.heap) : rJ_X D cI cZ cO mi de A s H := ⟨h.1, h.2.1, h.2.2.1, h.2.2.2.1, h.2.2.2.2.kept hS.2.1⟩
theorem rJ_1 {D : va_G} {x : Nat × va_E} {H : Heap} (h : va_at D vwCl x H) : va_P D vwCl [x] H := fun j z hz => by
  match j, hz with
  | 0, hz => cases hz; exact h
  | j + 1, hz => simp at hz
theorem rJ_2 {D : va_G} {x y : Nat × va_E} {H : Heap} (h : va_at D vwCl x H) (h2 : va_at D vwCl y H) : va_P D vwCl [x, y] H := fun j z hz => by
  match j, hz with
  | 0, hz => cases hz; exact h
  | 1, hz => cases hz; exact h2
  | j + 2, hz => simp at hz
theorem rJ_D1 {A : Nat → Prop} {x : Nat × va_E} (h : A x.1) : va_D A [x] := ⟨fun i j p q hi hj _ => by
  match i, hi, j, hj with
  | 0, _, 0, _ => rfl
  | 0, _, j + 1, hj => simp at hj
  | i + 1, hi, _, _ => simp at hi, fun k q hq => by
  match k, hq with
  | 0, hq => cases hq; exact h
  | k + 1, hq => simp at hq⟩
theorem rJ_D2 {A : Nat → Prop} {x y : Nat × va_E} (h : A x.1) (h2 : A y.1) (hn : x.1 ≠ y.1) : va_D A [x, y] := ⟨fun i j p q hi hj e => by
  match i, hi, j, hj with
  | 0, _, 0, _ => rfl
  | 1, _, 1, _ => rfl
  | 0, hi, 1, hj => cases hi; cases hj; exact absurd e hn
  | 1, hi, 0, hj => cases hi; cases hj; exact absurd e.symm hn
  | 0, _, j + 2, hj => simp at hj
  | 1, _, j + 2, hj => simp at hj
  | i + 2, hi, _, _ => simp at hi, fun k q hq => by
  match k, hq with
  | 0, hq => cases hq; exact h
  | 1, hq => cases hq; exact h2
  | k + 2, hq => simp at hq⟩
theorem rJ_Sm {A B : Nat → Prop} {H0 H : Heap} {locs : List Loc} (hs : ∀ q, A q → B q) (h : va_S A H0 H locs) : va_S B H0 H locs := ⟨h.1, fun q a b => h.2.1 q a (fun z => b (hs q z)), fun l hl => hs _ (h.2.2 l hl)⟩
theorem rJ_met {l : Launch} {own : String} {y : MethodName} {cc : ByteArray} {maxL : Nat} {ret : Option FieldType} {rm : Room} {P : State → Prop} {vs : List Value} {Qc : Array Value → State → Outcome → State → Prop} {mc ms : Nat} {free : Addr → Prop} (hy : y.cls = own) (hp : plainName own = true) (hvn : (rv_lv vs).length ≤ maxL)
    (body : ∀ (p : Program) (e : Env) (s : State) (m : MethodId) (args : Array Value) (below : List Frame) (meth : Method) (c : Code) (ls : Array Slot), CallFix p m c cc maxL s args rv_AL own → meth.sig.returnType = ret → meth.locks = false → P s → rv_has ls (rv_lv vs ++ List.replicate (maxL - (rv_lv vs).length) none) → W p l e rm s m args below meth c s.heap [] 0 0 (MQ below Qc args s mc ms free) (F0 m 0 ls [])) : Met l y (rv_ws y cc maxL ret) rm (va_Pc vs P) Qc mc ms free := by
  refine Met.ofW (cc := cc) (maxL := maxL) (ret := ret) (by rw [hy]; exact hp) rfl ?_
  intro p e s m args below meth c s₁ B hml hv
  obtain ⟨rfl, hP⟩ := hv
  have hts := atoms_spec (ws := rv_ws y cc maxL ret) B.pre
  have hown : s.vm.findClass own = some m.cls := by rw [← hy]; exact findClass_of_methodNamed B.named
  rw [lg_entry_eq]
  exact body p e s m vs.toArray below meth c _ ⟨B.exec, B.bytes, hml, hown, fun w hw => hts w (List.mem_cons_of_mem _ hw)⟩ B.returns B.notSynchronized hP (rv_entryL vs hvn (lv_entry vs (n := maxL) (by rw [← rv_lv_len]; exact hvn)))
abbrev rJ_ar (cO : ClassId) (a cap : Nat) (f : Nat → Option Nat) : Nat × va_E := (a, .inl (cO, cap, .inr (.inr (.inr (.inr f)))))
def rJ_el (D : va_G) (ci z0 e : Nat) (f : Nat → Option Nat) (H : Heap) : Prop := ∀ j y, f j = some y → y < z0 ∧ y ≠ e ∧ ∃ vs : List Value, va_at D vwCl (y, .inr (ci, vs)) H
section JA
variable {l : Launch} {D : va_G} {cI cZ cO : ClassId} {mi de z0 ci : Nat} {r : vw_C}
abbrev rmJ_cp : Room := { frames := 2, cells := 1, slots := 100, locals := 60 }
def rJ_cA (z0 e : Nat) : Nat → Prop := fun q => z0 ≤ q ∨ q = e
def rJ_cP (D : va_G) (cI cZ cO : ClassId) (mi de z0 ci : Nat) (r : vw_C) (e cap : Nat) (f : Nat → Option Nat) (U : State) : Prop := rJ_X D cI cZ cO mi de (rJ_cA z0 e) U U.heap ∧ va_at D vwCl (rJ_ar cO e cap f) U.heap ∧ e < z0 ∧ z0 ≤ U.heap.size ∧ rJ_el D ci z0 e f U.heap ∧ va_Nw (.castable r.1 "java/lang/Object") U
def rJ_cQ (D : va_G) (cO : ClassId) (z0 e cap N : Nat) (f : Nat → Option Nat) : Array Value → State → Outcome → State → Prop := va_Qr (fun (_ : Unit) => True) (fun _ a t => z0 ≤ a ∧ va_at D vwCl (rJ_ar cO a N (va_cpy f (fun _ => none) 0 0 cap)) t.heap) (rJ_cA z0 e)
theorem cJ_copy1 (hc : vwCl[ci]? = some r) {e9 cap N : Nat} {n' : Int32} {f : Nat → Option Nat} (hN : n'.toNatClampNeg = N) (h0 : ¬ n' < 0) (hle : cap ≤ N) (hN2 : N ≤ 100) (hlt : ¬ n' < nI cap) : Met l yJ7_copyOf_6403c (rv_ws yJ7_copyOf_6403c cJ7_copyOf_6403c 4 (some (.array (.object "java/lang/Object")))) rmJ_cp (va_Pc [.ref e9, .int n', .ref mi] (rJ_cP D cI cZ cO mi de z0 ci r e9 cap f)) (rJ_cQ D cO z0 e9 cap N f) 1 100 (rJ_cA z0 e9) := by
  refine rJ_met (own := RJ7) rfl (by decide) (Nat.le_of_ble_eq_true rfl) (fun p e s m args below meth c ls E hret hlk hP hl => ?_)
  obtain ⟨hX, hat, he9, hz0, hel, hca⟩ := hP
  change rv_has ls [some (.ref e9), some (.int n'), some (.ref mi), none] at hl
  have hts := E.2.2.2.2
  refine lv_aload_n E.1 E.2.1 dJ7_copyOf_6403c_0 rfl (hl.2.2 2 _ rfl) ?_
  refine va_ldcM E.1 E.2.1 E.2.2.2.1 (hts _ wJa_110) hX.2.1 dJ7_copyOf_6403c_1 ?_
  refine lv_acmp_ne (rx := some mi) (ry := some mi) (tgt := 13) E.1 E.2.1 dJ7_copyOf_6403c_3 (by decide) (fun z => absurd rfl z) (fun _ => ?_)
  refine lv_iload_n E.1 E.2.1 dJ7_copyOf_6403c_6 rfl (hl.2.2 1 _ rfl) ?_
  have hA : ∀ q, s.heap.size ≤ q → rJ_cA z0 e9 q := fun q hq => Or.inl (Nat.le_trans hz0 hq)
  refine va_newq (D := D) (cl := vwCl) (A := rJ_cA z0 e9) (ws := [rJ_ar cO e9 cap f]) E.1 E.2.1 E.2.2.2.1 (hts _ wJa_2) hX.2.2.2.1 hX.1 (rJ_1 hat) (rJ_D1 (Or.inr rfl)) va_S.rf hA h0 hN (by omega) (Nat.le_of_ble_eq_true rfl) (by show 0 + N ≤ 100; omega) dJ7_copyOf_6403c_7 (fun q cA H1 hK1 hP1 hD1 hS1 => ?_)
  have hcA : cA = cO := by
    obtain ⟨k1, c1, -, -, -, g4⟩ := (hK1.2 3 _ rfl).2
    obtain ⟨k2, c2, -, -, -, g8⟩ := (hK1.2 2 _ rfl).2
    exact Option.some.inj (g4.symm.trans g8)
  subst hcA
  have hq0 : e9 ≠ q := fun z => absurd (hD1.1 0 1 _ _ rfl rfl z) (by decide)
  have hqz : z0 ≤ q := (hD1.2 1 _ rfl).elim id (fun z => absurd z.symm hq0)
  refine lv_goto (tgt := 24) E.1 E.2.1 dJ7_copyOf_6403c_10 (by decide) ?_
  refine lv_astore_n E.1 E.2.1 dJ7_copyOf_6403c_24 rfl (rv_has_k hl) (Nat.le_of_ble_eq_true rfl) rfl (fun ls' hl' => ?_)
  have hl2 : rv_has ls' [some (.ref e9), some (.int n'), some (.ref mi), some (.ref q)] := rv_has_set (i := 3) (Nat.le_of_ble_eq_true rfl) rfl hl'
  refine lv_aload_n E.1 E.2.1 dJ7_copyOf_6403c_25 rfl (hl2.2.2 0 _ rfl) ?_
  refine lv_iconst (v := 0) E.1 E.2.1 dJ7_copyOf_6403c_26 rfl ?_
  refine lv_aload_n E.1 E.2.1 dJ7_copyOf_6403c_27 rfl (hl2.2.2 3 _ rfl) ?_
  refine lv_iconst (v := 0) E.1 E.2.1 dJ7_copyOf_6403c_28 rfl ?_
  refine lv_aload_n E.1 E.2.1 dJ7_copyOf_6403c_29 rfl (hl2.2.2 0 _ rfl) ?_
  refine va_alen (v := nI cap) E.1 E.2.1 hX.1 hP1 0 2 rfl rfl rfl dJ7_copyOf_6403c_30 ?_
  refine lv_iload_n E.1 E.2.1 dJ7_copyOf_6403c_31 rfl (hl2.2.2 1 _ rfl) ?_
  refine va_mmin (x := nI cap) (y := n') E.1 E.2.1 (E.2.2.1.trans hl2.1.symm) E.2.2.2.1 (hts _ wJa_min304) (hts _ wJa_mins) (hts _ wJa_mth) (hts _ wJa_minc) (Nat.le_of_ble_eq_true rfl) (Nat.le_of_ble_eq_true rfl) (Nat.le_of_ble_eq_true rfl) (by show 0 + N ≤ 100; omega) dJ7_copyOf_6403c_32 ?_
  rw [if_neg hlt]
  have hcap : (nI cap).toNatClampNeg = cap := nI_clamp (by omega)
  refine va_copyM E.1 E.2.1 (E.2.2.1.trans hl2.1.symm) E.2.2.2.1 (hts _ wJa_150) (hts _ wJa_acn) (hts _ wJa_acs) (hts _ wJa_sys) hK1 hP1 hD1 hS1 0 1 2 2 rfl rfl rfl rfl (by decide) (by decide) (Int32.not_lt.mpr (nI_pos' (by omega))) (by show 0 + (nI cap).toNatClampNeg ≤ cap; omega) (by show 0 + (nI cap).toNatClampNeg ≤ N; omega) (fun i hi y hy => ?_) (Nat.le_of_ble_eq_true rfl) (Nat.le_of_ble_eq_true rfl) dJ7_copyOf_6403c_35 (fun H2 locs2 hP2 hD2 hS2 => ?_)
  · obtain ⟨hy1, hy2, vs, hy3⟩ := hel _ _ hy
    exact va_rAny (E := "java/lang/Object") hX.1 (rJ_1 (hy3.kept (hS1.2.1 y (Nat.lt_of_lt_of_le hy1 hz0) (fun z => z.elim (fun z => absurd hy1 (Nat.not_lt.mpr z)) hy2)))) (q0 := 0) rfl hc (fun comp c0 a b => vb_asgC hca comp c0 a b)
  · refine lv_aload_n E.1 E.2.1 dJ7_copyOf_6403c_38 rfl (hl2.2.2 3 _ rfl) ?_
    refine W.widen (k := 1) (n := 100) (Nat.le_of_ble_eq_true rfl) (by show 0 + N ≤ 100; omega) ?_
    refine W.aret E.1 E.2.1 hret (Or.inr ⟨_, rfl⟩) (Or.inr ⟨_, rfl⟩) (fun t ht hW => ⟨⟨(), q, rfl, trivial, hqz, ?_⟩, hS2.F ht⟩) hS2.2.2 dJ7_copyOf_6403c_39 (hlocks := hlk)
    rw [ht]
    have h9 := hP2 1 _ rfl
    rw [hcap] at h9
    exact h9
theorem rJ_cP.bl {r : vw_C} {e cap : Nat} {f : Nat → Option Nat} {av : List Value} : FrameBlind (va_Pc av (rJ_cP D cI cZ cO mi de z0 ci r e cap f)) := fun a U g mk hq => ⟨hq.1, hq.2.1.mv (u := U) (U := U.calling g mk a) (Vm.Alike.refl U.vm), hq.2.2.1, hq.2.2.2.1, hq.2.2.2.2.1, hq.2.2.2.2.2.1, hq.2.2.2.2.2.2.same rfl rfl⟩
theorem rJ_cP.go {r : vw_C} {e cap : Nat} {f : Nat → Option Nat} {s U : State} {H : Heap} (hU : U.heap = H) (hW : s.WarmedH U.vm) (h1 : rJ_X D cI cZ cO mi de (rJ_cA z0 e) s H) (h2 : va_at D vwCl (rJ_ar cO e cap f) H) (h3 : e < z0) (h4 : z0 ≤ H.size) (h5 : rJ_el D ci z0 e f H) (h6 : va_Nw (.castable r.1 "java/lang/Object") s) : rJ_cP D cI cZ cO mi de z0 ci r e cap f U := by
  subst hU
  exact ⟨h1.mv hW.alike, h2, h3, h4, h5, h6.warmC hW⟩
theorem rJ_el.kp {e : Nat} {f : Nat → Option Nat} {H H1 : Heap} {B : Nat → Prop} (h : rJ_el D ci z0 e f H) (hz : z0 ≤ H.size) (hB : ∀ j y, f j = some y → ¬ B y) (hk : ∀ q : Nat, q < H.size → ¬ B q → H1[q]? = H[q]?) : rJ_el D ci z0 e f H1 := fun j y hy => by
  obtain ⟨h1, h2, vs, h3⟩ := h j y hy
  exact ⟨h1, h2, vs, h3.kept (hk y (Nat.lt_of_lt_of_le h1 hz) (hB j y hy))⟩
abbrev rmJ_cp2 : Room := { frames := 3, cells := 1, slots := 100, locals := 90 }
theorem cJ_copy2 (hc : vwCl[ci]? = some r) {e9 cap N : Nat} {n' : Int32} {f : Nat → Option Nat} (hN : n'.toNatClampNeg = N) (h0 : ¬ n' < 0) (hle : cap ≤ N) (hN2 : N ≤ 100) (hlt : ¬ n' < nI cap) : Met l yJ7_copyOf_1904c (rv_ws yJ7_copyOf_1904c cJ7_copyOf_1904c 2 (some (.array (.object "java/lang/Object")))) rmJ_cp2 (va_Pc [.ref e9, .int n'] (rJ_cP D cI cZ cO mi de z0 ci r e9 cap f)) (rJ_cQ D cO z0 e9 cap N f) 1 100 (rJ_cA z0 e9) := by
  refine rJ_met (own := RJ7) rfl (by decide) (Nat.le_of_ble_eq_true rfl) (fun p e s m args below meth c ls E hret hlk hP hl => ?_)
  obtain ⟨hX, hat, he9, hz0, hel, hca⟩ := hP
  change rv_has ls [some (.ref e9), some (.int n')] at hl
  have hts := E.2.2.2.2
  refine lv_aload_n E.1 E.2.1 dJ7_copyOf_1904c_0 rfl (hl.2.2 0 _ rfl) ?_
  refine lv_iload_n E.1 E.2.1 dJ7_copyOf_1904c_1 rfl (hl.2.2 1 _ rfl) ?_
  refine lv_aload_n E.1 E.2.1 dJ7_copyOf_1904c_2 rfl (hl.2.2 0 _ rfl) ?_
  refine va_getC E.1 E.2.1 (E.2.2.1.trans hl.1.symm) E.2.2.2.1 (hts _ wJa_86) hX.2.2.1.use (hts _ wJa_gs) (hts _ wJa_gi) (hts _ wJa_gn) hX.2.1 ⟨_, hat, rfl, ?_⟩ (Nat.le_of_ble_eq_true rfl) (Nat.le_of_ble_eq_true rfl) dJ7_copyOf_1904c_3 ?_
  · obtain ⟨k2, c2, -, -, -, g8⟩ := (hX.1.2 2 _ rfl).2
    exact g8
  refine va_callr (va_runS (As := [.ref e9, .int n', .ref mi]) (rest := []) E (cJ_copy1 (z0 := z0) (f := f) hc hN h0 hle hN2 hlt) (va_cwS 3 hts gJ7_300 rfl rfl rfl (by decide +kernel) ⟨Nat.le_of_ble_eq_true rfl, Nat.le_of_ble_eq_true rfl⟩) ⟨rJ_cP.bl, fun U hU hW => ⟨rfl, rJ_cP.go hU hW hX hat he9 hz0 hel hca⟩⟩ rfl rfl hl.1 rfl (by simp) dJ7_copyOf_1904c_6 ⟨Nat.le_of_ble_eq_true rfl, Nat.le_of_ble_eq_true rfl⟩) va_S.rf (fun q _ hq => hq) (fun q hq => hq) (fun u ra t H1 locs1 ht hvm hw hB hz1 hk1 hS1 => ?_)
  refine W.aret E.1 E.2.1 hret (Or.inr ⟨_, rfl⟩) (Or.inr ⟨_, rfl⟩) (fun t2 ht2 hW => ⟨⟨(), ra, rfl, trivial, hB.1, ?_⟩, hS1.F ht2⟩) hS1.2.2 dJ7_copyOf_1904c_9 (hlocks := hlk)
  rw [ht2, ← ht]; exact hB.2
abbrev rmJ_nl : Room := { frames := 1, cells := 0, slots := 0, locals := 30 }
theorem cJ_newl {a b c0 v : Int32} (hv : a + (if b < c0 then c0 else b) = v) (h0 : 0 < v) (h1 : v ≤ 2147483639) : Met l yJ8_newLength_cabcc (rv_ws yJ8_newLength_cabcc cJ8_newLength_cabcc 4 (some .int)) rmJ_nl (va_Pc [.int a, .int b, .int c0] (fun _ => True)) (rR_SQ v) 0 0 (fun _ => False) := by
  refine rJ_met (own := RJ8) rfl (by decide) (Nat.le_of_ble_eq_true rfl) (fun p e s m args below meth c ls E hret hlk hP hl => ?_)
  change rv_has ls [some (.int a), some (.int b), some (.int c0), none] at hl
  have hts := E.2.2.2.2
  refine lv_iload_n E.1 E.2.1 dJ8_newLength_cabcc_0 rfl (hl.2.2 0 _ rfl) ?_
  refine lv_iload_n E.1 E.2.1 dJ8_newLength_cabcc_1 rfl (hl.2.2 1 _ rfl) ?_
  refine lv_iload_n E.1 E.2.1 dJ8_newLength_cabcc_2 rfl (hl.2.2 2 _ rfl) ?_
  refine va_mmax (x := b) (y := c0) E.1 E.2.1 (E.2.2.1.trans hl.1.symm) E.2.2.2.1 (hts _ wJa_max194) (hts _ wJa_maxs) (hts _ wJa_mth) (hts _ wJa_maxc) (Nat.le_of_ble_eq_true rfl) (Nat.le_of_ble_eq_true rfl) (Nat.le_of_ble_eq_true rfl) (Nat.le_of_ble_eq_true rfl) dJ8_newLength_cabcc_3 ?_
  refine lv_iadd E.1 E.2.1 dJ8_newLength_cabcc_6 ?_
  rw [hv]
  refine lv_istore_n E.1 E.2.1 dJ8_newLength_cabcc_7 rfl (rv_has_k hl) (Nat.le_of_ble_eq_true rfl) rfl (fun ls' hl' => ?_)
  have hl2 : rv_has ls' [some (.int a), some (.int b), some (.int c0), some (.int v)] := rv_has_set (i := 3) (Nat.le_of_ble_eq_true rfl) rfl hl'
  refine lv_iconst (v := 0) E.1 E.2.1 dJ8_newLength_cabcc_8 rfl ?_
  refine lv_iload_n E.1 E.2.1 dJ8_newLength_cabcc_9 rfl (hl2.2.2 3 _ rfl) ?_
  refine lv_icmp_ge (tgt := 21) E.1 E.2.1 dJ8_newLength_cabcc_10 (by decide) (fun z => absurd z (Int32.not_le.mpr h0)) (fun _ => ?_)
  refine lv_iload_n E.1 E.2.1 dJ8_newLength_cabcc_13 rfl (hl2.2.2 3 _ rfl) ?_
  refine lv_ldc E.1 E.2.1 E.2.2.2.1 (hts _ wJa_200) dJ8_newLength_cabcc_14 ?_
  refine lv_icmp_gt (tgt := 21) E.1 E.2.1 dJ8_newLength_cabcc_16 (by decide) (fun z => absurd z (Int32.not_lt.mpr h1)) (fun _ => ?_)
  refine lv_iload_n E.1 E.2.1 dJ8_newLength_cabcc_19 rfl (hl2.2.2 3 _ rfl) ?_
  exact W.iret E.1 E.2.1 hret (fun t ht hW => ⟨⟨v, (), rfl, rfl, trivial⟩, va_S.rf.F ht⟩) (fun q hq => by cases hq) dJ8_newLength_cabcc_20 (hlocks := hlk)
def rJ_nw (cap : Nat) : Int32 := nI cap + (if nI (cap + 1) - nI cap < nI cap >>> (1 &&& 31) then nI cap >>> (1 &&& 31) else nI (cap + 1) - nI cap)
theorem rJ_num : ∀ cap, cap < 64 → 10 ≤ cap → 0 < rJ_nw cap ∧ rJ_nw cap ≤ 2147483639 ∧ ¬ rJ_nw cap < 0 ∧ ¬ rJ_nw cap < nI cap ∧ cap < (rJ_nw cap).toNatClampNeg ∧ (rJ_nw cap).toNatClampNeg ≤ 100 := by decide +kernel
abbrev rJ_ls (lk : Nat) (mc : Int32) (e n : Nat) : Nat × va_E := (lk, .inr (0, [.int mc, .ref e, .int (nI n)]))
def rJ_A (z0 lk n e : Nat) : Nat → Prop := fun q => z0 ≤ q ∨ q = lk ∨ (0 < n ∧ q = e)
def rJ_P (D : va_G) (cI cZ cO : ClassId) (mi de z0 ci : Nat) (r : vw_C) (lk e n cap : Nat) (mc : Int32) (f : Nat → Option Nat) (U : State) : Prop := rJ_X D cI cZ cO mi de (rJ_A z0 lk n e) U U.heap ∧ va_at D vwCl (rJ_ls lk mc e n) U.heap ∧ rC_LA D cO e n cap f U.heap ∧ z0 ≤ U.heap.size ∧ rJ_el D ci z0 e f U.heap ∧ va_Nw (.castable r.1 "java/lang/Object") U
def rJ_h (de z0 lk e n cap : Nat) (f : Nat → Option Nat) : Prop := lk < z0 ∧ e < z0 ∧ lk ≠ e ∧ (∀ j y, f j = some y → y ≠ lk) ∧ n ≤ cap ∧ cap ≤ 100 ∧ (n = 0 → e = de ∧ cap = 0) ∧ (0 < n → 10 ≤ cap) ∧ ∀ j, n ≤ j → f j = none
theorem rJ_P.bl {r : vw_C} {lk e n cap : Nat} {mc : Int32} {f : Nat → Option Nat} {av : List Value} : FrameBlind (va_Pc av (rJ_P D cI cZ cO mi de z0 ci r lk e n cap mc f)) := fun a U g mk hq => ⟨hq.1, hq.2.1.mv (u := U) (U := U.calling g mk a) (Vm.Alike.refl U.vm), hq.2.2.1, hq.2.2.2.1, hq.2.2.2.2.1, hq.2.2.2.2.2.1, hq.2.2.2.2.2.2.same rfl rfl⟩
theorem rJ_P.go {r : vw_C} {lk e n cap : Nat} {mc : Int32} {f : Nat → Option Nat} {s U : State} {H : Heap} (hU : U.heap = H) (hW : s.WarmedH U.vm) (h1 : rJ_X D cI cZ cO mi de (rJ_A z0 lk n e) s H) (h2 : va_at D vwCl (rJ_ls lk mc e n) H) (h3 : rC_LA D cO e n cap f H) (h4 : z0 ≤ H.size) (h5 : rJ_el D ci z0 e f H) (h6 : va_Nw (.castable r.1 "java/lang/Object") s) : rJ_P D cI cZ cO mi de z0 ci r lk e n cap mc f U := by
  subst hU
  exact ⟨h1.mv hW.alike, h2, h3, h4, h5, h6.warmC hW⟩
def rJ_gQ (D : va_G) (cO : ClassId) (z0 lk e n : Nat) (mc : Int32) (f : Nat → Option Nat) : Array Value → State → Outcome → State → Prop := va_Qr (fun (u : Nat × (Nat → Option Nat)) => n < u.1 ∧ u.1 ≤ 100 ∧ 10 ≤ u.1 ∧ (∀ j, j < n → u.2 j = f j) ∧ ∀ j, n ≤ j → u.2 j = none) (fun u a t => z0 ≤ a ∧ va_at D vwCl (rJ_ls lk mc a n) t.heap ∧ va_at D vwCl (rJ_ar cO a u.1 u.2) t.heap) (rJ_A z0 lk n e)
abbrev rmJ_g1 : Room := { frames := 4, cells := 1, slots := 100, locals := 115 }
theorem cJ_grow1 (hc : vwCl[ci]? = some r) {lk e9 n cap : Nat} {mc : Int32} {f : Nat → Option Nat} (hh : rJ_h de z0 lk e9 n cap f) (hn : n < 64) (hfull : n = cap) : Met l yJx4a65c_grow_92f84 (rv_ws yJx4a65c_grow_92f84 cJx4a65c_grow_92f84 4 (some (.array (.object "java/lang/Object")))) rmJ_g1 (va_Pc [.ref lk, .int (nI (n + 1))] (rJ_P D cI cZ cO mi de z0 ci r lk e9 n cap mc f)) (rJ_gQ D cO z0 lk e9 n mc f) 1 100 (rJ_A z0 lk n e9) := by
  obtain ⟨i1, i2, i3, i4, i5, i6, i7, i8, i9⟩ := hh
  refine rJ_met (own := RJx4a65c) rfl (by decide) (Nat.le_of_ble_eq_true rfl) (fun p e s m args below meth c ls E hret hlk hP hl => ?_)
  obtain ⟨hX, hls, har, hz0, hel, hca⟩ := hP
  change rv_has ls [some (.ref lk), some (.int (nI (n + 1))), none, none] at hl
  have hts := E.2.2.2.2
  have hA : ∀ q, s.heap.size ≤ q → rJ_A z0 lk n e9 q := fun q hq => Or.inl (Nat.le_trans hz0 hq)
  refine lv_aload_n E.1 E.2.1 dJx4a65c_grow_92f84_0 rfl (hl.2.2 0 _ rfl) ?_
  refine va_get (D := D) (ci := 0) (C := RJx4a65c) (T := TJx4a65c) (N := 3) E.1 E.2.1 hts wlJL E.2.2.2.1 hX.1 (rJ_1 hls) 0 rfl rfl 1 (by decide) (hts _ wfJL_9) (fun x hx => hx) rfl dJx4a65c_grow_92f84_1 ?_
  refine rC_LA.alen (v := nI cap) E.1 E.2.1 hX.1 har rfl dJx4a65c_grow_92f84_4 ?_
  refine lv_istore_n E.1 E.2.1 dJx4a65c_grow_92f84_5 rfl (rv_has_k hl) (Nat.le_of_ble_eq_true rfl) rfl (fun ls' hl' => ?_)
  have hl2 : rv_has ls' [some (.ref lk), some (.int (nI (n + 1))), some (.int (nI cap)), none] := rv_has_set (i := 2) (Nat.le_of_ble_eq_true rfl) rfl hl'
  refine lv_iload_n E.1 E.2.1 dJx4a65c_grow_92f84_6 rfl (hl2.2.2 2 _ rfl) ?_
  refine lv_if_gt (tgt := 20) E.1 E.2.1 dJx4a65c_grow_92f84_7 (by decide) (fun hpos => ?_) (fun hpos => ?_)
  · have hn0 : 0 < n := by
      rcases Nat.eq_zero_or_pos n with z | z
      · rw [(i7 z).2] at hpos; exact absurd hpos (by decide)
      · exact z
    have hcap : 10 ≤ cap := i8 hn0
    obtain ⟨b1, b2, b3, b4, b5, b6⟩ := rJ_num cap (by omega) hcap
    refine lv_iload_n E.1 E.2.1 dJx4a65c_grow_92f84_20 rfl (hl2.2.2 2 _ rfl) ?_
    refine lv_iload_n E.1 E.2.1 dJx4a65c_grow_92f84_21 rfl (hl2.2.2 1 _ rfl) ?_
    refine lv_iload_n E.1 E.2.1 dJx4a65c_grow_92f84_22 rfl (hl2.2.2 2 _ rfl) ?_
    refine lv_isub E.1 E.2.1 dJx4a65c_grow_92f84_23 ?_
    refine lv_iload_n E.1 E.2.1 dJx4a65c_grow_92f84_24 rfl (hl2.2.2 2 _ rfl) ?_
    refine lv_iconst (v := 1) E.1 E.2.1 dJx4a65c_grow_92f84_25 rfl ?_
    refine lv_ishr E.1 E.2.1 dJx4a65c_grow_92f84_26 ?_
    refine va_calli (va_runS (As := [.int (nI cap), .int (nI (n + 1) - nI cap), .int (nI cap >>> (1 &&& 31))]) (rest := []) E (cJ_newl (v := rJ_nw cap) (by rw [hfull]; rfl) b1 b2) (va_cwS 3 hts gJL_73 rfl rfl rfl (by decide +kernel) ⟨Nat.le_of_ble_eq_true rfl, Nat.le_of_ble_eq_true rfl⟩) ⟨fun a U g mk hq => hq, fun U hU hW => ⟨rfl, trivial⟩⟩ rfl rfl hl2.1 rfl (by simp) dJx4a65c_grow_92f84_27 ⟨Nat.le_of_ble_eq_true rfl, Nat.le_of_ble_eq_true rfl⟩) (va_S.rf (A := rJ_A z0 lk n e9)) (fun _ _ hq => hq.elim) (fun _ hq => hq.elim) (fun r9 u t H1 locs1 ht hvm hw hB hz1 hk1 hS1 => ?_)
    subst hw
    have kp1 : ∀ q : Nat, q < s.heap.size → H1[q]? = s.heap[q]? := fun q hq => hk1 q hq (fun z => z)
    have hls1 := hls.kept (kp1 _ (Nat.lt_of_lt_of_le i1 hz0))
    have har1 := har.kept (kp1 _ (Nat.lt_of_lt_of_le i2 hz0))
    have hel1 : rJ_el D ci z0 e9 f H1 := hel.kp hz0 (B := fun _ => False) (fun _ _ _ z => z) (fun q hq _ => kp1 q hq)
    refine lv_istore_n E.1 E.2.1 dJx4a65c_grow_92f84_30 rfl (rv_has_k hl2) (Nat.le_of_ble_eq_true rfl) rfl (fun ls3 hl' => ?_)
    have hl3 : rv_has ls3 [some (.ref lk), some (.int (nI (n + 1))), some (.int (nI cap)), some (.int (rJ_nw cap))] := rv_has_set (i := 3) (Nat.le_of_ble_eq_true rfl) rfl hl'
    refine lv_aload_n E.1 E.2.1 dJx4a65c_grow_92f84_31 rfl (hl3.2.2 0 _ rfl) ?_
    refine lv_aload_n E.1 E.2.1 dJx4a65c_grow_92f84_32 rfl (hl3.2.2 0 _ rfl) ?_
    refine va_get (D := D) (ci := 0) (C := RJx4a65c) (T := TJx4a65c) (N := 3) E.1 E.2.1 hts wlJL E.2.2.2.1 hX.1 (rJ_1 hls1) 0 rfl rfl 1 (by decide) (hts _ wfJL_9) (fun x hx => hx) rfl dJx4a65c_grow_92f84_33 ?_
    refine lv_iload_n E.1 E.2.1 dJx4a65c_grow_92f84_36 rfl (hl3.2.2 3 _ rfl) ?_
    have hsub : ∀ q, rJ_cA z0 e9 q → rJ_A z0 lk n e9 q := fun q hq => hq.elim Or.inl (fun z => Or.inr (Or.inr ⟨hn0, z⟩))
    refine va_callr (va_runS (As := [.ref e9, .int (rJ_nw cap)]) (rest := [.ref lk]) E (cJ_copy2 (z0 := z0) (f := f) hc rfl b3 (by omega) b6 b4) (va_cwS 2 hts gJL_66 rfl rfl rfl (by decide +kernel) ⟨Nat.le_of_ble_eq_true rfl, Nat.le_of_ble_eq_true rfl⟩) ⟨rJ_cP.bl, fun U hU hW => ⟨rfl, rJ_cP.go hU hW ((hX.kp hS1).nar hsub) (har1.2 hn0) i2 (Nat.le_trans hz0 hz1) hel1 hca⟩⟩ rfl rfl hl3.1 rfl (Nat.le_of_ble_eq_true rfl) dJx4a65c_grow_92f84_37 ⟨Nat.le_of_ble_eq_true rfl, Nat.le_of_ble_eq_true rfl⟩) hS1 (fun q _ hq => hsub q hq) (fun q hq => hsub q hq) (fun u ra t2 H2 locs2 ht2 hvm2 hw2 hB2 hz2 hk2 hS2 => ?_)
    obtain ⟨hra, hnew⟩ := hB2
    rw [ht2] at hnew
    have hls2 := hls1.kept (hk2 _ (Nat.lt_of_lt_of_le (Nat.lt_of_lt_of_le i1 hz0) hz1) (fun z => z.elim (fun z => absurd i1 (Nat.not_lt.mpr z)) i3))
    refine lv_dup_x1 (va := .ref ra) (vb := .ref lk) E.1 E.2.1 dJx4a65c_grow_92f84_40 rfl rfl ?_
    refine va_put E.1 E.2.1 (T := TJx4a65c) (N := 3) (C := RJx4a65c) hts wlJL tyJx4a65c tyJx4a65c_ok nmJx4a65c E.2.2.2.1 hX.1 (rJ_2 hls2 hnew) (rJ_D2 (Or.inr (Or.inl rfl)) (Or.inl hra) (fun z => by have : lk = ra := z; omega)) hS2 0 rfl rfl 1 (by decide) (hts _ wfJL_9) (fun x hx => hx) rfl rfl rfl rfl (Nat.le_of_ble_eq_true rfl) dJx4a65c_grow_92f84_41 (fun H3 locs3 hP3 hD3 hS3 => ?_)
    refine W.aret E.1 E.2.1 hret (Or.inr ⟨_, rfl⟩) (Or.inr ⟨_, rfl⟩) (fun t3 ht3 hW => ⟨⟨((rJ_nw cap).toNatClampNeg, va_cpy f (fun _ => none) 0 0 cap), ra, rfl, ⟨by omega, b6, by omega, fun j hj => ?_, fun j hj => ?_⟩, hra, by rw [ht3]; exact hP3 0 _ rfl, by rw [ht3]; exact hP3 1 _ rfl⟩, hS3.F ht3⟩) hS3.2.2 dJx4a65c_grow_92f84_44 (hlocks := hlk)
    · show va_cpy f (fun _ => none) 0 0 cap j = f j
      unfold va_cpy
      rw [if_pos ⟨Nat.zero_le _, by omega⟩]
      congr 1; omega
    · show va_cpy f (fun _ => none) 0 0 cap j = none
      unfold va_cpy
      rw [if_neg (by omega)]
  · have hn0 : n = 0 := by
      rcases Nat.eq_zero_or_pos n with z | z
      · exact z
      · exact absurd (show (0 : Int32) < nI cap from nI_lt (a := 0) (by omega) (by omega)) hpos
    subst hn0
    obtain ⟨j1, j2⟩ := i7 rfl
    refine lv_aload_n E.1 E.2.1 dJx4a65c_grow_92f84_10 rfl (hl2.2.2 0 _ rfl) ?_
    refine va_get (D := D) (ci := 0) (C := RJx4a65c) (T := TJx4a65c) (N := 3) E.1 E.2.1 hts wlJL E.2.2.2.1 hX.1 (rJ_1 hls) 0 rfl rfl 1 (by decide) (hts _ wfJL_9) (fun x hx => hx) rfl dJx4a65c_grow_92f84_11 ?_
    refine va_gets E.1 E.2.1 hX.2.2.2.2 va_S.rf E.2.2.2.1 (hts _ wJa_39) (fun x hx => hx) dJx4a65c_grow_92f84_14 ?_
    refine lv_acmp_eq (rx := some e9) (ry := some de) (tgt := 45) E.1 E.2.1 dJx4a65c_grow_92f84_17 (by decide) (fun _ => ?_) (fun z => absurd (congrArg some j1) z)
    refine lv_aload_n E.1 E.2.1 dJx4a65c_grow_92f84_45 rfl (hl2.2.2 0 _ rfl) ?_
    refine lv_bipush (v := 10) E.1 E.2.1 dJx4a65c_grow_92f84_46 rfl ?_
    refine lv_iload_n E.1 E.2.1 dJx4a65c_grow_92f84_48 rfl (hl2.2.2 1 _ rfl) ?_
    refine va_mmax (x := 10) (y := nI (0 + 1)) E.1 E.2.1 (E.2.2.1.trans hl2.1.symm) E.2.2.2.1 (hts _ wJa_max79) (hts _ wJa_maxs) (hts _ wJa_mth) (hts _ wJa_maxc) (Nat.le_of_ble_eq_true rfl) (Nat.le_of_ble_eq_true rfl) (Nat.le_of_ble_eq_true rfl) (Nat.le_of_ble_eq_true rfl) dJx4a65c_grow_92f84_49 ?_
    rw [if_neg (by decide)]
    refine va_newq (D := D) (cl := vwCl) (A := rJ_A z0 lk 0 e9) (ws := [rJ_ls lk mc e9 0]) (N' := 10) E.1 E.2.1 E.2.2.2.1 (hts _ wJa_7) hX.2.2.2.1 hX.1 (rJ_1 hls) (rJ_D1 (Or.inr (Or.inl rfl))) va_S.rf hA (by decide) (by decide) (by decide) (Nat.le_of_ble_eq_true rfl) (Nat.le_of_ble_eq_true rfl) dJx4a65c_grow_92f84_52 (fun q cA H1 hK1 hP1 hD1 hS1 => ?_)
    have hcA : cA = cO := by
      obtain ⟨k1, c1, -, -, -, g4⟩ := (hK1.2 3 _ rfl).2
      obtain ⟨k2, c2, -, -, -, g8⟩ := (hK1.2 2 _ rfl).2
      exact Option.some.inj (g4.symm.trans g8)
    subst hcA
    have hq0 : lk ≠ q := fun z => absurd (hD1.1 0 1 _ _ rfl rfl z) (by decide)
    have hqz : z0 ≤ q := (hD1.2 1 _ rfl).elim id (fun z => z.elim (fun z => absurd z.symm hq0) (fun z => absurd z.1 (by decide)))
    refine lv_dup_x1 (va := .ref q) (vb := .ref lk) E.1 E.2.1 dJx4a65c_grow_92f84_55 rfl rfl ?_
    refine va_put E.1 E.2.1 (T := TJx4a65c) (N := 3) (C := RJx4a65c) hts wlJL tyJx4a65c tyJx4a65c_ok nmJx4a65c E.2.2.2.1 hX.1 hP1 hD1 hS1 0 rfl rfl 1 (by decide) (hts _ wfJL_9) (fun x hx => hx) rfl rfl rfl rfl (Nat.le_of_ble_eq_true rfl) dJx4a65c_grow_92f84_56 (fun H3 locs3 hP3 hD3 hS3 => ?_)
    refine W.widen (k := 1) (n := 100) (Nat.le_of_ble_eq_true rfl) (Nat.le_of_ble_eq_true rfl) ?_
    exact W.aret E.1 E.2.1 hret (Or.inr ⟨_, rfl⟩) (Or.inr ⟨_, rfl⟩) (fun t3 ht3 hW => ⟨⟨(10, fun _ => none), q, rfl, ⟨by decide, by decide, by decide, fun j hj => absurd hj (Nat.not_lt_zero _), fun j hj => rfl⟩, hqz, by rw [ht3]; exact hP3 0 _ rfl, by rw [ht3]; exact hP3 1 _ rfl⟩, hS3.F ht3⟩) hS3.2.2 dJx4a65c_grow_92f84_59 (hlocks := hlk)
abbrev rmJ_g0 : Room := { frames := 5, cells := 1, slots := 100, locals := 140 }
theorem cJ_grow0 (hc : vwCl[ci]? = some r) {lk e9 n cap : Nat} {mc : Int32} {f : Nat → Option Nat} (hh : rJ_h de z0 lk e9 n cap f) (hn : n < 64) (hfull : n = cap) : Met l yJx4a65c_grow_d5877 (rv_ws yJx4a65c_grow_d5877 cJx4a65c_grow_d5877 1 (some (.array (.object "java/lang/Object")))) rmJ_g0 (va_Pc [.ref lk] (rJ_P D cI cZ cO mi de z0 ci r lk e9 n cap mc f)) (rJ_gQ D cO z0 lk e9 n mc f) 1 100 (rJ_A z0 lk n e9) := by
  refine rJ_met (own := RJx4a65c) rfl (by decide) (Nat.le_of_ble_eq_true rfl) (fun p e s m args below meth c ls E hret hlk hP hl => ?_)
  obtain ⟨hX, hls, har, hz0, hel, hca⟩ := hP
  change rv_has ls [some (.ref lk)] at hl
  have hts := E.2.2.2.2
  refine lv_aload_n E.1 E.2.1 dJx4a65c_grow_d5877_0 rfl (hl.2.2 0 _ rfl) ?_
  refine lv_aload_n E.1 E.2.1 dJx4a65c_grow_d5877_1 rfl (hl.2.2 0 _ rfl) ?_
  refine va_get (D := D) (ci := 0) (C := RJx4a65c) (T := TJx4a65c) (N := 3) E.1 E.2.1 hts wlJL E.2.2.2.1 hX.1 (rJ_1 hls) 0 rfl rfl 2 (by decide) (hts _ wfJL_48) (fun x hx => hx) rfl dJx4a65c_grow_d5877_2 ?_
  refine lv_iconst (v := 1) E.1 E.2.1 dJx4a65c_grow_d5877_5 rfl ?_
  refine lv_iadd E.1 E.2.1 dJx4a65c_grow_d5877_6 ?_
  rw [← nI_succ]
  refine va_callr (va_runV (C := RJx4a65c) (b := lk) (As := [.int (nI (n + 1))]) (rest := []) E (cJ_grow1 (z0 := z0) (mc := mc) (f := f) hc hh hn hfull) (cwV 1 hts gJL_69 rfl rfl rfl (by decide +kernel) ⟨Nat.le_of_ble_eq_true rfl, Nat.le_of_ble_eq_true rfl⟩) ⟨rJ_P.bl, va_recv hX.1 (rJ_1 hls) (ci := 0) (q0 := 0) rfl rfl, fun U hU hW => ⟨rfl, rJ_P.go hU hW hX hls har hz0 hel hca⟩⟩ rfl rfl hl.1 rfl (by simp) dJx4a65c_grow_d5877_7 ⟨Nat.le_of_ble_eq_true rfl, Nat.le_of_ble_eq_true rfl⟩) va_S.rf (fun q _ hq => hq) (fun q hq => hq) (fun u ra t H1 locs1 ht hvm hw hB hz1 hk1 hS1 => ?_)
  exact W.aret E.1 E.2.1 hret (Or.inr ⟨_, rfl⟩) (Or.inr ⟨_, rfl⟩) (fun t2 ht2 hW => ⟨⟨u, ra, rfl, hw, by show z0 ≤ ra ∧ va_at _ _ _ t2.heap ∧ va_at _ _ _ t2.heap; rw [ht2, ← ht]; exact hB⟩, hS1.F ht2⟩) hS1.2.2 dJx4a65c_grow_d5877_10 (hlocks := hlk)
def rJ_aP (D : va_G) (cI cZ cO : ClassId) (mi de z0 ci : Nat) (r : vw_C) (lk e n cap : Nat) (mc : Int32) (f : Nat → Option Nat) (x : Nat) (U : State) : Prop := rJ_P D cI cZ cO mi de z0 ci r lk e n cap mc f U ∧ ∃ vs : List Value, va_at D vwCl (x, .inr (ci, vs)) U.heap
theorem rJ_aP.bl {r : vw_C} {lk e n cap x : Nat} {mc : Int32} {f : Nat → Option Nat} {av : List Value} : FrameBlind (va_Pc av (rJ_aP D cI cZ cO mi de z0 ci r lk e n cap mc f x)) := fun a U g mk hq => ⟨hq.1, (rJ_P.bl (av := av) a U g mk ⟨hq.1, hq.2.1⟩).2, hq.2.2⟩
def rJ_aB (D : va_G) (cO : ClassId) (lk n : Nat) (mc : Int32) (u : Nat × Nat × (Nat → Option Nat)) (t : State) : Prop := va_at D vwCl (rJ_ls lk mc u.1 (n + 1)) t.heap ∧ va_at D vwCl (rJ_ar cO u.1 u.2.1 u.2.2) t.heap
def rJ_ap (z0 e n x : Nat) (f : Nat → Option Nat) (u : Nat × Nat × (Nat → Option Nat)) : Prop := n < u.2.1 ∧ u.2.1 ≤ 100 ∧ 10 ≤ u.2.1 ∧ (∀ j, j < n → u.2.2 j = f j) ∧ u.2.2 n = some x ∧ (∀ j, n < j → u.2.2 j = none) ∧ (u.1 = e ∧ 0 < n ∨ z0 ≤ u.1)
abbrev rmJ_a3 : Room := { frames := 6, cells := 1, slots := 100, locals := 165 }
theorem cJ_add3 (hc : vwCl[ci]? = some r) {lk e9 n cap x : Nat} {mc : Int32} {f : Nat → Option Nat} (hh : rJ_h de z0 lk e9 n cap f) (hn : n < 64) (hx : x < z0 ∧ x ≠ lk ∧ x ≠ e9) : Met l yJx4a65c_add_72be8 (rv_ws yJx4a65c_add_72be8 cJx4a65c_add_72be8 4 none) rmJ_a3 (va_Pc [.ref lk, .ref x, .ref e9, .int (nI n)] (rJ_aP D cI cZ cO mi de z0 ci r lk e9 n cap mc f x)) (va_Qv (rJ_ap z0 e9 n x f) (rJ_aB D cO lk n mc) (rJ_A z0 lk n e9)) 1 100 (rJ_A z0 lk n e9) := by
  refine rJ_met (own := RJx4a65c) rfl (by decide) (Nat.le_of_ble_eq_true rfl) (fun p e s m args below meth c ls E hret hlk hP hl => ?_)
  obtain ⟨⟨hX, hls, har, hz0, hel, hca⟩, vs, hxa⟩ := hP
  change rv_has ls [some (.ref lk), some (.ref x), some (.ref e9), some (.int (nI n))] at hl
  have hts := E.2.2.2.2
  have i5 := hh.2.2.2.2.1
  have i6 := hh.2.2.2.2.2.1
  have i7 := hh.2.2.2.2.2.2.1
  have i8 := hh.2.2.2.2.2.2.2.1
  have i9 := hh.2.2.2.2.2.2.2.2
  have tail : ∀ (H : Heap) (locs : List Loc) (ls : Array Slot) (e' cap' : Nat) (f' : Nat → Option Nat) (cl sl : Nat), cl ≤ 1 → sl ≤ 100 → va_S (rJ_A z0 lk n e9) s.heap H locs → rv_has ls [some (.ref lk), some (.ref x), some (.ref e'), some (.int (nI n))] → va_at D vwCl (rJ_ls lk mc e' n) H → va_at D vwCl (rJ_ar cO e' cap' f') H → n < cap' → cap' ≤ 100 → 10 ≤ cap' → (∀ j, j < n → f' j = f j) → (∀ j, n ≤ j → f' j = none) → (e' = e9 ∧ 0 < n ∨ z0 ≤ e') →
      W p l e rmJ_a3 s m args below meth c H locs cl sl (MQ below (va_Qv (rJ_ap z0 e9 n x f) (rJ_aB D cO lk n mc) (rJ_A z0 lk n e9)) args s 1 100 (rJ_A z0 lk n e9)) (F0 m 11 ls []) := by
    intro H locs ls e' cap' f' cl sl hcl hsl hS hl hls har h1 h2 h3 h4 h5 h6
    have hAe : rJ_A z0 lk n e9 e' := h6.elim (fun z => Or.inr (Or.inr ⟨z.2, z.1⟩)) Or.inl
    have hle : lk ≠ e' := h6.elim (fun z => by rw [z.1]; exact hh.2.2.1) (fun z w => by have := hh.1; omega)
    have hxH : va_at D vwCl (x, .inr (ci, vs)) H := hxa.kept (hS.2.1 x (Nat.lt_of_lt_of_le hx.1 hz0) (fun z => z.elim (fun z => absurd hx.1 (Nat.not_lt.mpr z)) (fun z => z.elim hx.2.1 (fun z => hx.2.2 z.2))))
    refine lv_aload_n E.1 E.2.1 dJx4a65c_add_72be8_11 rfl (hl.2.2 2 _ rfl) ?_
    refine lv_iload_n E.1 E.2.1 dJx4a65c_add_72be8_12 rfl (hl.2.2 3 _ rfl) ?_
    refine lv_aload_n E.1 E.2.1 dJx4a65c_add_72be8_13 rfl (hl.2.2 1 _ rfl) ?_
    refine va_astqM (E := "java/lang/Object") E.1 E.2.1 hX.1 (rJ_2 hls har) (rJ_D2 (Or.inr (Or.inl rfl)) hAe hle) hS 1 2 rfl rfl (va_rAny hX.1 (rJ_1 hxH) (q0 := 0) rfl hc (fun comp c0 a b => vb_asgC hca comp c0 a b)) (nI_in h1 (by omega)) dJx4a65c_add_72be8_14 (fun H1 locs1 hP1 hD1 hS1 => ?_)
    refine lv_aload_n E.1 E.2.1 dJx4a65c_add_72be8_15 rfl (hl.2.2 0 _ rfl) ?_
    refine lv_iload_n E.1 E.2.1 dJx4a65c_add_72be8_16 rfl (hl.2.2 3 _ rfl) ?_
    refine lv_iconst (v := 1) E.1 E.2.1 dJx4a65c_add_72be8_17 rfl ?_
    refine lv_iadd E.1 E.2.1 dJx4a65c_add_72be8_18 ?_
    rw [← nI_succ]
    refine va_put E.1 E.2.1 (T := TJx4a65c) (N := 3) (C := RJx4a65c) hts wlJL tyJx4a65c tyJx4a65c_ok nmJx4a65c E.2.2.2.1 hX.1 hP1 hD1 hS1 0 rfl rfl 2 (by decide) (hts _ wfJL_48) (fun x hx => hx) rfl rfl rfl rfl (Nat.le_of_ble_eq_true rfl) dJx4a65c_add_72be8_19 (fun H3 locs3 hP3 hD3 hS3 => ?_)
    refine W.widen (k := 1) (n := 100) hcl hsl ?_
    refine W.vret E.1 E.2.1 hret (fun t ht hW => ⟨⟨(e', cap', va_up f' (nI n).toNatClampNeg (some x)), rfl, ⟨h1, h2, h3, fun j hj => ?_, ?_, fun j hj => ?_, h6⟩, by rw [ht]; exact hP3 0 _ rfl, by rw [ht]; exact hP3 1 _ rfl⟩, hS3.F ht⟩) hS3.2.2 dJx4a65c_add_72be8_22 (hlocks := hlk)
    · show va_up f' (nI n).toNatClampNeg (some x) j = f j
      rw [nI_clamp (by omega)]
      unfold va_up
      rw [if_neg (by omega)]
      exact h4 j hj
    · show va_up f' (nI n).toNatClampNeg (some x) n = some x
      rw [nI_clamp (by omega)]
      unfold va_up
      rw [if_pos rfl]
    · show va_up f' (nI n).toNatClampNeg (some x) j = none
      rw [nI_clamp (by omega)]
      unfold va_up
      rw [if_neg (by omega)]
      exact h5 j (Nat.le_of_lt hj)
  refine lv_iload_n E.1 E.2.1 dJx4a65c_add_72be8_0 rfl (hl.2.2 3 _ rfl) ?_
  refine lv_aload_n E.1 E.2.1 dJx4a65c_add_72be8_1 rfl (hl.2.2 2 _ rfl) ?_
  refine rC_LA.alen (v := nI cap) E.1 E.2.1 hX.1 har rfl dJx4a65c_add_72be8_2 ?_
  refine lv_icmp_ne (tgt := 11) E.1 E.2.1 dJx4a65c_add_72be8_3 (by decide) (fun hne => ?_) (fun heq => ?_)
  · have hlt : n < cap := Nat.lt_of_le_of_ne i5 (fun z => hne (by rw [z]))
    have hn0 : 0 < n := by
      rcases Nat.eq_zero_or_pos n with z | z
      · have := (i7 z).2; omega
      · exact z
    exact tail s.heap [] ls e9 cap f 0 0 (Nat.zero_le _) (Nat.zero_le _) va_S.rf hl hls (har.2 hn0) hlt i6 (i8 hn0) (fun _ _ => rfl) i9 (Or.inl ⟨rfl, hn0⟩)
  · have hfull : n = cap := by
      have h := congrArg Int32.toNatClampNeg heq
      rwa [nI_clamp (by omega), nI_clamp (by omega)] at h
    refine lv_aload_n E.1 E.2.1 dJx4a65c_add_72be8_6 rfl (hl.2.2 0 _ rfl) ?_
    refine va_callr (va_runV (C := RJx4a65c) (b := lk) (As := []) (rest := []) E (cJ_grow0 (z0 := z0) (mc := mc) (f := f) hc hh hn hfull) (cwV 0 hts gJL_129 rfl rfl rfl (by decide +kernel) ⟨Nat.le_of_ble_eq_true rfl, Nat.le_of_ble_eq_true rfl⟩) ⟨rJ_P.bl, va_recv hX.1 (rJ_1 hls) (ci := 0) (q0 := 0) rfl rfl, fun U hU hW => ⟨rfl, rJ_P.go hU hW hX hls har hz0 hel hca⟩⟩ rfl rfl hl.1 rfl (by simp) dJx4a65c_add_72be8_7 ⟨Nat.le_of_ble_eq_true rfl, Nat.le_of_ble_eq_true rfl⟩) va_S.rf (fun q _ hq => hq) (fun q hq => hq) (fun u ra t H1 locs1 ht hvm hw hB hz1 hk1 hS1 => ?_)
    obtain ⟨hra, hB1, hB2⟩ := hB
    rw [ht] at hB1 hB2
    refine lv_astore_n E.1 E.2.1 dJx4a65c_add_72be8_10 rfl (rv_has_k hl) (Nat.le_of_ble_eq_true rfl) rfl (fun ls' hl' => ?_)
    have hl2 : rv_has ls' [some (.ref lk), some (.ref x), some (.ref ra), some (.int (nI n))] := rv_has_set (i := 2) (Nat.le_of_ble_eq_true rfl) rfl hl'
    exact tail H1 locs1 ls' ra u.1 u.2 _ _ (Nat.le_of_ble_eq_true rfl) (Nat.le_of_ble_eq_true rfl) hS1 hl2 hB1 hB2 hw.1 hw.2.1 hw.2.2.1 hw.2.2.2.1 hw.2.2.2.2 (Or.inr hra)
abbrev rmJ_a1 : Room := { frames := 7, cells := 1, slots := 100, locals := 190 }
theorem cJ_add (hc : vwCl[ci]? = some r) {lk e9 n cap x : Nat} {mc : Int32} {f : Nat → Option Nat} (hh : rJ_h de z0 lk e9 n cap f) (hn : n < 64) (hx : x < z0 ∧ x ≠ lk ∧ x ≠ e9) : Met l yJx4a65c_add_9ea2d (rv_ws yJx4a65c_add_9ea2d cJx4a65c_add_9ea2d 2 (some .boolean)) rmJ_a1 (va_Pc [.ref lk, .ref x] (rJ_aP D cI cZ cO mi de z0 ci r lk e9 n cap mc f x)) (va_Qi (fun r' u => r' = 1 ∧ rJ_ap z0 e9 n x f u) (rJ_aB D cO lk n (mc + 1)) (rJ_A z0 lk n e9)) 1 100 (rJ_A z0 lk n e9) := by
  refine rJ_met (own := RJx4a65c) rfl (by decide) (Nat.le_of_ble_eq_true rfl) (fun p e s m args below meth c ls E hret hlk hP hl => ?_)
  obtain ⟨⟨hX, hls, har, hz0, hel, hca⟩, vs, hxa⟩ := hP
  change rv_has ls [some (.ref lk), some (.ref x)] at hl
  have hts := E.2.2.2.2
  refine lv_aload_n E.1 E.2.1 dJx4a65c_add_9ea2d_0 rfl (hl.2.2 0 _ rfl) ?_
  refine lv_dup E.1 E.2.1 dJx4a65c_add_9ea2d_1 rfl ?_
  refine va_get (D := D) (ci := 0) (C := RJx4a65c) (T := TJx4a65c) (N := 3) E.1 E.2.1 hts wlJL E.2.2.2.1 hX.1 (rJ_1 hls) 0 rfl rfl 0 (by decide) (hts _ wJa_63) (u_same (hts _ wJa_same)) rfl dJx4a65c_add_9ea2d_2 ?_
  refine lv_iconst (v := 1) E.1 E.2.1 dJx4a65c_add_9ea2d_5 rfl ?_
  refine lv_iadd E.1 E.2.1 dJx4a65c_add_9ea2d_6 ?_
  refine va_put E.1 E.2.1 (A := fun q => z0 ≤ q ∨ q = lk) (T := TJx4a65c) (N := 3) (C := RJx4a65c) hts wlJL tyJx4a65c tyJx4a65c_ok nmJx4a65c E.2.2.2.1 hX.1 (rJ_1 hls) (rJ_D1 (Or.inr rfl)) va_S.rf 0 rfl rfl 0 (by decide) (hts _ wJa_63) (u_same (hts _ wJa_same)) rfl rfl rfl rfl (Nat.le_of_ble_eq_true rfl) dJx4a65c_add_9ea2d_7 (fun H1 locs1 hP1 hD1 hS0 => ?_)
  have hls1 : va_at D vwCl (rJ_ls lk (mc + 1) e9 n) H1 := hP1 0 _ rfl
  have kp : ∀ q : Nat, q < s.heap.size → q < z0 → q ≠ lk → H1[q]? = s.heap[q]? := fun q h1 h2 h3 => hS0.2.1 q h1 (fun z => z.elim (fun z => absurd h2 (Nat.not_lt.mpr z)) h3)
  have har1 := har.kept (kp _ (Nat.lt_of_lt_of_le hh.2.1 hz0) hh.2.1 (fun z => hh.2.2.1 z.symm))
  have hxa1 := hxa.kept (kp _ (Nat.lt_of_lt_of_le hx.1 hz0) hx.1 hx.2.1)
  have hel1 : rJ_el D ci z0 e9 f H1 := fun j y hy => by
    obtain ⟨h1, h2, vs, h3⟩ := hel j y hy
    exact ⟨h1, h2, vs, h3.kept (kp _ (Nat.lt_of_lt_of_le h1 hz0) h1 (hh.2.2.2.1 j y hy))⟩
  have hS1 : va_S (rJ_A z0 lk n e9) s.heap H1 locs1 := rJ_Sm (fun q z => z.elim Or.inl (fun z => Or.inr (Or.inl z))) hS0
  refine lv_aload_n E.1 E.2.1 dJx4a65c_add_9ea2d_10 rfl (hl.2.2 0 _ rfl) ?_
  refine lv_aload_n E.1 E.2.1 dJx4a65c_add_9ea2d_11 rfl (hl.2.2 1 _ rfl) ?_
  refine lv_aload_n E.1 E.2.1 dJx4a65c_add_9ea2d_12 rfl (hl.2.2 0 _ rfl) ?_
  refine va_get (D := D) (ci := 0) (C := RJx4a65c) (T := TJx4a65c) (N := 3) E.1 E.2.1 hts wlJL E.2.2.2.1 hX.1 (rJ_1 hls1) 0 rfl rfl 1 (by decide) (hts _ wfJL_9) (fun x hx => hx) rfl dJx4a65c_add_9ea2d_13 ?_
  refine lv_aload_n E.1 E.2.1 dJx4a65c_add_9ea2d_16 rfl (hl.2.2 0 _ rfl) ?_
  refine va_get (D := D) (ci := 0) (C := RJx4a65c) (T := TJx4a65c) (N := 3) E.1 E.2.1 hts wlJL E.2.2.2.1 hX.1 (rJ_1 hls1) 0 rfl rfl 2 (by decide) (hts _ wfJL_48) (fun x hx => hx) rfl dJx4a65c_add_9ea2d_17 ?_
  have hz1 : z0 ≤ H1.size := Nat.le_trans hz0 hS1.1
  refine va_callv (va_runV (C := RJx4a65c) (b := lk) (As := [.ref x, .ref e9, .int (nI n)]) (rest := []) E (cJ_add3 (z0 := z0) (mc := mc + 1) (f := f) hc hh hn hx) (cwV 3 hts gJL_131 rfl rfl rfl (by decide +kernel) ⟨Nat.le_of_ble_eq_true rfl, Nat.le_of_ble_eq_true rfl⟩) ⟨rJ_aP.bl, va_recv hX.1 (rJ_1 hls1) (ci := 0) (q0 := 0) rfl rfl, fun U hU hW => ⟨rfl, rJ_P.go hU hW (hX.kp hS1) hls1 har1 hz1 hel1 hca, vs, by rw [hU]; exact hxa1⟩⟩ rfl rfl hl.1 rfl (by simp) dJx4a65c_add_9ea2d_20 ⟨Nat.le_of_ble_eq_true rfl, Nat.le_of_ble_eq_true rfl⟩) hS1 (fun q _ hq => hq) (fun q hq => hq) (fun u t H2 locs2 ht hvm hw hB hz2 hk2 hS2 => ?_)
  refine lv_iconst (v := 1) E.1 E.2.1 dJx4a65c_add_9ea2d_23 rfl ?_
  exact W.zret E.1 E.2.1 hret rfl (fun t2 ht2 hW => ⟨⟨1, u, rfl, ⟨rfl, hw⟩, by show va_at _ _ _ t2.heap ∧ va_at _ _ _ t2.heap; rw [ht2, ← ht]; exact hB⟩, hS2.F ht2⟩) hS2.2.2 dJx4a65c_add_9ea2d_24 (hlocks := hlk)
end JA
