/-! A METHOD THAT ANSWERS A THING OF THE HOUSE, OR NULL -/
def rC_no (ad : Nat → Nat) : Option Nat → Value
  | none => .null
  | some k => .ref (ad k)
def rC_QO (D : va_G) (cI cZ cO : ClassId) (ad : Nat → Nat) (gh : rC_gh) (de : Nat) (o : Option Nat) (M : rv_Mem) : Array Value → State → Outcome → State → Prop := fun _ st oc t => (oc = .returned (some (rC_no ad o)) ∧ rC_G D cI cZ cO ad gh de M t.heap) ∧ va_F (rC_K ad gh) st t
def rC_qO (D : va_G) (cI cZ cO : ClassId) (ad : Nat → Nat) (gh : rC_gh) (de : Nat) (below : List Frame) (args : Array Value) (s : State) (M : rv_Mem) : Option Nat → State → Prop := fun r => MQ below (rC_QO D cI cZ cO ad gh de r M) args s 0 0 (rC_K ad gh)
/-- what is done with null, and with a thing -/
def rv_om {ρ : Type} (o : Option Nat) (a : Option ρ) (f : Nat → Option ρ) : Option ρ := match o with
  | none => a
  | some k => f k
section RNULL
variable {p : Program} {l : Launch} {e : Env} {R : Room} {s : State} {m : MethodId} {args : Array Value} {below : List Frame} {meth : Method} {c : Code} {cells slots : Nat}
variable {μ ρ : Type} {G : μ → Heap → Prop} {A : Nat → Prop} {Q : ρ → State → Prop}
variable {cc : ByteArray} {pc q : Nat} {lv lv' : List (Option Value)} {st : List Value} {M : μ} {t : Option ρ}
theorem rv_null (E : rv_E p c cc) (d : decode cc pc = .ok (.aconst_null, 1)) (hq : pc + 1 = q) (kk : rv_M G A p l e R s m args below meth c cells slots Q t q lv (.null :: st) M) : rv_M G A p l e R s m args below meth c cells slots Q t pc lv st M := by
  subst hq; exact fun res h H locs ls hG hS hl => lv_null E.1 E.2 d (kk res h H locs ls hG hS hl)
theorem rv_ifnull (E : rv_E p c cc) {x : Nat} {off : Int} (d : decode cc pc = .ok (.ifnull off, 3)) (hq : pc + 3 = q) (kk : rv_M G A p l e R s m args below meth c cells slots Q t q lv st M) : rv_M G A p l e R s m args below meth c cells slots Q t pc lv (.ref x :: st) M := by
  subst hq; exact fun res h H locs ls hG hS hl => lv_ifnull E.1 E.2 d (kk res h H locs ls hG hS hl)
theorem rv_ifnullN (E : rv_E p c cc) {off : Int} (d : decode cc pc = .ok (.ifnull off, 3)) (hq : (pc : Int) + off = (q : Int)) (kk : rv_M G A p l e R s m args below meth c cells slots Q t q lv st M) : rv_M G A p l e R s m args below meth c cells slots Q t pc lv (.null :: st) M :=
  fun res h H locs ls hG hS hl => lv_ifnullN E.1 E.2 d hq (kk res h H locs ls hG hS hl)
theorem rv_aload_nN (E : rv_E p c cc) {k : Fin 4} (d : decode cc pc = .ok (.aload_n k, 1)) (hv : lv[(k : Nat)]? = some (some .null)) (hq : pc + 1 = q) (kk : rv_M G A p l e R s m args below meth c cells slots Q t q lv (.null :: st) M) : rv_M G A p l e R s m args below meth c cells slots Q t pc lv st M := by
  subst hq; exact fun res h H locs ls hG hS hl => lv_aload_nN E.1 E.2 d rfl (hl.2.2 _ _ hv) (kk res h H locs ls hG hS hl)
theorem rv_astore_nN (E : rv_E p c cc) {k : Fin 4} (d : decode cc pc = .ok (.astore_n k, 1)) (hi : (k : Nat) < lv.length) (hc : rv_c2 lv k = true) (he : lv.set k (some .null) = lv') (hq : pc + 1 = q) (kk : rv_M G A p l e R s m args below meth c cells slots Q t q lv' st M) : rv_M G A p l e R s m args below meth c cells slots Q t pc lv (.null :: st) M := by
  subst hq; subst he
  exact fun res h H locs ls hG hS hl => lv_astore_nN E.1 E.2 d rfl (rv_has_k hl) hi rfl (fun ls' hl' => kk res h H locs ls' hG hS (rv_has_set hi hc hl'))
theorem rv_omr {ad : Nat → Nat} {r : Option Nat} {a : Option ρ} {f : Nat → Option ρ} (k1 : r = none → rv_M G A p l e R s m args below meth c cells slots Q a pc lv (.null :: st) M) (k2 : ∀ k, r = some k → rv_M G A p l e R s m args below meth c cells slots Q (f k) pc lv (.ref (ad k) :: st) M) : rv_M G A p l e R s m args below meth c cells slots Q (rv_om r a f) pc lv (rC_no ad r :: st) M := by
  cases r with
  | none => exact k1 rfl
  | some k => exact k2 k rfl
end RNULL
section RNULL2
variable {p : Program} {l : Launch} {e : Env} {R : Room} {s : State} {m : MethodId} {args : Array Value} {below : List Frame} {meth : Method} {c : Code} {cells slots : Nat}
variable {D : va_G} {cI cZ cO : ClassId} {ad : Nat → Nat} {gh : rC_gh} {de : Nat} {M : rv_Mem} {o : Option Nat}
theorem rC_callo9 {H H0 : Heap} {locs : List Loc} {Q : State → Prop} {pc mc ms : Nat} {ls : Array Slot} {rest st0 : List Value} {a : Array Value} {A0 : Nat → Prop} {free : Addr → Prop}
    (hr : va_Run p l e R s m args below meth c H locs cells slots mc ms (F0 m pc ls st0) rest (rC_QO D cI cZ cO ad gh de o M a) free) (hS : va_S A0 H0 H locs) (hA : ∀ q, q < H.size → rC_K ad gh q → A0 q) (hf : ∀ q, free q → A0 q)
    (kk : ∀ (t : State) (H1 : Heap) (locs1 : List Loc), t.heap = H1 → rC_G D cI cZ cO ad gh de M t.heap → va_S A0 H0 H1 locs1 → W p l e R s m args below meth c H1 locs1 (cells + mc) (slots + ms) Q (F0 m (pc + 3) ls (rC_no ad o :: rest))) : W p l e R s m args below meth c H locs cells slots Q (F0 m pc ls st0) := by
  intro T hT X
  obtain ⟨v, st₀, t, T', L, h0, X', hL, e1, e2, ⟨⟨hv, hb⟩, hz, hk⟩, st⟩ := hr T hT X
  cases hv
  rw [h0] at hz hk
  obtain ⟨t2, a1, b1⟩ := kk t T'.heap (locs ++ L) e1.symm hb
    ⟨Nat.le_trans hS.1 (by rw [e1]; exact hz), fun q h1 h2 => by rw [e1, hk q (Nat.lt_of_lt_of_le h1 hS.1) (fun z => h2 (hA q (Nat.lt_of_lt_of_le h1 hS.1) z))]; exact hS.2.1 q h1 h2, fun q hq => by
      rcases List.mem_append.mp hq with h | h
      · exact hS.2.2 q h
      · exact hf _ (hL q h)⟩ T' rfl X'
  exact ⟨t2, st t2 a1, b1⟩
variable {ρ : Type} {A : Nat → Prop} {own : String} {Q : ρ → State → Prop} {cc : ByteArray} {nL pc q : Nat} {ret : Option FieldType} {lv : List (Option Value)} {st : List Value} {t : Option ρ}
variable {y : MethodName} {by_ : ByteArray} {maxL n idx : Nat} {rt : Option FieldType} {rm : Room} {As rest : List Value}
theorem rC_calloX11 (E : rC_E D cI cZ cO ad gh A own cc nL ret p s m args meth c) {b : Nat} (hk : rC_at gh b 12) (hM : Met l y (rv_ws y by_ maxL rt) rm (rC_Pc D cI cZ cO ad gh de (.ref (ad b) :: As) M) (rC_QO D cI cZ cO ad gh de o M) 0 0 (rC_K ad gh)) (cg : GoodIn rv_AL (wsV own idx RX11 y (rv_ws y by_ maxL rt))) (hd : y.cls = RX11 ∧ y.cls ≠ "java/lang/invoke/MethodHandle" ∧ y.cls ≠ "java/lang/invoke/VarHandle" ∧ (parseMethodDescriptor y.desc).map (fun d => d.parameters.length) = some n) (hrm : rm.cells = 0 ∧ rm.slots = 0) (hR : rm.frames + 1 ≤ R.frames ∧ 8 + (maxL + 11) + rm.locals ≤ R.locals) (hcs : cells ≤ R.cells ∧ slots ≤ R.slots) (hn : As.length = n) (hlv : lv.length = nL) (hst : st = As.reverse ++ .ref (ad b) :: rest) (hrs : (rest.map fun v => v.category).sum ≤ 8) (d : decode cc pc = .ok (.invokevirtual idx, 3)) (hq : pc + 3 = q) (kk : rv_M (rC_G D cI cZ cO ad gh de) A p l e R s m args below meth c cells slots Q t q lv (rC_no ad o :: rest) M) : rv_M (rC_G D cI cZ cO ad gh de) A p l e R s m args below meth c cells slots Q t pc lv st M := by
  subst hq; subst hst
  intro res h H locs ls hG hS hl
  refine rC_callo9 (va_runV (C := RX11) (b := ad b) (As := As) (rest := rest) E.1 hM (cwV n E.hts cg rfl hrm.1 hrm.2 hd hR) ⟨rC_blind, rC_recv E (ci := 12) (T := TX11) (N := 12) rfl hk hG, fun U hU hW => ⟨rfl, by rw [hU]; exact hG, va_K.moved hW.alike E.2.1, E.2.2.2.2.2.2.warm hW⟩⟩ rfl hn (hl.1.trans hlv) rfl (by simpa using hrs) d hcs) hS (fun q _ hq => E.2.2.2.1 q hq) (fun q hq => E.2.2.2.1 q hq) (fun t H1 locs1 ht hB hS1 => ?_)
  rw [ht] at hB
  exact kk res h H1 locs1 ls hB hS1 hl
theorem rC_aretO {n9 : String} (E : rC_E D cI cZ cO ad gh (rC_K ad gh) own cc nL (some (.object n9)) p s m args meth c) {v : Value} {r : ρ} (hv : rC_no ad o = v) (hQ : Q r = MQ below (rC_QO D cI cZ cO ad gh de o M) args s 0 0 (rC_K ad gh)) (d : decode cc pc = .ok (.areturn, 1)) : rv_M (rC_G D cI cZ cO ad gh de) (rC_K ad gh) p l e R s m args below meth c 0 0 Q (some r) pc lv [v] M := by
  intro res h H locs ls hG hS hl
  cases h
  rw [hQ]
  subst hv
  exact W.aret E.1.1 E.1.2.1 E.2.2.2.2.1 (Or.inl ⟨_, rfl⟩) (by cases o with | none => exact Or.inl rfl | some k => exact Or.inr ⟨_, rfl⟩) (fun t ht hW => ⟨⟨rfl, by rw [ht]; exact hG⟩, hS.F ht⟩) hS.2.2 d (hlocks := E.2.2.2.2.2.1)
end RNULL2
