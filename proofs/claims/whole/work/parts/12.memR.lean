/-! THE REFERENCE'S MEMORY: key k < 67 is the field of the slot k: an array's row M k, a number M k 0; key 67 is the object itself. -/
abbrev rv_Mem : Type := Nat → Nat → Int32
def rv_u (M : rv_Mem) (k i : Nat) (v : Int32) : rv_Mem := fun a b => if a = k ∧ b = i then v else M a b
def rv_z (x : Int32) : Bool := decide (x ≠ 0)
theorem rv_z_i {b : Bool} : rv_z (rv_i b) = b := by cases b <;> rfl
def rR_kd (k : Nat) : Nat := ([0, 2, 2, 2, 2, 2, 2, 2, 2, 2, 2, 0, 2, 2, 2, 3, 3, 2, 2, 2, 2, 2, 2, 2, 0, 2, 2, 2, 2, 2, 2, 2, 3, 3, 0, 2, 2, 2, 2, 2, 2, 2, 3, 3, 0, 0, 2, 2, 2, 3, 2, 2, 0, 2, 2, 2, 2, 2, 2, 2, 2, 2, 2, 0, 1, 2, 0] : List Nat).getD k 0
def rR_ln (k : Nat) : Nat := ([0, 82, 82, 328, 3280, 82, 82, 82, 82, 2, 2, 0, 20, 20, 20, 20, 20, 20, 20, 20, 20, 20, 960, 6, 0, 60, 60, 60, 60, 60, 60, 60, 60, 60, 0, 40, 40, 40, 40, 40, 40, 14, 14, 4, 0, 0, 20, 20, 20, 20, 2, 6, 0, 121, 10, 60, 60, 60, 60, 60, 60, 4, 24, 0, 0, 16, 0] : List Nat).getD k 0
def rR_dm (k : Nat) : Bool := k == 67 || (decide (k < 67) && decide (2 ≤ rR_kd k))
def rR_fv (ad : Nat → Nat) (M : rv_Mem) (k : Nat) : Value := match rR_kd k with
  | 0 => .int (M k 0)
  | 1 => .int (rv_i (rv_z (M k 0)))
  | _ => .ref (ad k)
def rR_fl (ad : Nat → Nat) (M : rv_Mem) : List Value := (List.range 67).map (rR_fv ad M)
def rR_ent (cI cZ : ClassId) (ad : Nat → Nat) (M : rv_Mem) (k : Nat) : va_E := if k = 67 then .inr (13, rR_fl ad M) else if rR_kd k = 3 then .inl (cZ, rR_ln k, .inl (fun i => rv_i (rv_z (M k i)))) else .inl (cI, rR_ln k, .inl (M k))
def rR_G (D : va_G) (cI cZ : ClassId) (ad : Nat → Nat) (M : rv_Mem) (H : Heap) : Prop := ∀ k, rR_dm k = true → va_at D vwCl (ad k, rR_ent cI cZ ad M k) H
def rR_A (ad : Nat → Nat) (q : Nat) : Prop := ∃ k, rR_dm k = true ∧ ad k = q
def rR_I (ad : Nat → Nat) : Prop := ∀ i j, rR_dm i = true → rR_dm j = true → ad i = ad j → i = j
theorem rR_kept {D : va_G} {cI cZ : ClassId} {ad : Nat → Nat} {M : rv_Mem} {H H1 : Heap} (h : rR_G D cI cZ ad M H) (hq : ∀ q : Nat, q < H.size → H1[q]? = H[q]?) : rR_G D cI cZ ad M H1 := fun k hk => (h k hk).kept (hq _ (h k hk).lt)
theorem rR_fl_get {ad : Nat → Nat} {M : rv_Mem} {k : Nat} (hk : k < 67) : (rR_fl ad M)[k]? = some (rR_fv ad M k) := by
  unfold rR_fl
  rw [List.getElem?_map, List.getElem?_range hk]
  rfl
theorem rR_fl_len {ad : Nat → Nat} {M : rv_Mem} : (rR_fl ad M).length = 67 := by simp [rR_fl]
theorem rR_fl_set {ad : Nat → Nat} {M : rv_Mem} {k : Nat} (hk : k < 67) (h0 : rR_kd k = 0) (v : Int32) : (rR_fl ad M).set k (.int v) = rR_fl ad (rv_u M k 0 v) := by
  apply List.ext_getElem?
  intro i
  by_cases hi : i < 67
  · by_cases e : k = i
    · subst e
      rw [List.getElem?_set_self (by rw [rR_fl_len]; exact hk), rR_fl_get hk]
      simp [rR_fv, h0, rv_u]
    · rw [List.getElem?_set_ne e, rR_fl_get hi, rR_fl_get hi]
      have : ∀ j, rv_u M k 0 v i j = M i j := fun j => by simp [rv_u, Ne.symm e]
      simp only [rR_fv, this]
  · rw [List.getElem?_eq_none (by rw [List.length_set, rR_fl_len]; omega), List.getElem?_eq_none (by rw [rR_fl_len]; omega)]
theorem rR_fl_setz {ad : Nat → Nat} {M : rv_Mem} {k : Nat} (hk : k < 67) (h0 : rR_kd k = 1) (b : Bool) : (rR_fl ad M).set k (.int (rv_i b)) = rR_fl ad (rv_u M k 0 (rv_i b)) := by
  apply List.ext_getElem?
  intro i
  by_cases hi : i < 67
  · by_cases e : k = i
    · subst e
      rw [List.getElem?_set_self (by rw [rR_fl_len]; exact hk), rR_fl_get hk]
      simp [rR_fv, h0, rv_u, rv_z_i]
    · rw [List.getElem?_set_ne e, rR_fl_get hi, rR_fl_get hi]
      have : ∀ j, rv_u M k 0 (rv_i b) i j = M i j := fun j => by simp [rv_u, Ne.symm e]
      simp only [rR_fv, this]
  · rw [List.getElem?_eq_none (by rw [List.length_set, rR_fl_len]; omega), List.getElem?_eq_none (by rw [rR_fl_len]; omega)]
/-- a row of an array written: no number of the object changes -/
theorem rR_fl_arr {ad : Nat → Nat} {M : rv_Mem} {k i : Nat} (h2 : 2 ≤ rR_kd k) (v : Int32) : rR_fl ad (rv_u M k i v) = rR_fl ad M := by
  unfold rR_fl
  apply List.map_congr_left
  intro j _
  unfold rR_fv
  by_cases e : j = k
  · subst e
    match h : rR_kd j with
    | 0 => omega
    | 1 => omega
    | n + 2 => rfl
  · have : ∀ x, rv_u M k i v j x = M j x := fun x => by simp [rv_u, e]
    simp only [this]
/-- the cell of the key k is new, all others are as they were -/
theorem rR_G_upd {D : va_G} {cI cZ : ClassId} {ad : Nat → Nat} {M M' : rv_Mem} {H H1 : Heap} {k : Nat} (hI : rR_I ad) (hk : rR_dm k = true) (h : rR_G D cI cZ ad M H) (hn : va_at D vwCl (ad k, rR_ent cI cZ ad M' k) H1) (ho : ∀ j, j ≠ k → rR_dm j = true → rR_ent cI cZ ad M' j = rR_ent cI cZ ad M j) (oq : ∀ q : Nat, q ≠ ad k → H1[q]? = H[q]?) : rR_G D cI cZ ad M' H1 := by
  intro j hj
  by_cases e : j = k
  · subst e; exact hn
  · rw [ho j e hj]
    exact (h j hj).kept (oq _ (fun z => e (hI j k hj hk z)))
def rR_E (D : va_G) (cI cZ : ClassId) (ad : Nat → Nat) (cc : ByteArray) (nL : Nat) (ret : Option FieldType) (p : Program) (s : State) (m : MethodId) (args : Array Value) (meth : Method) (c : Code) : Prop := CallFix p m c cc nL s args rv_AL RX12 ∧ va_K D vwCl [(cI, .int), (cZ, .boolean)] s ∧ rR_I ad ∧ meth.sig.returnType = ret ∧ meth.locks = false
def rR_Pc (D : va_G) (cI cZ : ClassId) (ad : Nat → Nat) (av : List Value) (M : rv_Mem) : Array Value → State → Prop := va_Pc av (fun U => rR_G D cI cZ ad M U.heap ∧ va_K D vwCl [(cI, .int), (cZ, .boolean)] U)
def rR_QI (D : va_G) (cI cZ : ClassId) (ad : Nat → Nat) (v : Int32) (M : rv_Mem) : Array Value → State → Outcome → State → Prop := va_Qi (fun r (M' : rv_Mem) => r = v ∧ M' = M) (fun M' t => rR_G D cI cZ ad M' t.heap) (rR_A ad)
def rR_QV (D : va_G) (cI cZ : ClassId) (ad : Nat → Nat) (M : rv_Mem) : Array Value → State → Outcome → State → Prop := va_Qv (fun (M' : rv_Mem) => M' = M) (fun M' t => rR_G D cI cZ ad M' t.heap) (rR_A ad)
def rR_SQ (v : Int32) : Array Value → State → Outcome → State → Prop := va_Qi (fun r (_ : Unit) => r = v) (fun _ _ => True) (fun _ => False)
section RR
variable {p : Program} {l : Launch} {e : Env} {R : Room} {s : State} {m : MethodId} {args : Array Value} {below : List Frame} {meth : Method} {c : Code}
variable {ρ : Type} {D : va_G} {cI cZ : ClassId} {ad : Nat → Nat} {Q : ρ → State → Prop}
variable {cc : ByteArray} {nL pc q : Nat} {ret : Option FieldType} {lv : List (Option Value)} {st : List Value} {M : rv_Mem} {t : Option ρ}
theorem rR_E.x (E : rR_E D cI cZ ad cc nL ret p s m args meth c) : rv_E p c cc := ⟨E.1.1, E.1.2.1⟩
theorem rR_E.hts (E : rR_E D cI cZ ad cc nL ret p s m args meth c) : ∀ w ∈ rv_AL, w.before args s = true := E.1.2.2.2.2
theorem rR_E.own (E : rR_E D cI cZ ad cc nL ret p s m args meth c) : s.vm.findClass RX12 = some m.cls := E.1.2.2.2.1
theorem rR_ldcw (E : rR_E D cI cZ ad cc nL ret p s m args meth c) {i : Nat} {v : Int32} (hk : Cond.constant RX12 i v ∈ rv_AL) (d : decode cc pc = .ok (.ldc_w i, 3)) (hq : pc + 3 = q) (kk : rv_M (rR_G D cI cZ ad) (rR_A ad) p l e R s m args below meth c 0 0 Q t q lv (.int v :: st) M) : rv_M (rR_G D cI cZ ad) (rR_A ad) p l e R s m args below meth c 0 0 Q t pc lv st M :=
  rv_ldcw E.x E.own (E.hts _ hk) d hq kk
theorem rR_get (E : rR_E D cI cZ ad cc nL ret p s m args meth c) (k : Nat) {idx : Nat} {v : Value} (hlk : Cond.fieldLink RX12 idx "ReviewForgeModel" (TX12 k).2.1 (TX12 k).2.2.1 ∈ rv_AL) (hf : (TX12 k).1 = "ReviewForgeModel") (hk : k < 67) (hv : rR_fv ad M k = v) (d : decode cc pc = .ok (.getfield idx, 3)) (hq : pc + 3 = q) (kk : rv_M (rR_G D cI cZ ad) (rR_A ad) p l e R s m args below meth c 0 0 Q t q lv (v :: st) M) : rv_M (rR_G D cI cZ ad) (rR_A ad) p l e R s m args below meth c 0 0 Q t pc lv (.ref (ad 67) :: st) M := by
  subst hq; subst hv
  intro res h H locs ls hG hS hl
  have hP : va_P D vwCl [(ad 67, .inr (13, rR_fl ad M))] H := fun i z hz => by
    match i, hz with
    | 0, hz => cases hz; exact hG 67 rfl
    | i + 1, hz => simp at hz
  exact va_get (D := D) (ci := 13) (C := RX12) (T := TX12) (N := 67) E.1.1 E.1.2.1 E.hts wl12 E.own E.2.1 hP 0 rfl rfl k hk (E.hts _ hlk) (fun x hx => by rw [hf] at hx; exact hx) (rR_fl_get hk) d (kk res h H locs ls hG hS hl)
theorem rR_putX (E : rR_E D cI cZ ad cc nL ret p s m args meth c) (k : Nat) {idx : Nat} {v : Int32} {M' : rv_Mem} {ty : FieldType} (hlk : Cond.fieldLink RX12 idx "ReviewForgeModel" (TX12 k).2.1 (TX12 k).2.2.1 ∈ rv_AL) (hf : (TX12 k).1 = "ReviewForgeModel") (hk : k < 67) (h0 : rR_kd k < 2) (hfin : (TX12 k).2.2.2 = false) (hd : parseFieldDescriptor (TX12 k).2.2.1 = some ty) (hn : narrow ty (.int v) = .int v) (hfit : fits ty (.int v) = true) (he : (rR_fl ad M).set k (.int v) = rR_fl ad M') (ho : ∀ j, j ≠ k → M' j = M j) (d : decode cc pc = .ok (.putfield idx, 3)) (hq : pc + 3 = q) (kk : rv_M (rR_G D cI cZ ad) (rR_A ad) p l e R s m args below meth c 0 0 Q t q lv st M') : rv_M (rR_G D cI cZ ad) (rR_A ad) p l e R s m args below meth c 0 0 Q t pc lv (.int v :: .ref (ad 67) :: st) M := by
  subst hq
  intro res h H locs ls hG hS hl
  obtain ⟨hts, hown, hK⟩ := And.intro E.hts (And.intro E.own E.2.1)
  have hap := va_apart (own := RX12) hts wl12 tyX12 tyX12_ok nmX12 hK (ci := 13) rfl
  obtain ⟨r, h1, cell, q1, q2, q3, q4⟩ := hG 67 rfl
  have hr : r = (RX12, TX12, 67) := Option.some.inj (h1.symm.trans rfl)
  subst hr
  obtain ⟨hSl, hfc, kC, hkC, hkind⟩ := hK.1 13 _ rfl
  obtain ⟨cf, kf, fi, f, hi, hsl⟩ := hSl k hk
  have hlay := hts _ (wl12 _ (u_in_lay hk))
  unfold u_lay at hlay
  rw [if_neg (by rw [hfin]; decide)] at hlay
  have hst := (u_facts hfc hkC (u_lays hts wl12 hk) hi).1
  have h6 := u_store hfc hkC hkind hlay hi hd hn hfit
  refine W.putK E.1.1 E.1.2.1 (f := f) ⟨hown, hts _ hlk, ⟨_, _, _, by rw [hf] at hi; exact hi⟩, hst⟩ (by rw [q2]; exact h6) q1 q3 (by rw [hsl]; exact k2_hasslot (q4 k hk)) rfl rfl d fun H' e1 e2 e3 => ?_
  rw [hsl] at e1 ⊢
  refine kk res h H' _ ls (rR_G_upd (k := 67) E.2.2.1 rfl hG ?_ ?_ e3) (hS.put e2 e3 ⟨67, rfl, rfl⟩) hl
  · have h8 : rR_ent cI cZ ad M' 67 = .inr (13, (rR_fl ad M).set k (.int v)) := by rw [he]; rfl
    rw [h8]
    exact ⟨_, rfl, t_OB.to (V := updV (vp_V (rR_fl ad M)) k (.int v)) ⟨_, e1, q2, q3, t_set q4 hap hk (.int v)⟩ (fun j _ => vp_updV_set (by rw [rR_fl_len]; exact hk) (.int v) j)⟩
  · intro j hj hdj
    have h9 : j ≠ k := by
      rintro rfl
      simp only [rR_dm, Bool.or_eq_true, beq_iff_eq, Bool.and_eq_true, decide_eq_true_eq] at hdj
      omega
    unfold rR_ent
    rw [if_neg hj, if_neg hj, ho j h9]
theorem rR_put (E : rR_E D cI cZ ad cc nL ret p s m args meth c) (k : Nat) {idx : Nat} {v : Int32} (hlk : Cond.fieldLink RX12 idx "ReviewForgeModel" (TX12 k).2.1 (TX12 k).2.2.1 ∈ rv_AL) (hf : (TX12 k).1 = "ReviewForgeModel") (hk : k < 67) (h0 : rR_kd k = 0) (hfin : (TX12 k).2.2.2 = false) (hd : parseFieldDescriptor (TX12 k).2.2.1 = some .int) (d : decode cc pc = .ok (.putfield idx, 3)) (hq : pc + 3 = q) (kk : rv_M (rR_G D cI cZ ad) (rR_A ad) p l e R s m args below meth c 0 0 Q t q lv st (rv_u M k 0 v)) : rv_M (rR_G D cI cZ ad) (rR_A ad) p l e R s m args below meth c 0 0 Q t pc lv (.int v :: .ref (ad 67) :: st) M :=
  rR_putX E k hlk hf hk (by omega) hfin hd rfl rfl (rR_fl_set hk h0 v) (fun j hj => by funext i; simp [rv_u, hj]) d hq kk
theorem rR_putz (E : rR_E D cI cZ ad cc nL ret p s m args meth c) (k : Nat) {idx : Nat} (b : Bool) (hlk : Cond.fieldLink RX12 idx "ReviewForgeModel" (TX12 k).2.1 (TX12 k).2.2.1 ∈ rv_AL) (hf : (TX12 k).1 = "ReviewForgeModel") (hk : k < 67) (h0 : rR_kd k = 1) (hfin : (TX12 k).2.2.2 = false) (hd : parseFieldDescriptor (TX12 k).2.2.1 = some .boolean) (d : decode cc pc = .ok (.putfield idx, 3)) (hq : pc + 3 = q) (kk : rv_M (rR_G D cI cZ ad) (rR_A ad) p l e R s m args below meth c 0 0 Q t q lv st (rv_u M k 0 (rv_i b))) : rv_M (rR_G D cI cZ ad) (rR_A ad) p l e R s m args below meth c 0 0 Q t pc lv (.int (rv_i b) :: .ref (ad 67) :: st) M :=
  rR_putX E k hlk hf hk (by omega) hfin hd rv_i_nar (by cases b <;> rfl) (rR_fl_setz hk h0 b) (fun j hj => by funext i; simp [rv_u, hj]) d hq kk
theorem rR_dm_of {k : Nat} (hk : k < 67) (h2 : 2 ≤ rR_kd k) : rR_dm k = true := by simp [rR_dm, hk, h2]
theorem rR_iald (E : rR_E D cI cZ ad cc nL ret p s m args meth c) {k n : Nat} {i : Int32} (hk : k < 67) (h2 : rR_kd k = 2) (hn : rR_ln k = n) (d : decode cc pc = .ok (.iaload, 1)) (hq : pc + 1 = q) (kk : rv_M (rR_G D cI cZ ad) (rR_A ad) p l e R s m args below meth c 0 0 Q t q lv (.int (M k i.toNatClampNeg) :: st) M) : rv_M (rR_G D cI cZ ad) (rR_A ad) p l e R s m args below meth c 0 0 Q (if rv_in i n = true then t else none) pc lv (.int i :: .ref (ad k) :: st) M := by
  refine rv_g (fun hi => ?_)
  subst hq; subst hn
  intro res h H locs ls hG hS hl
  have h9 : rR_ent cI cZ ad M k = .inl (cI, rR_ln k, .inl (M k)) := by unfold rR_ent; rw [if_neg (by omega), if_neg (by omega)]
  have h8 := hG k (rR_dm_of hk (by omega))
  rw [h9] at h8
  have hP : va_P D vwCl [(ad k, .inl (cI, rR_ln k, .inl (M k)))] H := fun j z hz => by
    match j, hz with
    | 0, hz => cases hz; exact h8
    | j + 1, hz => simp at hz
  exact va_iald E.1.1 E.1.2.1 E.2.1 hP 0 0 rfl rfl (rv_in_vp hi) d (kk res h H locs ls hG hS hl)
theorem rR_zald (E : rR_E D cI cZ ad cc nL ret p s m args meth c) {k n : Nat} {i : Int32} (hk : k < 67) (h2 : rR_kd k = 3) (hn : rR_ln k = n) (d : decode cc pc = .ok (.baload, 1)) (hq : pc + 1 = q) (kk : rv_M (rR_G D cI cZ ad) (rR_A ad) p l e R s m args below meth c 0 0 Q t q lv (.int (rv_i (rv_z (M k i.toNatClampNeg))) :: st) M) : rv_M (rR_G D cI cZ ad) (rR_A ad) p l e R s m args below meth c 0 0 Q (if rv_in i n = true then t else none) pc lv (.int i :: .ref (ad k) :: st) M := by
  refine rv_g (fun hi => ?_)
  subst hq; subst hn
  intro res h H locs ls hG hS hl
  have h9 : rR_ent cI cZ ad M k = .inl (cZ, rR_ln k, .inl (fun i => rv_i (rv_z (M k i)))) := by unfold rR_ent; rw [if_neg (by omega), if_pos h2]
  have h8 := hG k (rR_dm_of hk (by omega))
  rw [h9] at h8
  have hP : va_P D vwCl [(ad k, .inl (cZ, rR_ln k, .inl (fun i => rv_i (rv_z (M k i)))))] H := fun j z hz => by
    match j, hz with
    | 0, hz => cases hz; exact h8
    | j + 1, hz => simp at hz
  exact va_zald E.1.1 E.1.2.1 E.2.1 hP 0 1 rfl rfl (rv_in_vp hi) d (kk res h H locs ls hG hS hl)
theorem rR_iast (E : rR_E D cI cZ ad cc nL ret p s m args meth c) {k n : Nat} {i x : Int32} (hk : k < 67) (h2 : rR_kd k = 2) (hn : rR_ln k = n) (d : decode cc pc = .ok (.iastore, 1)) (hq : pc + 1 = q) (kk : rv_M (rR_G D cI cZ ad) (rR_A ad) p l e R s m args below meth c 0 0 Q t q lv st (rv_u M k i.toNatClampNeg x)) : rv_M (rR_G D cI cZ ad) (rR_A ad) p l e R s m args below meth c 0 0 Q (if rv_in i n = true then t else none) pc lv (.int x :: .int i :: .ref (ad k) :: st) M := by
  refine rv_g (fun hi => ?_)
  subst hq; subst hn
  intro res h H locs ls hG hS hl
  have h9 : rR_ent cI cZ ad M k = .inl (cI, rR_ln k, .inl (M k)) := by unfold rR_ent; rw [if_neg (by omega), if_neg (by omega)]
  have hdm := rR_dm_of hk (show 2 ≤ rR_kd k by omega)
  have h8 := hG k hdm
  rw [h9] at h8
  refine W.iast E.1.1 E.1.2.1 h8 ((E.2.1.2 0 _ rfl).1 (rR_ln k) (fun j => .int (M k j))) (fun q => by cases q) (by show ¬ (i < 0 ∨ (arrV _ _ _).slots.size ≤ _); rw [arrV_size]; exact rv_in_vp hi) rfl rfl d fun H1 e1 z oq => ?_
  refine kk res h H1 _ ls (rR_G_upd (k := k) E.2.2.1 hdm hG ?_ ?_ oq) (hS.put z oq ⟨k, hdm, rfl⟩) hl
  · have h7 : rR_ent cI cZ ad (rv_u M k i.toNatClampNeg x) k = .inl (cI, rR_ln k, .inl (upd (M k) i.toNatClampNeg x)) := by
      unfold rR_ent
      rw [if_neg (by omega), if_neg (by omega)]
      congr 4
      funext j
      simp [rv_u, upd]
    rw [h7]
    show H1[ad k]? = some (vp_cell _ _)
    rw [e1]
    rw [vp_cell_i, vp_cell_i, arrV_store]
    show some (arrV _ _ _) = some (arrV _ _ _)
    congr 2
    funext j
    unfold updV upd
    by_cases hj : j = i.toNatClampNeg <;> simp [hj]
  · intro j hj hdj
    unfold rR_ent
    rw [rR_fl_arr (show 2 ≤ rR_kd k by omega)]
    have : rv_u M k i.toNatClampNeg x j = M j := by funext y; simp [rv_u, hj]
    rw [this]
theorem rR_zast (E : rR_E D cI cZ ad cc nL ret p s m args meth c) {k n : Nat} {i : Int32} (b : Bool) (hk : k < 67) (h2 : rR_kd k = 3) (hn : rR_ln k = n) (d : decode cc pc = .ok (.bastore, 1)) (hq : pc + 1 = q) (kk : rv_M (rR_G D cI cZ ad) (rR_A ad) p l e R s m args below meth c 0 0 Q t q lv st (rv_u M k i.toNatClampNeg (rv_i b))) : rv_M (rR_G D cI cZ ad) (rR_A ad) p l e R s m args below meth c 0 0 Q (if rv_in i n = true then t else none) pc lv (.int (rv_i b) :: .int i :: .ref (ad k) :: st) M := by
  refine rv_g (fun hi => ?_)
  subst hq; subst hn
  intro res h H locs ls hG hS hl
  have h9 : rR_ent cI cZ ad M k = .inl (cZ, rR_ln k, .inl (fun i => rv_i (rv_z (M k i)))) := by unfold rR_ent; rw [if_neg (by omega), if_pos h2]
  have hdm := rR_dm_of hk (show 2 ≤ rR_kd k by omega)
  have h8 := hG k hdm
  rw [h9] at h8
  refine W.zast E.1.1 E.1.2.1 h8 ((E.2.1.2 1 _ rfl).1 (rR_ln k) (fun j => .int (rv_i (rv_z (M k j))))) (fun q => by cases q) (by show ¬ (i < 0 ∨ (arrV _ _ _).slots.size ≤ _); rw [arrV_size]; exact rv_in_vp hi) rfl rfl d fun H1 e1 z oq => ?_
  refine kk res h H1 _ ls (rR_G_upd (k := k) E.2.2.1 hdm hG ?_ ?_ oq) (hS.put z oq ⟨k, hdm, rfl⟩) hl
  · have h7 : rR_ent cI cZ ad (rv_u M k i.toNatClampNeg (rv_i b)) k = .inl (cZ, rR_ln k, .inl (upd (fun i => rv_i (rv_z (M k i))) i.toNatClampNeg (rv_i b))) := by
      unfold rR_ent
      rw [if_neg (by omega), if_pos h2]
      congr 4
      funext j
      by_cases hj : j = i.toNatClampNeg
      · simp [rv_u, upd, hj, rv_z_i]
      · simp [rv_u, upd, hj]
    rw [h7]
    show H1[ad k]? = some (vp_cell _ _)
    rw [e1]
    rw [vp_cell_i, vp_cell_i, rv_i_nar, arrV_store]
    show some (arrV _ _ _) = some (arrV _ _ _)
    congr 2
    funext j
    unfold updV upd
    by_cases hj : j = i.toNatClampNeg <;> simp [hj]
  · intro j hj hdj
    unfold rR_ent
    rw [rR_fl_arr (show 2 ≤ rR_kd k by omega)]
    have : rv_u M k i.toNatClampNeg (rv_i b) j = M j := by funext y; simp [rv_u, hj]
    rw [this]
-- ends
theorem rR_iret (E : rR_E D cI cZ ad cc nL (some .int) p s m args meth c) {v : Int32} {r : ρ} (hQ : Q r = MQ below (rR_QI D cI cZ ad v M) args s 0 0 (rR_A ad)) (d : decode cc pc = .ok (.ireturn, 1)) : rv_M (rR_G D cI cZ ad) (rR_A ad) p l e R s m args below meth c 0 0 Q (some r) pc lv [.int v] M := by
  intro res h H locs ls hG hS hl
  cases h
  rw [hQ]
  exact W.iret E.1.1 E.1.2.1 E.2.2.2.1 (fun t ht hW => ⟨⟨v, M, rfl, ⟨rfl, rfl⟩, by show rR_G D cI cZ ad M t.heap; rw [ht]; exact hG⟩, hS.F ht⟩) hS.2.2 d (hlocks := E.2.2.2.2)
theorem rR_zret (E : rR_E D cI cZ ad cc nL (some .boolean) p s m args meth c) (b : Bool) {r : ρ} (hQ : Q r = MQ below (rR_QI D cI cZ ad (rv_i b) M) args s 0 0 (rR_A ad)) (d : decode cc pc = .ok (.ireturn, 1)) : rv_M (rR_G D cI cZ ad) (rR_A ad) p l e R s m args below meth c 0 0 Q (some r) pc lv [.int (rv_i b)] M := by
  intro res h H locs ls hG hS hl
  cases h
  rw [hQ]
  exact W.zret E.1.1 E.1.2.1 E.2.2.2.1 rv_i_nar (fun t ht hW => ⟨⟨rv_i b, M, rfl, ⟨rfl, rfl⟩, by show rR_G D cI cZ ad M t.heap; rw [ht]; exact hG⟩, hS.F ht⟩) hS.2.2 d (hlocks := E.2.2.2.2)
theorem rR_vret (E : rR_E D cI cZ ad cc nL none p s m args meth c) {r : ρ} (hQ : Q r = MQ below (rR_QV D cI cZ ad M) args s 0 0 (rR_A ad)) (d : decode cc pc = .ok (.return_, 1)) : rv_M (rR_G D cI cZ ad) (rR_A ad) p l e R s m args below meth c 0 0 Q (some r) pc lv [] M := by
  intro res h H locs ls hG hS hl
  cases h
  rw [hQ]
  exact W.vret E.1.1 E.1.2.1 E.2.2.2.1 (fun t ht hW => ⟨⟨M, rfl, rfl, by show rR_G D cI cZ ad M t.heap; rw [ht]; exact hG⟩, hS.F ht⟩) hS.2.2 d (hlocks := E.2.2.2.2)
-- calls of the object's own methods
theorem rR_recv (E : rR_E D cI cZ ad cc nL ret p s m args meth c) {H : Heap} (hG : rR_G D cI cZ ad M H) : ∃ cell : Cell, H[ad 67]? = some cell ∧ cell.vm.isStatics = false ∧ s.vm.findClass RX12 = some cell.cls := by
  have hP : va_P D vwCl [(ad 67, .inr (13, rR_fl ad M))] H := fun i z hz => by
    match i, hz with
    | 0, hz => cases hz; exact hG 67 rfl
    | i + 1, hz => simp at hz
  exact va_recv E.2.1 hP (ci := 13) (q0 := 0) rfl rfl
theorem rR_blind {av : List Value} : FrameBlind (rR_Pc D cI cZ ad av M) := fun a U g mk hq => ⟨hq.1, hq.2.1, va_K.moved (u := U) (U := U.calling g mk a) (Vm.Alike.refl U.vm) hq.2.2⟩
variable {y : MethodName} {by_ : ByteArray} {maxL n idx : Nat} {rt : Option FieldType} {rm : Room} {As rest : List Value}
theorem rR_calli (E : rR_E D cI cZ ad cc nL ret p s m args meth c) {v : Int32} {M' : rv_Mem} (hM : Met l y (rv_ws y by_ maxL rt) rm (rR_Pc D cI cZ ad (.ref (ad 67) :: As) M) (rR_QI D cI cZ ad v M') 0 0 (rR_A ad)) (cg : GoodIn rv_AL (wsV RX12 idx RX12 y (rv_ws y by_ maxL rt))) (hd : y.cls = RX12 ∧ y.cls ≠ "java/lang/invoke/MethodHandle" ∧ y.cls ≠ "java/lang/invoke/VarHandle" ∧ (parseMethodDescriptor y.desc).map (fun d => d.parameters.length) = some n) (hrm : rm.cells = 0 ∧ rm.slots = 0) (hR : rm.frames + 1 ≤ R.frames ∧ 8 + (maxL + 11) + rm.locals ≤ R.locals) (hn : As.length = n) (hlv : lv.length = nL) (hst : st = As.reverse ++ .ref (ad 67) :: rest) (hrs : (rest.map fun v => v.category).sum ≤ 8) (d : decode cc pc = .ok (.invokevirtual idx, 3)) (hq : pc + 3 = q) (kk : rv_M (rR_G D cI cZ ad) (rR_A ad) p l e R s m args below meth c 0 0 Q t q lv (.int v :: rest) M') : rv_M (rR_G D cI cZ ad) (rR_A ad) p l e R s m args below meth c 0 0 Q t pc lv st M := by
  subst hq; subst hst
  intro res h H locs ls hG hS hl
  refine va_calli (va_runV (C := RX12) (b := ad 67) (As := As) (rest := rest) E.1 hM (cwV n E.hts cg rfl hrm.1 hrm.2 hd hR) ⟨rR_blind, rR_recv E hG, fun U hU hW => ⟨rfl, by rw [hU]; exact hG, va_K.moved hW.alike E.2.1⟩⟩ rfl hn (hl.1.trans hlv) rfl (by simpa using hrs) d ⟨Nat.zero_le _, Nat.zero_le _⟩) hS (fun _ _ hq => hq) (fun _ hq => hq) (fun r u t H1 locs1 ht hvm hw hB hz1 hk1 hS1 => ?_)
  obtain ⟨rfl, rfl⟩ := hw
  rw [ht] at hB
  exact kk res h H1 locs1 ls hB hS1 hl
theorem rR_callv (E : rR_E D cI cZ ad cc nL ret p s m args meth c) {M' : rv_Mem} (hM : Met l y (rv_ws y by_ maxL rt) rm (rR_Pc D cI cZ ad (.ref (ad 67) :: As) M) (rR_QV D cI cZ ad M') 0 0 (rR_A ad)) (cg : GoodIn rv_AL (wsV RX12 idx RX12 y (rv_ws y by_ maxL rt))) (hd : y.cls = RX12 ∧ y.cls ≠ "java/lang/invoke/MethodHandle" ∧ y.cls ≠ "java/lang/invoke/VarHandle" ∧ (parseMethodDescriptor y.desc).map (fun d => d.parameters.length) = some n) (hrm : rm.cells = 0 ∧ rm.slots = 0) (hR : rm.frames + 1 ≤ R.frames ∧ 8 + (maxL + 11) + rm.locals ≤ R.locals) (hn : As.length = n) (hlv : lv.length = nL) (hst : st = As.reverse ++ .ref (ad 67) :: rest) (hrs : (rest.map fun v => v.category).sum ≤ 8) (d : decode cc pc = .ok (.invokevirtual idx, 3)) (hq : pc + 3 = q) (kk : rv_M (rR_G D cI cZ ad) (rR_A ad) p l e R s m args below meth c 0 0 Q t q lv rest M') : rv_M (rR_G D cI cZ ad) (rR_A ad) p l e R s m args below meth c 0 0 Q t pc lv st M := by
  subst hq; subst hst
  intro res h H locs ls hG hS hl
  refine va_callv (va_runV (C := RX12) (b := ad 67) (As := As) (rest := rest) E.1 hM (cwV n E.hts cg rfl hrm.1 hrm.2 hd hR) ⟨rR_blind, rR_recv E hG, fun U hU hW => ⟨rfl, by rw [hU]; exact hG, va_K.moved hW.alike E.2.1⟩⟩ rfl hn (hl.1.trans hlv) rfl (by simpa using hrs) d ⟨Nat.zero_le _, Nat.zero_le _⟩) hS (fun _ _ hq => hq) (fun _ hq => hq) (fun u t H1 locs1 ht hvm hw hB hz1 hk1 hS1 => ?_)
  subst hw
  rw [ht] at hB
  exact kk res h H1 locs1 ls hB hS1 hl
theorem rR_calls (E : rR_E D cI cZ ad cc nL ret p s m args meth c) {v : Int32} (hM : Met l y (rv_ws y by_ maxL rt) rm (va_Pc As (fun _ => True)) (rR_SQ v) 0 0 (fun _ => False)) (cg : GoodIn rv_AL (va_wsS RX12 idx y (rv_ws y by_ maxL rt))) (hd : y.cls ≠ "java/lang/invoke/MethodHandle" ∧ y.cls ≠ "java/lang/invoke/VarHandle" ∧ (parseMethodDescriptor y.desc).map (fun d => d.parameters.length) = some n) (hrm : rm.cells = 0 ∧ rm.slots = 0) (hR : rm.frames + 1 ≤ R.frames ∧ 8 + (maxL + 11) + rm.locals ≤ R.locals) (hn : As.length = n) (hlv : lv.length = nL) (hst : st = As.reverse ++ rest) (hrs : (rest.map fun v => v.category).sum ≤ 8) (d : decode cc pc = .ok (.invokestatic idx, 3)) (hq : pc + 3 = q) (kk : rv_M (rR_G D cI cZ ad) (rR_A ad) p l e R s m args below meth c 0 0 Q t q lv (.int v :: rest) M) : rv_M (rR_G D cI cZ ad) (rR_A ad) p l e R s m args below meth c 0 0 Q t pc lv st M :=
  rv_calls E.1 (fun _ _ _ hq hG => rR_kept hG hq) hM rfl cg hd hrm hR hn hlv hst hrs ⟨Nat.zero_le _, Nat.zero_le _⟩ d hq kk
end RR
theorem rv_slm : ∀ (vs : List Value), (∀ v ∈ vs, v.category = 1) → lg_sl vs = vs.map Slot.val
  | [], _ => rfl
  | v :: vs, h => by
    have h1 := h v List.mem_cons_self
    have h2 := rv_slm vs (fun w hw => h w (List.mem_cons_of_mem _ hw))
    unfold lg_sl at h2 ⊢
    rw [List.flatMap_cons, h2, if_neg (by omega)]
    rfl
/-- a method of the object out of its walk -/
theorem rR_met {l : Launch} {y : MethodName} {cc : ByteArray} {maxL : Nat} {ret : Option FieldType} {rm : Room} {D : va_G} {cI cZ : ClassId} {ad : Nat → Nat} {M : rv_Mem} {vs : List Value} {Qc : Array Value → State → Outcome → State → Prop} {ρ : Type} {t : Option ρ} {r : ρ} (hI : rR_I ad) (hy : y.cls = RX12) (hvc : ∀ v ∈ vs, v.category = 1) (hvn : vs.length ≤ maxL)
    (body : ∀ (p : Program) (e : Env) (s : State) (m : MethodId) (args : Array Value) (below : List Frame) (meth : Method) (c : Code), rR_E D cI cZ ad cc maxL ret p s m args meth c → ∃ Q : ρ → State → Prop, Q r = MQ below Qc args s 0 0 (rR_A ad) ∧ rv_M (rR_G D cI cZ ad) (rR_A ad) p l e rm s m args below meth c 0 0 Q t 0 (vs.map some ++ List.replicate (maxL - vs.length) none) [] M) (ht : t = some r) : Met l y (rv_ws y cc maxL ret) rm (rR_Pc D cI cZ ad vs M) Qc 0 0 (rR_A ad) := by
  refine Met.ofW (cc := cc) (maxL := maxL) (ret := ret) (by rw [hy]; decide) rfl ?_
  intro p e s m args below meth c s₁ B hml hv
  obtain ⟨rfl, hG, hK⟩ := hv
  have hts := atoms_spec (ws := rv_ws y cc maxL ret) B.pre
  have hown : s.vm.findClass RX12 = some m.cls := by rw [← hy]; exact findClass_of_methodNamed B.named
  obtain ⟨Q, hQ, k⟩ := body p e s m vs.toArray below meth c ⟨⟨B.exec, B.bytes, hml, hown, fun w hw => hts w (List.mem_cons_of_mem _ hw)⟩, hK, hI, B.returns, B.notSynchronized⟩
  rw [← hQ, lg_entry_eq]
  have hcv := rv_slm vs hvc
  have hl := rv_entry vs hvc hvn (lv_entry vs (n := maxL) (by rw [hcv]; simpa using hvn))
  exact k r ht s.heap [] _ hG va_S.rf hl
/-- a static method out of its walk -/
theorem rR_mets {l : Launch} {y : MethodName} {cc : ByteArray} {maxL : Nat} {ret : Option FieldType} {rm : Room} {vs : List Value} {v : Int32} {ρ : Type} {t : Option ρ} {r : ρ} (hy : y.cls = RX12) (hvc : ∀ v ∈ vs, v.category = 1) (hvn : vs.length ≤ maxL)
    (body : ∀ (p : Program) (e : Env) (s : State) (m : MethodId) (args : Array Value) (below : List Frame) (meth : Method) (c : Code), CallFix p m c cc maxL s args rv_AL RX12 → meth.sig.returnType = ret → meth.locks = false → ∃ Q : ρ → State → Prop, Q r = MQ below (rR_SQ v) args s 0 0 (fun _ => False) ∧ rv_M (fun (_ : Unit) _ => True) (fun _ => False) p l e rm s m args below meth c 0 0 Q t 0 (vs.map some ++ List.replicate (maxL - vs.length) none) [] ()) (ht : t = some r) : Met l y (rv_ws y cc maxL ret) rm (va_Pc vs (fun _ => True)) (rR_SQ v) 0 0 (fun _ => False) := by
  refine Met.ofW (cc := cc) (maxL := maxL) (ret := ret) (by rw [hy]; decide) rfl ?_
  intro p e s m args below meth c s₁ B hml hv
  obtain ⟨rfl, -⟩ := hv
  have hts := atoms_spec (ws := rv_ws y cc maxL ret) B.pre
  have hown : s.vm.findClass RX12 = some m.cls := by rw [← hy]; exact findClass_of_methodNamed B.named
  obtain ⟨Q, hQ, k⟩ := body p e s m vs.toArray below meth c ⟨B.exec, B.bytes, hml, hown, fun w hw => hts w (List.mem_cons_of_mem _ hw)⟩ B.returns B.notSynchronized
  rw [← hQ, lg_entry_eq]
  have hcv := rv_slm vs hvc
  have hl := rv_entry vs hvc hvn (lv_entry vs (n := maxL) (by rw [hcv]; simpa using hvn))
  exact k r ht s.heap [] _ trivial va_S.rf hl
def rS_E (cc : ByteArray) (nL : Nat) (ret : Option FieldType) (p : Program) (s : State) (m : MethodId) (args : Array Value) (meth : Method) (c : Code) : Prop := CallFix p m c cc nL s args rv_AL RX12 ∧ meth.sig.returnType = ret ∧ meth.locks = false
def rS_qI (below : List Frame) (args : Array Value) (s : State) : Int32 → State → Prop := fun r => MQ below (rR_SQ r) args s 0 0 (fun _ => False)
def rS_qZ (below : List Frame) (args : Array Value) (s : State) : Bool → State → Prop := fun r => MQ below (rR_SQ (rv_i r)) args s 0 0 (fun _ => False)
def rR_qI (D : va_G) (cI cZ : ClassId) (ad : Nat → Nat) (below : List Frame) (args : Array Value) (s : State) (M : rv_Mem) : Int32 → State → Prop := fun r => MQ below (rR_QI D cI cZ ad r M) args s 0 0 (rR_A ad)
def rR_qZ (D : va_G) (cI cZ : ClassId) (ad : Nat → Nat) (below : List Frame) (args : Array Value) (s : State) (M : rv_Mem) : Bool → State → Prop := fun r => MQ below (rR_QI D cI cZ ad (rv_i r) M) args s 0 0 (rR_A ad)
def rR_qIW (D : va_G) (cI cZ : ClassId) (ad : Nat → Nat) (below : List Frame) (args : Array Value) (s : State) : Int32 × rv_Mem → State → Prop := fun r => MQ below (rR_QI D cI cZ ad r.1 r.2) args s 0 0 (rR_A ad)
def rR_qZW (D : va_G) (cI cZ : ClassId) (ad : Nat → Nat) (below : List Frame) (args : Array Value) (s : State) : Bool × rv_Mem → State → Prop := fun r => MQ below (rR_QI D cI cZ ad (rv_i r.1) r.2) args s 0 0 (rR_A ad)
def rR_qV (D : va_G) (cI cZ : ClassId) (ad : Nat → Nat) (below : List Frame) (args : Array Value) (s : State) : rv_Mem → State → Prop := fun r => MQ below (rR_QV D cI cZ ad r) args s 0 0 (rR_A ad)
section RS
variable {p : Program} {l : Launch} {e : Env} {R : Room} {s : State} {m : MethodId} {args : Array Value} {below : List Frame} {meth : Method} {c : Code}
variable {ρ : Type} {Q : ρ → State → Prop} {cc : ByteArray} {nL pc q : Nat} {ret : Option FieldType} {lv : List (Option Value)} {st : List Value} {t : Option ρ}
theorem rS_E.x (E : rS_E cc nL ret p s m args meth c) : rv_E p c cc := ⟨E.1.1, E.1.2.1⟩
theorem rS_calls {y : MethodName} {by_ : ByteArray} {maxL n idx : Nat} {rt : Option FieldType} {rm : Room} {As rest : List Value} (E : rS_E cc nL ret p s m args meth c) {v : Int32} (hM : Met l y (rv_ws y by_ maxL rt) rm (va_Pc As (fun _ => True)) (rR_SQ v) 0 0 (fun _ => False)) (cg : GoodIn rv_AL (va_wsS RX12 idx y (rv_ws y by_ maxL rt))) (hd : y.cls ≠ "java/lang/invoke/MethodHandle" ∧ y.cls ≠ "java/lang/invoke/VarHandle" ∧ (parseMethodDescriptor y.desc).map (fun d => d.parameters.length) = some n) (hrm : rm.cells = 0 ∧ rm.slots = 0) (hR : rm.frames + 1 ≤ R.frames ∧ 8 + (maxL + 11) + rm.locals ≤ R.locals) (hn : As.length = n) (hlv : lv.length = nL) (hst : st = As.reverse ++ rest) (hrs : (rest.map fun v => v.category).sum ≤ 8) (d : decode cc pc = .ok (.invokestatic idx, 3)) (hq : pc + 3 = q) (kk : rv_M (fun (_ : Unit) _ => True) (fun _ => False) p l e R s m args below meth c 0 0 Q t q lv (.int v :: rest) ()) : rv_M (fun (_ : Unit) _ => True) (fun _ => False) p l e R s m args below meth c 0 0 Q t pc lv st () :=
  rv_calls E.1 (fun _ _ _ _ _ => trivial) hM rfl cg hd hrm hR hn hlv hst hrs ⟨Nat.zero_le _, Nat.zero_le _⟩ d hq kk
theorem rR_sret (E : rS_E cc nL (some .int) p s m args meth c) {v : Int32} {r : ρ} (hQ : Q r = MQ below (rR_SQ v) args s 0 0 (fun _ => False)) (d : decode cc pc = .ok (.ireturn, 1)) : rv_M (fun (_ : Unit) _ => True) (fun _ => False) p l e R s m args below meth c 0 0 Q (some r) pc lv [.int v] () := by
  intro res h H locs ls hG hS hl
  cases h
  rw [hQ]
  exact W.iret E.1.1 E.1.2.1 E.2.1 (fun t ht hW => ⟨⟨v, (), rfl, rfl, trivial⟩, hS.F ht⟩) hS.2.2 d (hlocks := E.2.2)
theorem rR_szret (E : rS_E cc nL (some .boolean) p s m args meth c) (b : Bool) {r : ρ} (hQ : Q r = MQ below (rR_SQ (rv_i b)) args s 0 0 (fun _ => False)) (d : decode cc pc = .ok (.ireturn, 1)) : rv_M (fun (_ : Unit) _ => True) (fun _ => False) p l e R s m args below meth c 0 0 Q (some r) pc lv [.int (rv_i b)] () := by
  intro res h H locs ls hG hS hl
  cases h
  rw [hQ]
  exact W.zret E.1.1 E.1.2.1 E.2.1 rv_i_nar (fun t ht hW => ⟨⟨rv_i b, (), rfl, rfl, trivial⟩, hS.F ht⟩) hS.2.2 d (hlocks := E.2.2)
end RS
