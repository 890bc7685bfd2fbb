/-! MORE ROWS OF MAKING: fill, stores into new arrays, branches that are known -/
theorem rK_cel {cI : ClassId} {N : Nat} {f g : Nat → Int32} (h : ∀ i, i < N → f i = g i) : vp_cell cI (N, .inl f) = vp_cell cI (N, .inl g) := by
  rw [vp_cell_i, vp_cell_i]
  unfold arrV
  congr 1
  congr 1
  funext j
  show Value.int (f j.val) = Value.int (g j.val)
  rw [h j.val j.isLt]
theorem rK_stI {D : va_G} {cI : ClassId} {N a i : Nat} {x : Int32} {g : Nat → Int32} {H1 : Heap} (e1 : H1[a]? = some ((vp_cell cI (N, .inl g)).setSlot i (.int x))) : va_at D vwCl (a, .inl (cI, N, .inl (upd g i x))) H1 := by
  show H1[a]? = some (vp_cell _ _)
  rw [e1, vp_cell_i, vp_cell_i, arrV_store]
  show some (arrV _ _ _) = some (arrV _ _ _)
  congr 2
  funext j
  unfold updV upd
  by_cases hj : j = i <;> simp [hj]
theorem rv_inN {j N : Nat} (h : j < N) (hN : N < 2 ^ 31) : rv_in (nI j) N = true := by
  unfold rv_in
  refine decide_eq_true (fun z => ?_)
  exact nI_in h hN z
section KF
variable {l : Launch} {D : va_G} {cI cZ cO : ClassId}
abbrev rmK_fill : Room := { frames := 0, cells := 0, slots := 0, locals := 0 }
def rK_fP (D : va_G) (cI cZ cO : ClassId) (sz a N : Nat) (f : Nat → Int32) (U : State) : Prop := va_K D vwCl [(cI, .int), (cZ, .boolean), (cO, .object "java/lang/Object")] U ∧ U.heap.size = sz ∧ va_at D vwCl (a, .inl (cI, N, .inl f)) U.heap
def rK_fQ (D : va_G) (cI : ClassId) (sz a N : Nat) (v : Int32) : Array Value → State → Outcome → State → Prop := va_Qv (fun (_ : Unit) => True) (fun _ t => t.heap.size = sz ∧ va_at D vwCl (a, .inl (cI, N, .inl (fun _ => v))) t.heap) (fun q => q = a)
theorem cK_fill {sz a N : Nat} {v : Int32} {f : Nat → Int32} (hN : N < 2000) : Met l yJ7_fill_53178 (rv_ws yJ7_fill_53178 cJ7_fill_53178 4 none) rmK_fill (va_Pc [.ref a, .int v] (rK_fP D cI cZ cO sz a N f)) (rK_fQ D cI sz a N v) 0 0 (fun q => q = a) := by
  refine rJ_met (own := RJ7) rfl (by decide) (Nat.le_of_ble_eq_true rfl) (fun p e s m args below meth c ls E hret hlk hP hl => ?_)
  obtain ⟨hK, hsz, hat⟩ := hP
  change rv_has ls [some (.ref a), some (.int v), none, none] at hl
  have loop : ∀ (n j : Nat), j + n = N → ∀ (H : Heap) (locs : List Loc) (ls : Array Slot) (g : Nat → Int32), va_S (fun q => q = a) s.heap H locs → H.size = sz → va_at D vwCl (a, .inl (cI, N, .inl g)) H → (∀ i, i < j → g i = v) → rv_has ls [some (.ref a), some (.int v), some (.int (nI j)), some (.int (nI N))] → W p l e rmK_fill s m args below meth c H locs 0 0 (MQ below (rK_fQ D cI sz a N v) args s 0 0 (fun q => q = a)) (F0 m 5 ls []) := by
    intro n
    induction n with
    | zero =>
      intro j hj H locs ls g hS hz hA hg hl
      refine lv_iload_n E.1 E.2.1 dJ7_fill_53178_5 rfl (hl.2.2 2 _ rfl) ?_
      refine lv_iload_n E.1 E.2.1 dJ7_fill_53178_6 rfl (hl.2.2 3 _ rfl) ?_
      refine lv_icmp_ge (tgt := 20) E.1 E.2.1 dJ7_fill_53178_7 (by decide) (fun h => ?_) (fun h => ?_)
      · refine W.vret E.1 E.2.1 hret (fun t ht hW => ⟨⟨(), rfl, trivial, by rw [ht]; exact hz, ?_⟩, hS.F ht⟩) hS.2.2 dJ7_fill_53178_20 (hlocks := hlk)
        rw [ht]
        show H[a]? = some (vp_cell cI (N, .inl fun _ => v))
        rw [← rK_cel (f := g) (fun i hi => hg i (by omega))]
        exact hA
      · exact absurd (by rw [show j = N by omega]; exact Int32.le_refl _) h
    | succ n ih =>
      intro j hj H locs ls g hS hz hA hg hl
      refine lv_iload_n E.1 E.2.1 dJ7_fill_53178_5 rfl (hl.2.2 2 _ rfl) ?_
      refine lv_iload_n E.1 E.2.1 dJ7_fill_53178_6 rfl (hl.2.2 3 _ rfl) ?_
      refine lv_icmp_ge (tgt := 20) E.1 E.2.1 dJ7_fill_53178_7 (by decide) (fun h => ?_) (fun h => ?_)
      · exact absurd h (Int32.not_le.mpr (nI_lt (by omega) (by omega)))
      · refine lv_aload_n E.1 E.2.1 dJ7_fill_53178_10 rfl (hl.2.2 0 _ rfl) ?_
        refine lv_iload_n E.1 E.2.1 dJ7_fill_53178_11 rfl (hl.2.2 2 _ rfl) ?_
        refine lv_iload_n E.1 E.2.1 dJ7_fill_53178_12 rfl (hl.2.2 1 _ rfl) ?_
        have hin : rv_in (nI j) N = true := rv_inN (by omega) (by omega)
        refine W.iast E.1 E.2.1 hA ((hK.2 0 _ rfl).1 N (fun j => .int (g j))) (fun q => by cases q) (by show ¬ (nI j < 0 ∨ (arrV _ _ _).slots.size ≤ _); rw [arrV_size]; exact rv_in_vp hin) rfl rfl dJ7_fill_53178_13 fun H1 e1 z oq => ?_
        have hA1 : va_at D vwCl (a, .inl (cI, N, .inl (upd g (nI j).toNatClampNeg v))) H1 := rK_stI e1
        rw [nI_clamp (by omega)] at hA1
        have hm : (2, Value.int (nI j)) ∈ rv_kl [some (.ref a), some (.int v), some (.int (nI j)), some (.int (nI N))] := rv_kl_mem.mpr rfl
        obtain ⟨jj, hjj⟩ := List.getElem?_of_mem hm
        refine lv_iinc (n := 1) E.1 E.2.1 dJ7_fill_53178_14 (rv_has_k hl) hjj rfl (Nat.le_of_ble_eq_true rfl) rfl (fun ls' hl' => ?_)
        have hl2 : rv_has ls' [some (.ref a), some (.int v), some (.int (nI j + Int32.ofInt 1)), some (.int (nI N))] := rv_has_set (i := 2) (Nat.le_of_ble_eq_true rfl) rfl hl'
        rw [show Int32.ofInt 1 = 1 by decide, ← nI_succ] at hl2
        refine lv_goto (tgt := 5) E.1 E.2.1 dJ7_fill_53178_17 (show ((17 : Nat) : Int) + (-12) = ((5 : Nat) : Int) by decide) ?_
        refine ih (j + 1) (by omega) H1 _ ls' _ (hS.put z oq rfl) (z.trans hz) hA1 (fun i hi => ?_) hl2
        unfold upd
        by_cases hij : i = j
        · rw [if_pos hij]
        · rw [if_neg hij]; exact hg i (by omega)
  refine lv_iconst (v := 0) E.1 E.2.1 dJ7_fill_53178_0 rfl ?_
  refine lv_istore_n E.1 E.2.1 dJ7_fill_53178_1 rfl (rv_has_k hl) (Nat.le_of_ble_eq_true rfl) rfl (fun ls' hl' => ?_)
  have hl2 : rv_has ls' [some (.ref a), some (.int v), some (.int 0), none] := rv_has_set (i := 2) (Nat.le_of_ble_eq_true rfl) rfl hl'
  refine lv_aload_n E.1 E.2.1 dJ7_fill_53178_2 rfl (hl2.2.2 0 _ rfl) ?_
  refine va_alen (v := nI N) E.1 E.2.1 hK (rJ_1 hat) 0 0 rfl rfl rfl dJ7_fill_53178_3 ?_
  refine lv_istore_n E.1 E.2.1 dJ7_fill_53178_4 rfl (rv_has_k hl2) (Nat.le_of_ble_eq_true rfl) rfl (fun ls'' hl'' => ?_)
  have hl3 : rv_has ls'' [some (.ref a), some (.int v), some (.int 0), some (.int (nI N))] := rv_has_set (i := 3) (Nat.le_of_ble_eq_true rfl) rfl hl''
  exact loop N 0 (by omega) s.heap [] ls'' f va_S.rf hsz hat (fun i hi => absurd hi (Nat.not_lt_zero i)) hl3
end KF
section KR
variable {p : Program} {l : Launch} {e : Env} {R : Room} {s : State} {m : MethodId} {args : Array Value} {below : List Frame} {meth : Method} {c : Code} {cells slots : Nat} {ρ : Type} {D : va_G} {cI cZ cO : ClassId} {de b ci : Nat} {A : Nat → Prop} {own : String} {Q : ρ → State → Prop} {cc : ByteArray} {nL pc q : Nat} {lv lv' : List (Option Value)} {st : List Value} {t : Option ρ} {H0 : Heap} {fs : List Value} {ws : List va_E}
theorem rv_ge_no (E : rv_E p c cc) {μ : Type} {G : μ → Heap → Prop} {M : μ} {x y : Int32} {off : Int} {tgt : Nat} (d : decode cc pc = .ok (.if_icmp .ge off, 3)) (ht : (pc : Int) + off = (tgt : Int)) (hq : pc + 3 = q) (h : x < y) (kk : rv_M G A p l e R s m args below meth c cells slots Q t q lv st M) : rv_M G A p l e R s m args below meth c cells slots Q t pc lv (.int y :: .int x :: st) M := by
  subst hq; exact fun res hh H locs ls hG hS hl => lv_icmp_ge E.1 E.2 d ht (fun z => absurd z (Int32.not_le.mpr h)) (fun _ => kk res hh H locs ls hG hS hl)
theorem rv_ge_yes (E : rv_E p c cc) {μ : Type} {G : μ → Heap → Prop} {M : μ} {x y : Int32} {off : Int} {tgt : Nat} (d : decode cc pc = .ok (.if_icmp .ge off, 3)) (ht : (pc : Int) + off = (tgt : Int)) (h : y ≤ x) (kk : rv_M G A p l e R s m args below meth c cells slots Q t tgt lv st M) : rv_M G A p l e R s m args below meth c cells slots Q t pc lv (.int y :: .int x :: st) M :=
  fun res hh H locs ls hG hS hl => lv_icmp_ge E.1 E.2 d ht (fun _ => kk res hh H locs ls hG hS hl) (fun z => absurd h z)
theorem rK_iast (E : rK_E D cI cZ cO de b A own cc nL p s m args c) {N k : Nat} {i x : Int32} {g : Nat → Int32} (hk : ws[k]? = some (.inl (cI, N, .inl g))) (hi : rv_in i N = true) (d : decode cc pc = .ok (.iastore, 1)) (hq : pc + 1 = q) (kk : rv_M (rK_G D H0 b ci) A p l e R s m args below meth c cells slots Q t q lv st (fs, ws.set k (.inl (cI, N, .inl (upd g i.toNatClampNeg x))))) : rv_M (rK_G D H0 b ci) A p l e R s m args below meth c cells slots Q t pc lv (.int x :: .int i :: .ref (b + 1 + k) :: st) (fs, ws) := by
  subst hq
  intro res h H locs ls hG hS hl
  have h8 := hG.1.2.2 k _ hk
  refine W.iast E.1.1 E.1.2.1 h8 ((E.2.1.1.2 0 _ rfl).1 N (fun j => .int (g j))) (fun q => by cases q) (by show ¬ (i < 0 ∨ (arrV _ _ _).slots.size ≤ _); rw [arrV_size]; exact rv_in_vp hi) rfl rfl d fun H1 e1 z oq => ?_
  refine kk res h H1 _ ls ⟨⟨by rw [List.length_set]; exact z.trans hG.1.1, hG.1.2.1.kept (oq b (by show b ≠ b + 1 + k; omega)), fun j y hy => ?_⟩, fun q hq => (oq q (by show q ≠ b + 1 + k; omega)).trans (hG.2 q hq)⟩ (hS.put z oq (E.2.2 _ (by omega))) hl
  by_cases hjk : j = k
  · subst hjk
    rw [List.getElem?_set_self (List.getElem?_eq_some_iff.mp hk).1] at hy
    cases hy
    exact rK_stI e1
  · rw [List.getElem?_set_ne (Ne.symm hjk)] at hy
    exact (hG.1.2.2 j y hy).kept (oq _ (by show b + 1 + j ≠ b + 1 + k; omega))
theorem rK_fill (E : rK_E D cI cZ cO de b A own cc nL p s m args c) {N k idx : Nat} {v : Int32} {g : Nat → Int32} (hk : ws[k]? = some (.inl (cI, N, .inl g))) (hN : N < 2000) (cg : GoodIn rv_AL (va_wsS own idx yJ7_fill_53178 (rv_ws yJ7_fill_53178 cJ7_fill_53178 4 none))) (hR : 0 + 1 ≤ R.frames ∧ 8 + (4 + 11) + 0 ≤ R.locals) (hlv : lv.length = nL) (hrs : (st.map fun v => v.category).sum ≤ 8) (hf : cells ≤ R.cells ∧ slots ≤ R.slots) (d : decode cc pc = .ok (.invokestatic idx, 3)) (hq : pc + 3 = q) (kk : rv_M (rK_G D H0 b ci) A p l e R s m args below meth c cells slots Q t q lv st (fs, ws.set k (.inl (cI, N, .inl (fun _ => v))))) : rv_M (rK_G D H0 b ci) A p l e R s m args below meth c cells slots Q t pc lv (.int v :: .ref (b + 1 + k) :: st) (fs, ws) := by
  subst hq
  intro res h H locs ls hG hS hl
  have h8 := hG.1.2.2 k _ hk
  have hAb : A (b + 1 + k) := E.2.2 _ (by omega)
  refine va_callv (va_runS (As := [.ref (b + 1 + k), .int v]) (rest := st) E.1 (cK_fill (sz := H.size) hN) (va_cwS 2 E.hts cg rfl rfl rfl (by decide +kernel) hR) ⟨fun a U g mk hq => ⟨hq.1, va_K.moved (u := U) (U := U.calling g mk a) (Vm.Alike.refl U.vm) hq.2.1, hq.2.2⟩, fun U hU hW => ⟨rfl, va_K.moved hW.alike E.2.1.1, by rw [hU], by rw [hU]; exact h8⟩⟩ rfl rfl (hl.1.trans hlv) rfl (by simpa using hrs) d hf) hS (fun q _ hq => by rw [hq]; exact hAb) (fun q hq => by rw [hq]; exact hAb) (fun u t H1 locs1 ht hvm hw hB hz1 hk1 hS1 => ?_)
  rw [ht] at hB
  have kp : ∀ q : Nat, q < H.size → q ≠ b + 1 + k → H1[q]? = H[q]? := fun q h1 h2 => hk1 q h1 h2
  refine kk res h H1 locs1 ls ⟨⟨by rw [List.length_set]; exact hB.1.trans hG.1.1, hG.1.2.1.kept (kp b hG.1.2.1.lt (by omega)), fun j y hy => ?_⟩, fun q hq => (kp q (by have := hG.1.2.1.lt; have h9 : b < H.size := this; omega) (by omega)).trans (hG.2 q hq)⟩ hS1 hl
  by_cases hjk : j = k
  · subst hjk
    rw [List.getElem?_set_self (List.getElem?_eq_some_iff.mp hk).1] at hy
    cases hy
    exact hB.2
  · rw [List.getElem?_set_ne (Ne.symm hjk)] at hy
    have h9 := hG.1.2.2 j y hy
    exact h9.kept (kp _ h9.lt (by show b + 1 + j ≠ b + 1 + k; omega))
end KR
