/-! LISTS: the JDK's own methods -/
theorem wlJL_0 : u_lay RJx4a65c TJx4a65c 0 ∈ rv_AL := rv_al (rv_t2 (List.mem_of_getElem? (i := 2) rfl)) rfl
theorem wlJL_1 : u_lay RJx4a65c TJx4a65c 1 ∈ rv_AL := rv_al (rv_t1 (List.mem_of_getElem? (i := 238) rfl)) rfl
theorem wlJL_2 : u_lay RJx4a65c TJx4a65c 2 ∈ rv_AL := rv_al (rv_t2 (List.mem_of_getElem? (i := 0) rfl)) rfl
theorem wlJL : ∀ w ∈ u_ws RJx4a65c TJx4a65c 3, w ∈ rv_AL := by
  intro w hw
  obtain ⟨k, hk, rfl⟩ := List.mem_map.mp hw
  rw [List.mem_range] at hk
  exact (match k, hk with | 0, _ => wlJL_0 | 1, _ => wlJL_1 | 2, _ => wlJL_2 | k + 3, h => absurd h (by omega))
theorem wfJL_48 : Cond.fieldLink RJx4a65c 48 "java/util/ArrayList" "size" "I" ∈ rv_AL := rv_al (rv_t1 (List.mem_of_getElem? (i := 234) rfl)) rfl
theorem wfJL_9 : Cond.fieldLink RJx4a65c 9 "java/util/ArrayList" "elementData" "[Ljava/lang/Object;" ∈ rv_AL := rv_al (rv_t1 (List.mem_of_getElem? (i := 233) rfl)) rfl
theorem wcJL_118 : Cond.code yJ15_checkIndex_7cf53 cJ15_checkIndex_7cf53 2 (some .int) ∈ rv_AL := rv_al (rv_t2 (List.mem_of_getElem? (i := 181) rfl)) rfl
theorem wiJL_118 : Cond.initialized "java/util/Objects" ∈ rv_AL := rv_al (rv_t1 (List.mem_of_getElem? (i := 17) rfl)) rfl
theorem gJL_118 : GoodIn rv_AL (va_wsS RJx4a65c 118 yJ15_checkIndex_7cf53 (rv_ws yJ15_checkIndex_7cf53 cJ15_checkIndex_7cf53 2 (some .int))) := rv_gS (rv_al (rv_t2 (List.mem_of_getElem? (i := 179) rfl)) rfl) (rv_al (rv_t2 (List.mem_of_getElem? (i := 180) rfl)) rfl) wiJL_118 wcJL_118
theorem wcJ15_105 : Cond.code yJ3_checkIndex_8e157 cJ3_checkIndex_8e157 3 (some .int) ∈ rv_AL := rv_al (rv_t2 (List.mem_of_getElem? (i := 184) rfl)) rfl
theorem wiJ15_105 : Cond.initialized "jdk/internal/util/Preconditions" ∈ rv_AL := rv_al (rv_t1 (List.mem_of_getElem? (i := 18) rfl)) rfl
theorem gJ15_105 : GoodIn rv_AL (va_wsS RJ15 105 yJ3_checkIndex_8e157 (rv_ws yJ3_checkIndex_8e157 cJ3_checkIndex_8e157 3 (some .int))) := rv_gS (rv_al (rv_t2 (List.mem_of_getElem? (i := 182) rfl)) rfl) (rv_al (rv_t2 (List.mem_of_getElem? (i := 183) rfl)) rfl) wiJ15_105 wcJ15_105
theorem wcJL_123 : Cond.code yJx4a65c_elementData_915e3 cJx4a65c_elementData_915e3 2 (some (.object "java/lang/Object")) ∈ rv_AL := rv_al (rv_t2 (List.mem_of_getElem? (i := 188) rfl)) rfl
theorem wiJL_123 : Cond.initialized "java/util/ArrayList" ∈ rv_AL := rv_al (rv_t1 (List.mem_of_getElem? (i := 11) rfl)) rfl
theorem gJL_123 : GoodIn rv_AL (wsV RJx4a65c 123 RJx4a65c yJx4a65c_elementData_915e3 (rv_ws yJx4a65c_elementData_915e3 cJx4a65c_elementData_915e3 2 (some (.object "java/lang/Object")))) := rv_gV (rv_al (rv_t2 (List.mem_of_getElem? (i := 185) rfl)) rfl) (rv_al (rv_t2 (List.mem_of_getElem? (i := 186) rfl)) rfl) (rv_al (rv_t2 (List.mem_of_getElem? (i := 187) rfl)) rfl) wiJL_123 wcJL_123
section JL
variable {l : Launch} {D : va_G} {cI cZ cO : ClassId} {ad : Nat → Nat} {gh : rC_gh} {de : Nat} {M : rv_Mem}
theorem rC_LP {H : Heap} {i : Nat} (hi : i < 3) (hG : rC_G D cI cZ cO ad gh de M H) : ∃ (cap : Nat) (mc : Int32) (f : Nat → Option Nat), va_P D vwCl [(ad (9 + i), .inr (0, [.int mc, .ref (ad (9 + i + 44)), .int (nI (gh.1 i))]))] H ∧ (0 < gh.1 i → va_P D vwCl [(ad (9 + i + 44), .inl (cO, cap, .inr (.inr (.inr (.inr f)))))] H) ∧ gh.1 i ≤ cap ∧ ∀ j, j < gh.1 i → f j = some (ad (rC_b i + j)) := by
  obtain ⟨cap, mc, f, h1, h2, h3, -, -, -, h7, -⟩ := hG.2 i hi
  refine ⟨cap, mc, f, fun j z hz => ?_, fun z9 j z hz => ?_, h3, h7⟩
  · match j, hz with
    | 0, hz => cases hz; exact h1
    | j + 1, hz => simp at hz
  · match j, hz with
    | 0, hz => cases hz; exact h2.2 z9
    | j + 1, hz => simp at hz
theorem cJ_size (hI : rC_I ad gh) (i : Nat) (hi : i < 3 := by decide) : Met l yJx4a65c_size_8abf5 (rv_ws yJx4a65c_size_8abf5 cJx4a65c_size_8abf5 1 (some .int)) { frames := 0, cells := 0, slots := 0, locals := 0 } (rC_Pc D cI cZ cO ad gh de [.ref (ad (9 + i))] M) (rC_QI D cI cZ cO ad gh de (nI (gh.1 i)) M) 0 0 (rC_K ad gh) := by
  refine rC_met (t := some (nI (gh.1 i))) (r := nI (gh.1 i)) hI (own := RJx4a65c) rfl (by decide) (Nat.le_of_ble_eq_true rfl) (fun p e s m args below meth c E => ⟨rC_qI D cI cZ cO ad gh de below args s M, rfl, ?_⟩) rfl
  show rv_M _ _ p l e _ s m args below meth c 0 0 _ _ 0 [some (.ref (ad (9 + i)))] [] M
  refine rv_aload_n (q := 1) E.x dJx4a65c_size_8abf5_0 rfl rfl ?_
  have k : rv_M (rC_G D cI cZ cO ad gh de) (rC_K ad gh) p l e { frames := 0, cells := 0, slots := 0, locals := 0 } s m args below meth c 0 0 (rC_qI D cI cZ cO ad gh de below args s M) (some (nI (gh.1 i))) 4 [some (.ref (ad (9 + i)))] [.int (nI (gh.1 i))] M := rC_iret E rfl dJx4a65c_size_8abf5_4
  intro res h H locs ls hG hS hl
  obtain ⟨cap, mc, f, hP, -⟩ := rC_LP hi hG
  refine va_get (D := D) (ci := 0) (C := RJx4a65c) (T := TJx4a65c) (N := 3) E.1.1 E.1.2.1 E.hts wlJL E.ow E.2.1 hP 0 rfl rfl 2 (by decide) (E.hts _ wfJL_48) (fun x hx => hx) rfl dJx4a65c_size_8abf5_1 ?_
  exact k res h H locs ls hG hS hl
abbrev rmJ_el : Room := { frames := 0, cells := 0, slots := 0, locals := 0 }
def rC_elQ (D : va_G) (cI cZ cO : ClassId) (ad : Nat → Nat) (gh : rC_gh) (de : Nat) (M : rv_Mem) (k : Nat) : Array Value → State → Outcome → State → Prop := va_Qr (fun (_ : Unit) => True) (fun _ a t => a = ad k ∧ rC_G D cI cZ cO ad gh de M t.heap) (rC_K ad gh)
theorem cJ_el (hI : rC_I ad gh) (i : Nat) (hi : i < 3) {x : Int32} (hx : rv_in x (gh.1 i) = true) : Met l yJx4a65c_elementData_915e3 (rv_ws yJx4a65c_elementData_915e3 cJx4a65c_elementData_915e3 2 (some (.object "java/lang/Object"))) rmJ_el (rC_Pc D cI cZ cO ad gh de [.ref (ad (9 + i)), .int x] M) (rC_elQ D cI cZ cO ad gh de M (rC_b i + x.toNatClampNeg)) 0 0 (rC_K ad gh) := by
  refine rC_met (t := some ()) (r := ()) hI (own := RJx4a65c) rfl (by decide) (Nat.le_of_ble_eq_true rfl) (fun p e s m args below meth c E => ⟨fun _ => MQ below (rC_elQ D cI cZ cO ad gh de M (rC_b i + x.toNatClampNeg)) args s 0 0 (rC_K ad gh), rfl, ?_⟩) rfl
  show rv_M _ _ p l e _ s m args below meth c 0 0 _ _ 0 [some (.ref (ad (9 + i))), some (.int x)] [] M
  refine rv_aload_n (q := 1) E.x dJx4a65c_elementData_915e3_0 rfl rfl ?_
  intro res h H locs ls hG hS hl
  obtain ⟨cap, mc, f, hP, hP2, hc1, hf⟩ := rC_LP hi hG
  have hx2 := rv_in_vp hx
  have hn : x.toNatClampNeg < gh.1 i := Nat.not_le.mp fun q => hx2 (Or.inr q)
  refine va_get (D := D) (ci := 0) (C := RJx4a65c) (T := TJx4a65c) (N := 3) E.1.1 E.1.2.1 E.hts wlJL E.ow E.2.1 hP 0 rfl rfl 1 (by decide) (E.hts _ wfJL_9) (fun x hx => hx) rfl dJx4a65c_elementData_915e3_1 ?_
  refine lv_iload_n E.1.1 E.1.2.1 dJx4a65c_elementData_915e3_4 rfl (hl.2.2 1 _ rfl) ?_
  refine va_aldq E.1.1 E.1.2.1 E.2.1 (hP2 (Nat.lt_of_le_of_lt (Nat.zero_le _) hn)) 0 2 rfl rfl (fun z => hx2 (z.elim Or.inl (fun q => Or.inr (Nat.le_trans hc1 q)))) dJx4a65c_elementData_915e3_5 ?_
  rw [hf _ hn]
  exact W.aret E.1.1 E.1.2.1 E.2.2.2.2.1 (Or.inl ⟨_, rfl⟩) (Or.inr ⟨_, rfl⟩) (fun t ht hW => ⟨⟨(), ad (rC_b i + x.toNatClampNeg), rfl, trivial, rfl, by show rC_G D cI cZ cO ad gh de M t.heap; rw [ht]; exact hG⟩, hS.F ht⟩) hS.2.2 dJx4a65c_elementData_915e3_6 (hlocks := E.2.2.2.2.2.1)
theorem cJ_chk0 {x n : Int32} (h0 : 0 ≤ x) (h1 : x < n) : Met l yJ3_checkIndex_8e157 (rv_ws yJ3_checkIndex_8e157 cJ3_checkIndex_8e157 3 (some .int)) rmJ_el (va_Pc [.int x, .int n, .null] (fun _ => True)) (rR_SQ x) 0 0 (fun _ => False) := by
  refine rP_mets (t := some x) (r := x) (own := RJ3) rfl (by decide) (rv_cat rfl) (Nat.le_of_ble_eq_true rfl) (fun p e s m args below meth c E => ⟨rS_qI below args s, rfl, ?_⟩) rfl
  show rv_M _ _ p l e _ s m args below meth c 0 0 _ _ 0 [some (.int x), some (.int n), some .null] [] ()
  refine rv_iload_n (q := 1) E.x dJ3_checkIndex_8e157_0 rfl rfl ?_
  have e1 : (some x : Option Int32) = if 0 ≤ x then (if ¬ x < n then none else some x) else none := by rw [if_pos h0, if_neg (fun z => z h1)]
  rw [e1]
  refine rv_if_lt (q := 4) (tgt := 9) E.x dJ3_checkIndex_8e157_1 (by decide) rfl ?_ rv_stuck
  refine rv_iload_n (q := 5) E.x dJ3_checkIndex_8e157_4 rfl rfl ?_
  refine rv_iload_n (q := 6) E.x dJ3_checkIndex_8e157_5 rfl rfl ?_
  have e2 : (if ¬ x < n then none else some x : Option Int32) = if n ≤ x then none else some x := by rw [if_neg (fun z => z h1), if_neg (Int32.not_le.mpr h1)]
  rw [e2]
  refine rv_icmp_lt (q := 9) (tgt := 16) E.x dJ3_checkIndex_8e157_6 (by decide) rfl rv_stuck ?_
  refine rv_iload_n (q := 17) E.x dJ3_checkIndex_8e157_16 rfl rfl ?_
  exact rP_sret E rfl dJ3_checkIndex_8e157_17
abbrev rmJ_chk : Room := { frames := 1, cells := 0, slots := 0, locals := 30 }
theorem cJ_chk {x n : Int32} (h0 : 0 ≤ x) (h1 : x < n) : Met l yJ15_checkIndex_7cf53 (rv_ws yJ15_checkIndex_7cf53 cJ15_checkIndex_7cf53 2 (some .int)) rmJ_chk (va_Pc [.int x, .int n] (fun _ => True)) (rR_SQ x) 0 0 (fun _ => False) := by
  refine rP_mets (t := some x) (r := x) (own := RJ15) rfl (by decide) (rv_cat rfl) (Nat.le_of_ble_eq_true rfl) (fun p e s m args below meth c E => ⟨rS_qI below args s, rfl, ?_⟩) rfl
  show rv_M _ _ p l e _ s m args below meth c 0 0 _ _ 0 [some (.int x), some (.int n)] [] ()
  refine rv_iload_n (q := 1) E.x dJ15_checkIndex_7cf53_0 rfl rfl ?_
  refine rv_iload_n (q := 2) E.x dJ15_checkIndex_7cf53_1 rfl rfl ?_
  have k : rv_M (fun (_ : Unit) _ => True) (fun _ => False) p l e rmJ_chk s m args below meth c 0 0 (rS_qI below args s) (some x) 3 [some (.int x), some (.int n)] [.null, .int n, .int x] () := by
    refine rP_calls (q := 6) (As := [.int x, .int n, .null]) (rest := []) E (cJ_chk0 h0 h1) gJ15_105 (n := 3) (by decide +kernel) ⟨rfl, rfl⟩ ⟨Nat.le_of_ble_eq_true rfl, Nat.le_of_ble_eq_true rfl⟩ rfl rfl rfl (Nat.le_of_ble_eq_true rfl) dJ15_checkIndex_7cf53_3 rfl ?_
    exact rP_sret E rfl dJ15_checkIndex_7cf53_6
  intro res h H locs ls hG hS hl
  exact lv_null E.1.1 E.1.2.1 dJ15_checkIndex_7cf53_2 (k res h H locs ls hG hS hl)
abbrev rmJ_get : Room := { frames := 3, cells := 0, slots := 0, locals := 80 }
theorem cJ_get (hI : rC_I ad gh) (i : Nat) {x : Int32} (hx : rv_in x (gh.1 i) = true) (hi : i < 3 := by decide) : Met l yJx4a65c_get_915e3 (rv_ws yJx4a65c_get_915e3 cJx4a65c_get_915e3 2 (some (.object "java/lang/Object"))) rmJ_get (rC_Pc D cI cZ cO ad gh de [.ref (ad (9 + i)), .int x] M) (va_Qr (fun (_ : Unit) => True) (fun _ a t => a = ad (rC_b i + x.toNatClampNeg) ∧ rC_G D cI cZ cO ad gh de M t.heap) (rC_K ad gh)) 0 0 (rC_K ad gh) := by
  have hx2 := rv_in_vp hx
  have hn : x.toNatClampNeg < gh.1 i := Nat.not_le.mp fun q => hx2 (Or.inr q)
  have hb : gh.1 i < 2 ^ 31 := by
    have := hI.2
    match i, hi with
    | 0, _ => omega
    | 1, _ => omega
    | 2, _ => omega
  obtain ⟨j, hj, ej⟩ := vp_in_of hx2 hb
  have h0 : 0 ≤ x := by rw [ej]; exact nI_pos' (by omega)
  have h1 : x < nI (gh.1 i) := by rw [ej]; exact nI_lt hj hb
  refine rC_met (t := some ()) (r := ()) hI (own := RJx4a65c) rfl (by decide) (Nat.le_of_ble_eq_true rfl) (fun p e s m args below meth c E => ⟨fun _ => MQ below (rC_elQ D cI cZ cO ad gh de M (rC_b i + x.toNatClampNeg)) args s 0 0 (rC_K ad gh), rfl, ?_⟩) rfl
  show rv_M _ _ p l e _ s m args below meth c 0 0 _ _ 0 [some (.ref (ad (9 + i))), some (.int x)] [] M
  refine rv_iload_n (q := 1) E.x dJx4a65c_get_915e3_0 rfl rfl ?_
  refine rv_aload_n (q := 2) E.x dJx4a65c_get_915e3_1 rfl rfl ?_
  have k : rv_M (rC_G D cI cZ cO ad gh de) (rC_K ad gh) p l e rmJ_get s m args below meth c 0 0 (fun _ : Unit => MQ below (rC_elQ D cI cZ cO ad gh de M (rC_b i + x.toNatClampNeg)) args s 0 0 (rC_K ad gh)) (some ()) 5 [some (.ref (ad (9 + i))), some (.int x)] [.int (nI (gh.1 i)), .int x] M := by
    refine rC_calls (q := 8) (As := [.int x, .int (nI (gh.1 i))]) (rest := []) E (cJ_chk h0 h1) gJL_118 (n := 2) (by decide +kernel) ⟨rfl, rfl⟩ ⟨Nat.le_of_ble_eq_true rfl, Nat.le_of_ble_eq_true rfl⟩ ⟨Nat.le_of_ble_eq_true rfl, Nat.le_of_ble_eq_true rfl⟩ rfl rfl rfl (Nat.le_of_ble_eq_true rfl) dJx4a65c_get_915e3_5 rfl ?_
    refine rv_pop (q := 9) E.x dJx4a65c_get_915e3_8 rfl rfl ?_
    refine rv_aload_n (q := 10) E.x dJx4a65c_get_915e3_9 rfl rfl ?_
    refine rv_iload_n (q := 11) E.x dJx4a65c_get_915e3_10 rfl rfl ?_
    intro res h H locs ls hG hS hl
    obtain ⟨cap, mc9, f9, hP, -⟩ := rC_LP hi hG
    refine va_callr (va_runV (C := RJx4a65c) (b := ad (9 + i)) (As := [.int x]) (rest := []) E.1 (cJ_el hI i hi hx) (cwV 1 E.hts gJL_123 rfl rfl rfl (by decide +kernel) ⟨Nat.le_of_ble_eq_true rfl, Nat.le_of_ble_eq_true rfl⟩) ⟨rC_blind, va_recv E.2.1 hP (ci := 0) (q0 := 0) rfl rfl, fun U hU hW => ⟨rfl, by rw [hU]; exact hG, va_K.moved hW.alike E.2.1, E.2.2.2.2.2.2.warm hW⟩⟩ rfl rfl hl.1 rfl (by simp) dJx4a65c_get_915e3_11 ⟨Nat.zero_le _, Nat.zero_le _⟩) hS (fun q _ hq => hq) (fun q hq => hq) (fun u ra t H1 locs1 ht hvm hw hB hz1 hk1 hS1 => ?_)
    obtain ⟨rfl, hB⟩ := hB
    rw [ht] at hB
    exact W.aret E.1.1 E.1.2.1 E.2.2.2.2.1 (Or.inl ⟨_, rfl⟩) (Or.inr ⟨_, rfl⟩) (fun t ht hW => ⟨⟨(), ad (rC_b i + x.toNatClampNeg), rfl, trivial, rfl, by show rC_G D cI cZ cO ad gh de M t.heap; rw [ht]; exact hB⟩, hS1.F ht⟩) hS1.2.2 dJx4a65c_get_915e3_14 (hlocks := E.2.2.2.2.2.1)
  intro res h H locs ls hG hS hl
  obtain ⟨cap, mc9, f9, hP, -⟩ := rC_LP hi hG
  refine va_get (D := D) (ci := 0) (C := RJx4a65c) (T := TJx4a65c) (N := 3) E.1.1 E.1.2.1 E.hts wlJL E.ow E.2.1 hP 0 rfl rfl 2 (by decide) (E.hts _ wfJL_48) (fun x hx => hx) rfl dJx4a65c_get_915e3_2 ?_
  exact k res h H locs ls hG hS hl
end JL
