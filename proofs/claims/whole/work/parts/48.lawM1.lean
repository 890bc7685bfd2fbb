/-! THE LAW'S OWN METHODS, by program (tools/genL.py) -/
theorem hX11_open : yX11_open.cls = RX11 ∧ yX11_open.cls ≠ "java/lang/invoke/MethodHandle" ∧ yX11_open.cls ≠ "java/lang/invoke/VarHandle" ∧ (parseMethodDescriptor yX11_open.desc).map (fun d => d.parameters.length) = some 1 := by decide +kernel
theorem hX11_comment : yX11_comment.cls = RX11 ∧ yX11_comment.cls ≠ "java/lang/invoke/MethodHandle" ∧ yX11_comment.cls ≠ "java/lang/invoke/VarHandle" ∧ (parseMethodDescriptor yX11_comment.desc).map (fun d => d.parameters.length) = some 7 := by decide +kernel
theorem hX11_answer : yX11_answer.cls = RX11 ∧ yX11_answer.cls ≠ "java/lang/invoke/MethodHandle" ∧ yX11_answer.cls ≠ "java/lang/invoke/VarHandle" ∧ (parseMethodDescriptor yX11_answer.desc).map (fun d => d.parameters.length) = some 3 := by decide +kernel
theorem hX11_find : yX11_find.cls = RX11 ∧ yX11_find.cls ≠ "java/lang/invoke/MethodHandle" ∧ yX11_find.cls ≠ "java/lang/invoke/VarHandle" ∧ (parseMethodDescriptor yX11_find.desc).map (fun d => d.parameters.length) = some 6 := by decide +kernel
theorem gL_7 : GoodIn rv_AL (wsV RL 7 RX11 yX11_take (rv_ws yX11_take cX11_take 2 (some .int))) := rv_gV (rv_al (rv_t2 (List.mem_of_getElem? (i := 88) rfl)) rfl) (rv_al (rv_t2 (List.mem_of_getElem? (i := 89) rfl)) rfl) (rv_al (rv_t2 (List.mem_of_getElem? (i := 90) rfl)) rfl) (rv_al (rv_t1 (List.mem_of_getElem? (i := 1) rfl)) rfl) (rv_al (rv_t2 (List.mem_of_getElem? (i := 91) rfl)) rfl)
abbrev rmL_take : Room := { frames := 8, cells := 1, slots := 6, locals := 142 }
abbrev wsL_take : List Cond := Cond.codeWith yL_take cL_take 4 (some .int) [(0, 9, 12, 13)] :: rv_AL
theorem wL_take {l : Launch} {D : va_G} {cI cZ cO cJ : ClassId} {ad : Nat → Nat} {gh : rC_gh} {mi de o sz : Nat} {w : Int64} (hfl : l.stackTraces = false) (hI : rC_I ad gh) {M : rv_Mem} {p1 : Int32} {r : Int32} {M1 : rv_Mem} (h : f11_take gh M p1 = some (.inl (r, M1))) : Met l yL_take wsL_take rmL_take (va_Pc [.ref (ad 0), .int p1, .ref o] (rL_P D cI cZ cO cJ ad gh mi de o sz M w)) (rL_qo D cI cZ cO cJ ad gh de o sz gh M1 r.toInt64) 1 6 (rL_A ad gh sz o) := by
  refine rL_met rfl (Nat.le_of_ble_eq_true rfl) (fun p e s m args below meth c ls S htab hret hlk hP hl => ?_)
  have hsz := hP.2.1
  subst hsz
  have E : rL_E D cI cZ cO cJ ad gh mi de o M w cL_take 4 [(0, 9, 12, 13)] p l s m args meth c := ⟨S, hP, hI, hfl, htab, hret, hlk⟩
  change rv_has ls [some (.ref (ad 0)), some (.int p1), some (.ref o), none] at hl
  refine lv_aload_n E.1.1 E.1.2.1 dL_take_0 rfl (hl.2.2 2 _ rfl) ?_
  refine lv_iconst (v := 0) E.1.1 E.1.2.1 dL_take_1 (by decide) ?_
  refine lv_aload_n E.1.1 E.1.2.1 dL_take_2 rfl (hl.2.2 0 _ rfl) ?_
  refine lv_iload_n E.1.1 E.1.2.1 dL_take_3 rfl (hl.2.2 1 _ rfl) ?_
  refine rL_ok (v := r) E (fun _ => c11_take hfl hI h) gL_7 hX11_take ⟨rfl, rfl⟩ ⟨Nat.le_of_ble_eq_true rfl, Nat.le_of_ble_eq_true rfl⟩ ⟨Nat.le_of_ble_eq_true rfl, Nat.le_of_ble_eq_true rfl⟩ rfl (lv := [some (.ref (ad 0)), some (.int p1), some (.ref o), none]) hl rfl (As := [.int p1]) (rest := [.int 0, .ref o]) rfl (Nat.le_of_ble_eq_true rfl) dL_take_4 (fun u H1 locs1 h0 hI' hs hG ho hS => ?_)
  refine lv_i2l E.1.1 E.1.2.1 dL_take_7 rfl ?_
  exact rL_end E h0 hI' hs hG ho hS dL_take_8 dL_take_9 (pc2 := 15) (by decide) dL_take_15 dL_take_16
theorem wL_take_x1 {l : Launch} {D : va_G} {cI cZ cO cJ : ClassId} {ad : Nat → Nat} {gh : rC_gh} {mi de o sz : Nat} {w : Int64} (hfl : l.stackTraces = false) (hI : rC_I ad gh) {M : rv_Mem} {p1 : Int32} {M1 : rv_Mem} (h : f11_take gh M p1 = some (.inr (1, M1))) : Met l yL_take wsL_take rmL_take (va_Pc [.ref (ad 0), .int p1, .ref o] (rL_P D cI cZ cO cJ ad gh mi de o sz M w)) (rL_qx D cI cZ cO cJ ad gh de o sz 1 M1 w) 1 6 (rL_A ad gh sz o) := by
  refine rL_met rfl (Nat.le_of_ble_eq_true rfl) (fun p e s m args below meth c ls S htab hret hlk hP hl => ?_)
  have hsz := hP.2.1
  subst hsz
  have E : rL_E D cI cZ cO cJ ad gh mi de o M w cL_take 4 [(0, 9, 12, 13)] p l s m args meth c := ⟨S, hP, hI, hfl, htab, hret, hlk⟩
  change rv_has ls [some (.ref (ad 0)), some (.int p1), some (.ref o), none] at hl
  refine lv_aload_n E.1.1 E.1.2.1 dL_take_0 rfl (hl.2.2 2 _ rfl) ?_
  refine lv_iconst (v := 0) E.1.1 E.1.2.1 dL_take_1 (by decide) ?_
  refine lv_aload_n E.1.1 E.1.2.1 dL_take_2 rfl (hl.2.2 0 _ rfl) ?_
  refine lv_iload_n E.1.1 E.1.2.1 dL_take_3 rfl (hl.2.2 1 _ rfl) ?_
  refine rL_ex (mk := true) (x := 1) E (fun _ => c11_take_x hfl hI h) (Or.inl rfl) gL_7 hX11_take ⟨rfl, rfl⟩ ⟨Nat.le_of_ble_eq_true rfl, Nat.le_of_ble_eq_true rfl⟩ ⟨Nat.le_of_ble_eq_true rfl, Nat.le_of_ble_eq_true rfl⟩ rfl (lv := [some (.ref (ad 0)), some (.int p1), some (.ref o), none]) hl rfl (As := [.int p1]) (rest := [.int 0, .ref o]) rfl (Nat.le_of_ble_eq_true rfl) dL_take_4 [] ⟨0, 9, 12, 13⟩ [] rfl (fun z hz => nomatch hz) rfl (by decide) (rv_al (rv_t2 (List.mem_of_getElem? (i := 87) rfl)) rfl) E.2.1.2.2.2.2.1.2.2.2.1 (fun q9 H1 locs1 hG ho hS => ?_)
  refine lv_astore_n E.1.1 E.1.2.1 dL_take_12 rfl (rv_has_k hl) (Nat.le_of_ble_eq_true rfl) rfl (fun ls' hl' => ?_)
  exact rL_endx E hG ho hS (by decide) dL_take_13 dL_take_14
theorem gL_15 : GoodIn rv_AL (wsV RL 15 RX11 yX11_takeSet (rv_ws yX11_takeSet cX11_takeSet 5 (some .int))) := rv_gV (rv_al (rv_t2 (List.mem_of_getElem? (i := 200) rfl)) rfl) (rv_al (rv_t2 (List.mem_of_getElem? (i := 201) rfl)) rfl) (rv_al (rv_t2 (List.mem_of_getElem? (i := 202) rfl)) rfl) (rv_al (rv_t1 (List.mem_of_getElem? (i := 1) rfl)) rfl) (rv_al (rv_t2 (List.mem_of_getElem? (i := 203) rfl)) rfl)
abbrev rmL_takeSet : Room := { frames := 8, cells := 2, slots := 12, locals := 146 }
abbrev wsL_takeSet : List Cond := Cond.codeWith yL_takeSet cL_takeSet 5 (some .int) [(0, 10, 13, 13)] :: rv_AL
theorem wL_takeSet {l : Launch} {D : va_G} {cI cZ cO cJ : ClassId} {ad : Nat → Nat} {gh : rC_gh} {mi de o sz : Nat} {w : Int64} (hfl : l.stackTraces = false) (hI : rC_I ad gh) {M : rv_Mem} {p1 : Int32} {p2 : Int32} {r : Int32} {M1 : rv_Mem} (h : f11_takeSet gh M p1 p2 = some (.inl (r, M1))) : Met l yL_takeSet wsL_takeSet rmL_takeSet (va_Pc [.ref (ad 0), .int p1, .int p2, .ref o] (rL_P D cI cZ cO cJ ad gh mi de o sz M w)) (rL_qo D cI cZ cO cJ ad gh de o sz gh M1 r.toInt64) 2 12 (rL_A ad gh sz o) := by
  refine rL_met rfl (Nat.le_of_ble_eq_true rfl) (fun p e s m args below meth c ls S htab hret hlk hP hl => ?_)
  have hsz := hP.2.1
  subst hsz
  have E : rL_E D cI cZ cO cJ ad gh mi de o M w cL_takeSet 5 [(0, 10, 13, 13)] p l s m args meth c := ⟨S, hP, hI, hfl, htab, hret, hlk⟩
  change rv_has ls [some (.ref (ad 0)), some (.int p1), some (.int p2), some (.ref o), none] at hl
  refine lv_aload_n E.1.1 E.1.2.1 dL_takeSet_0 rfl (hl.2.2 3 _ rfl) ?_
  refine lv_iconst (v := 0) E.1.1 E.1.2.1 dL_takeSet_1 (by decide) ?_
  refine lv_aload_n E.1.1 E.1.2.1 dL_takeSet_2 rfl (hl.2.2 0 _ rfl) ?_
  refine lv_iload_n E.1.1 E.1.2.1 dL_takeSet_3 rfl (hl.2.2 1 _ rfl) ?_
  refine lv_iload_n E.1.1 E.1.2.1 dL_takeSet_4 rfl (hl.2.2 2 _ rfl) ?_
  refine rL_ok (v := r) E (fun _ => c11_takeSet hfl hI h) gL_15 hX11_takeSet ⟨rfl, rfl⟩ ⟨Nat.le_of_ble_eq_true rfl, Nat.le_of_ble_eq_true rfl⟩ ⟨Nat.le_of_ble_eq_true rfl, Nat.le_of_ble_eq_true rfl⟩ rfl (lv := [some (.ref (ad 0)), some (.int p1), some (.int p2), some (.ref o), none]) hl rfl (As := [.int p1, .int p2]) (rest := [.int 0, .ref o]) rfl (Nat.le_of_ble_eq_true rfl) dL_takeSet_5 (fun u H1 locs1 h0 hI' hs hG ho hS => ?_)
  refine lv_i2l E.1.1 E.1.2.1 dL_takeSet_8 rfl ?_
  exact rL_end E h0 hI' hs hG ho hS dL_takeSet_9 dL_takeSet_10 (pc2 := 17) (by decide) dL_takeSet_17 dL_takeSet_18
theorem wL_takeSet_x1 {l : Launch} {D : va_G} {cI cZ cO cJ : ClassId} {ad : Nat → Nat} {gh : rC_gh} {mi de o sz : Nat} {w : Int64} (hfl : l.stackTraces = false) (hI : rC_I ad gh) {M : rv_Mem} {p1 : Int32} {p2 : Int32} {M1 : rv_Mem} (h : f11_takeSet gh M p1 p2 = some (.inr (1, M1))) : Met l yL_takeSet wsL_takeSet rmL_takeSet (va_Pc [.ref (ad 0), .int p1, .int p2, .ref o] (rL_P D cI cZ cO cJ ad gh mi de o sz M w)) (rL_qx D cI cZ cO cJ ad gh de o sz 1 M1 w) 2 12 (rL_A ad gh sz o) := by
  refine rL_met rfl (Nat.le_of_ble_eq_true rfl) (fun p e s m args below meth c ls S htab hret hlk hP hl => ?_)
  have hsz := hP.2.1
  subst hsz
  have E : rL_E D cI cZ cO cJ ad gh mi de o M w cL_takeSet 5 [(0, 10, 13, 13)] p l s m args meth c := ⟨S, hP, hI, hfl, htab, hret, hlk⟩
  change rv_has ls [some (.ref (ad 0)), some (.int p1), some (.int p2), some (.ref o), none] at hl
  refine lv_aload_n E.1.1 E.1.2.1 dL_takeSet_0 rfl (hl.2.2 3 _ rfl) ?_
  refine lv_iconst (v := 0) E.1.1 E.1.2.1 dL_takeSet_1 (by decide) ?_
  refine lv_aload_n E.1.1 E.1.2.1 dL_takeSet_2 rfl (hl.2.2 0 _ rfl) ?_
  refine lv_iload_n E.1.1 E.1.2.1 dL_takeSet_3 rfl (hl.2.2 1 _ rfl) ?_
  refine lv_iload_n E.1.1 E.1.2.1 dL_takeSet_4 rfl (hl.2.2 2 _ rfl) ?_
  refine rL_ex (mk := true) (x := 1) E (fun _ => c11_takeSet_x hfl hI h) (Or.inl rfl) gL_15 hX11_takeSet ⟨rfl, rfl⟩ ⟨Nat.le_of_ble_eq_true rfl, Nat.le_of_ble_eq_true rfl⟩ ⟨Nat.le_of_ble_eq_true rfl, Nat.le_of_ble_eq_true rfl⟩ rfl (lv := [some (.ref (ad 0)), some (.int p1), some (.int p2), some (.ref o), none]) hl rfl (As := [.int p1, .int p2]) (rest := [.int 0, .ref o]) rfl (Nat.le_of_ble_eq_true rfl) dL_takeSet_5 [] ⟨0, 10, 13, 13⟩ [] rfl (fun z hz => nomatch hz) rfl (by decide) (rv_al (rv_t2 (List.mem_of_getElem? (i := 87) rfl)) rfl) E.2.1.2.2.2.2.1.2.2.2.1 (fun q9 H1 locs1 hG ho hS => ?_)
  refine lv_astore E.1.1 E.1.2.1 dL_takeSet_13 (rv_has_k hl) (Nat.le_of_ble_eq_true rfl) rfl (fun ls' hl' => ?_)
  exact rL_endx E hG ho hS (by decide) dL_takeSet_15 dL_takeSet_16
theorem gL_19 : GoodIn rv_AL (wsV RL 19 RX11 yX11_put (rv_ws yX11_put cX11_put 5 (some .int))) := rv_gV (rv_al (rv_t3 (List.mem_of_getElem? (i := 2) rfl)) rfl) (rv_al (rv_t3 (List.mem_of_getElem? (i := 3) rfl)) rfl) (rv_al (rv_t3 (List.mem_of_getElem? (i := 4) rfl)) rfl) (rv_al (rv_t1 (List.mem_of_getElem? (i := 1) rfl)) rfl) (rv_al (rv_t3 (List.mem_of_getElem? (i := 5) rfl)) rfl)
abbrev rmL_put : Room := { frames := 8, cells := 2, slots := 12, locals := 144 }
abbrev wsL_put : List Cond := Cond.codeWith yL_put cL_put 6 (some .int) [(0, 12, 15, 13), (0, 12, 19, 23), (0, 12, 23, 25)] :: rv_AL
theorem wL_put {l : Launch} {D : va_G} {cI cZ cO cJ : ClassId} {ad : Nat → Nat} {gh : rC_gh} {mi de o sz : Nat} {w : Int64} (hfl : l.stackTraces = false) (hI : rC_I ad gh) {M : rv_Mem} {p1 : Int32} {p2 : Int32} {p3 : Int32} {r : Int32} {M1 : rv_Mem} (h : f11_put gh M p1 p2 p3 = some (.inl (r, M1))) : Met l yL_put wsL_put rmL_put (va_Pc [.ref (ad 0), .int p1, .int p2, .int p3, .ref o] (rL_P D cI cZ cO cJ ad gh mi de o sz M w)) (rL_qo D cI cZ cO cJ ad gh de o sz gh M1 r.toInt64) 2 12 (rL_A ad gh sz o) := by
  refine rL_met rfl (Nat.le_of_ble_eq_true rfl) (fun p e s m args below meth c ls S htab hret hlk hP hl => ?_)
  have hsz := hP.2.1
  subst hsz
  have E : rL_E D cI cZ cO cJ ad gh mi de o M w cL_put 6 [(0, 12, 15, 13), (0, 12, 19, 23), (0, 12, 23, 25)] p l s m args meth c := ⟨S, hP, hI, hfl, htab, hret, hlk⟩
  change rv_has ls [some (.ref (ad 0)), some (.int p1), some (.int p2), some (.int p3), some (.ref o), none] at hl
  refine lv_aload E.1.1 E.1.2.1 dL_put_0 (hl.2.2 4 _ rfl) ?_
  refine lv_iconst (v := 0) E.1.1 E.1.2.1 dL_put_2 (by decide) ?_
  refine lv_aload_n E.1.1 E.1.2.1 dL_put_3 rfl (hl.2.2 0 _ rfl) ?_
  refine lv_iload_n E.1.1 E.1.2.1 dL_put_4 rfl (hl.2.2 1 _ rfl) ?_
  refine lv_iload_n E.1.1 E.1.2.1 dL_put_5 rfl (hl.2.2 2 _ rfl) ?_
  refine lv_iload_n E.1.1 E.1.2.1 dL_put_6 rfl (hl.2.2 3 _ rfl) ?_
  refine rL_ok (v := r) E (fun _ => c11_put hfl hI h) gL_19 hX11_put ⟨rfl, rfl⟩ ⟨Nat.le_of_ble_eq_true rfl, Nat.le_of_ble_eq_true rfl⟩ ⟨Nat.le_of_ble_eq_true rfl, Nat.le_of_ble_eq_true rfl⟩ rfl (lv := [some (.ref (ad 0)), some (.int p1), some (.int p2), some (.int p3), some (.ref o), none]) hl rfl (As := [.int p1, .int p2, .int p3]) (rest := [.int 0, .ref o]) rfl (Nat.le_of_ble_eq_true rfl) dL_put_7 (fun u H1 locs1 h0 hI' hs hG ho hS => ?_)
  refine lv_i2l E.1.1 E.1.2.1 dL_put_10 rfl ?_
  exact rL_end E h0 hI' hs hG ho hS dL_put_11 dL_put_12 (pc2 := 27) (by decide) dL_put_27 dL_put_28
theorem wL_put_x1 {l : Launch} {D : va_G} {cI cZ cO cJ : ClassId} {ad : Nat → Nat} {gh : rC_gh} {mi de o sz : Nat} {w : Int64} (hfl : l.stackTraces = false) (hI : rC_I ad gh) {M : rv_Mem} {p1 : Int32} {p2 : Int32} {p3 : Int32} {M1 : rv_Mem} (h : f11_put gh M p1 p2 p3 = some (.inr (1, M1))) : Met l yL_put wsL_put rmL_put (va_Pc [.ref (ad 0), .int p1, .int p2, .int p3, .ref o] (rL_P D cI cZ cO cJ ad gh mi de o sz M w)) (rL_qx D cI cZ cO cJ ad gh de o sz 1 M1 w) 2 12 (rL_A ad gh sz o) := by
  refine rL_met rfl (Nat.le_of_ble_eq_true rfl) (fun p e s m args below meth c ls S htab hret hlk hP hl => ?_)
  have hsz := hP.2.1
  subst hsz
  have E : rL_E D cI cZ cO cJ ad gh mi de o M w cL_put 6 [(0, 12, 15, 13), (0, 12, 19, 23), (0, 12, 23, 25)] p l s m args meth c := ⟨S, hP, hI, hfl, htab, hret, hlk⟩
  change rv_has ls [some (.ref (ad 0)), some (.int p1), some (.int p2), some (.int p3), some (.ref o), none] at hl
  refine lv_aload E.1.1 E.1.2.1 dL_put_0 (hl.2.2 4 _ rfl) ?_
  refine lv_iconst (v := 0) E.1.1 E.1.2.1 dL_put_2 (by decide) ?_
  refine lv_aload_n E.1.1 E.1.2.1 dL_put_3 rfl (hl.2.2 0 _ rfl) ?_
  refine lv_iload_n E.1.1 E.1.2.1 dL_put_4 rfl (hl.2.2 1 _ rfl) ?_
  refine lv_iload_n E.1.1 E.1.2.1 dL_put_5 rfl (hl.2.2 2 _ rfl) ?_
  refine lv_iload_n E.1.1 E.1.2.1 dL_put_6 rfl (hl.2.2 3 _ rfl) ?_
  refine rL_ex (mk := true) (x := 1) E (fun _ => c11_put_x hfl hI h) (Or.inl rfl) gL_19 hX11_put ⟨rfl, rfl⟩ ⟨Nat.le_of_ble_eq_true rfl, Nat.le_of_ble_eq_true rfl⟩ ⟨Nat.le_of_ble_eq_true rfl, Nat.le_of_ble_eq_true rfl⟩ rfl (lv := [some (.ref (ad 0)), some (.int p1), some (.int p2), some (.int p3), some (.ref o), none]) hl rfl (As := [.int p1, .int p2, .int p3]) (rest := [.int 0, .ref o]) rfl (Nat.le_of_ble_eq_true rfl) dL_put_7 [] ⟨0, 12, 15, 13⟩ [⟨0, 12, 19, 23⟩, ⟨0, 12, 23, 25⟩] rfl (fun z hz => nomatch hz) rfl (by decide) (rv_al (rv_t2 (List.mem_of_getElem? (i := 87) rfl)) rfl) E.2.1.2.2.2.2.1.2.2.2.1 (fun q9 H1 locs1 hG ho hS => ?_)
  refine lv_astore E.1.1 E.1.2.1 dL_put_15 (rv_has_k hl) (Nat.le_of_ble_eq_true rfl) rfl (fun ls' hl' => ?_)
  exact rL_endx E hG ho hS (by decide) dL_put_17 dL_put_18
theorem wL_put_x2 {l : Launch} {D : va_G} {cI cZ cO cJ : ClassId} {ad : Nat → Nat} {gh : rC_gh} {mi de o sz : Nat} {w : Int64} (hfl : l.stackTraces = false) (hI : rC_I ad gh) {M : rv_Mem} {p1 : Int32} {p2 : Int32} {p3 : Int32} {M1 : rv_Mem} (h : f11_put gh M p1 p2 p3 = some (.inr (2, M1))) : Met l yL_put wsL_put rmL_put (va_Pc [.ref (ad 0), .int p1, .int p2, .int p3, .ref o] (rL_P D cI cZ cO cJ ad gh mi de o sz M w)) (rL_qx D cI cZ cO cJ ad gh de o sz 2 M1 w) 2 12 (rL_A ad gh sz o) := by
  refine rL_met rfl (Nat.le_of_ble_eq_true rfl) (fun p e s m args below meth c ls S htab hret hlk hP hl => ?_)
  have hsz := hP.2.1
  subst hsz
  have E : rL_E D cI cZ cO cJ ad gh mi de o M w cL_put 6 [(0, 12, 15, 13), (0, 12, 19, 23), (0, 12, 23, 25)] p l s m args meth c := ⟨S, hP, hI, hfl, htab, hret, hlk⟩
  change rv_has ls [some (.ref (ad 0)), some (.int p1), some (.int p2), some (.int p3), some (.ref o), none] at hl
  refine lv_aload E.1.1 E.1.2.1 dL_put_0 (hl.2.2 4 _ rfl) ?_
  refine lv_iconst (v := 0) E.1.1 E.1.2.1 dL_put_2 (by decide) ?_
  refine lv_aload_n E.1.1 E.1.2.1 dL_put_3 rfl (hl.2.2 0 _ rfl) ?_
  refine lv_iload_n E.1.1 E.1.2.1 dL_put_4 rfl (hl.2.2 1 _ rfl) ?_
  refine lv_iload_n E.1.1 E.1.2.1 dL_put_5 rfl (hl.2.2 2 _ rfl) ?_
  refine lv_iload_n E.1.1 E.1.2.1 dL_put_6 rfl (hl.2.2 3 _ rfl) ?_
  refine rL_ex (mk := true) (x := 2) E (fun _ => c11_put_x hfl hI h) (Or.inl rfl) gL_19 hX11_put ⟨rfl, rfl⟩ ⟨Nat.le_of_ble_eq_true rfl, Nat.le_of_ble_eq_true rfl⟩ ⟨Nat.le_of_ble_eq_true rfl, Nat.le_of_ble_eq_true rfl⟩ rfl (lv := [some (.ref (ad 0)), some (.int p1), some (.int p2), some (.int p3), some (.ref o), none]) hl rfl (As := [.int p1, .int p2, .int p3]) (rest := [.int 0, .ref o]) rfl (Nat.le_of_ble_eq_true rfl) dL_put_7 [⟨0, 12, 15, 13⟩] ⟨0, 12, 19, 23⟩ [⟨0, 12, 23, 25⟩] rfl (fun z hz => by cases List.mem_singleton.mp hz; exact ⟨by decide, _, rv_al (rv_t2 (List.mem_of_getElem? (i := 87) rfl)) rfl, E.2.1.2.2.2.2.2.2.2.2.1.1⟩) rfl (by decide) (rv_al (rv_t3 (List.mem_of_getElem? (i := 0) rfl)) rfl) E.2.1.2.2.2.2.1.2.2.2.2.1 (fun q9 H1 locs1 hG ho hS => ?_)
  refine lv_astore E.1.1 E.1.2.1 dL_put_19 (rv_has_k hl) (Nat.le_of_ble_eq_true rfl) rfl (fun ls' hl' => ?_)
  exact rL_endx E hG ho hS (by decide) dL_put_21 dL_put_22
theorem wL_put_x3 {l : Launch} {D : va_G} {cI cZ cO cJ : ClassId} {ad : Nat → Nat} {gh : rC_gh} {mi de o sz : Nat} {w : Int64} (hfl : l.stackTraces = false) (hI : rC_I ad gh) {M : rv_Mem} {p1 : Int32} {p2 : Int32} {p3 : Int32} {M1 : rv_Mem} (h : f11_put gh M p1 p2 p3 = some (.inr (3, M1))) : Met l yL_put wsL_put rmL_put (va_Pc [.ref (ad 0), .int p1, .int p2, .int p3, .ref o] (rL_P D cI cZ cO cJ ad gh mi de o sz M w)) (rL_qx D cI cZ cO cJ ad gh de o sz 3 M1 w) 2 12 (rL_A ad gh sz o) := by
  refine rL_met rfl (Nat.le_of_ble_eq_true rfl) (fun p e s m args below meth c ls S htab hret hlk hP hl => ?_)
  have hsz := hP.2.1
  subst hsz
  have E : rL_E D cI cZ cO cJ ad gh mi de o M w cL_put 6 [(0, 12, 15, 13), (0, 12, 19, 23), (0, 12, 23, 25)] p l s m args meth c := ⟨S, hP, hI, hfl, htab, hret, hlk⟩
  change rv_has ls [some (.ref (ad 0)), some (.int p1), some (.int p2), some (.int p3), some (.ref o), none] at hl
  refine lv_aload E.1.1 E.1.2.1 dL_put_0 (hl.2.2 4 _ rfl) ?_
  refine lv_iconst (v := 0) E.1.1 E.1.2.1 dL_put_2 (by decide) ?_
  refine lv_aload_n E.1.1 E.1.2.1 dL_put_3 rfl (hl.2.2 0 _ rfl) ?_
  refine lv_iload_n E.1.1 E.1.2.1 dL_put_4 rfl (hl.2.2 1 _ rfl) ?_
  refine lv_iload_n E.1.1 E.1.2.1 dL_put_5 rfl (hl.2.2 2 _ rfl) ?_
  refine lv_iload_n E.1.1 E.1.2.1 dL_put_6 rfl (hl.2.2 3 _ rfl) ?_
  refine rL_ex (mk := true) (x := 3) E (fun _ => c11_put_x hfl hI h) (Or.inl rfl) gL_19 hX11_put ⟨rfl, rfl⟩ ⟨Nat.le_of_ble_eq_true rfl, Nat.le_of_ble_eq_true rfl⟩ ⟨Nat.le_of_ble_eq_true rfl, Nat.le_of_ble_eq_true rfl⟩ rfl (lv := [some (.ref (ad 0)), some (.int p1), some (.int p2), some (.int p3), some (.ref o), none]) hl rfl (As := [.int p1, .int p2, .int p3]) (rest := [.int 0, .ref o]) rfl (Nat.le_of_ble_eq_true rfl) dL_put_7 [⟨0, 12, 15, 13⟩, ⟨0, 12, 19, 23⟩] ⟨0, 12, 23, 25⟩ [] rfl (fun z hz => by rcases List.mem_cons.mp hz with rfl | hz; exact ⟨by decide, _, rv_al (rv_t2 (List.mem_of_getElem? (i := 87) rfl)) rfl, E.2.1.2.2.2.2.2.2.2.2.1.2.1⟩; cases List.mem_singleton.mp hz; exact ⟨by decide, _, rv_al (rv_t3 (List.mem_of_getElem? (i := 0) rfl)) rfl, E.2.1.2.2.2.2.2.2.2.2.1.2.2⟩) rfl (by decide) (rv_al (rv_t3 (List.mem_of_getElem? (i := 1) rfl)) rfl) E.2.1.2.2.2.2.1.2.2.2.2.2.1 (fun q9 H1 locs1 hG ho hS => ?_)
  refine lv_astore E.1.1 E.1.2.1 dL_put_23 (rv_has_k hl) (Nat.le_of_ble_eq_true rfl) rfl (fun ls' hl' => ?_)
  exact rL_endx E hG ho hS (by decide) dL_put_25 dL_put_26
theorem gL_27 : GoodIn rv_AL (wsV RL 27 RX11 yX11_cut (rv_ws yX11_cut cX11_cut 4 (some .int))) := rv_gV (rv_al (rv_t3 (List.mem_of_getElem? (i := 51) rfl)) rfl) (rv_al (rv_t3 (List.mem_of_getElem? (i := 52) rfl)) rfl) (rv_al (rv_t3 (List.mem_of_getElem? (i := 53) rfl)) rfl) (rv_al (rv_t1 (List.mem_of_getElem? (i := 1) rfl)) rfl) (rv_al (rv_t3 (List.mem_of_getElem? (i := 54) rfl)) rfl)
abbrev rmL_cut : Room := { frames := 8, cells := 2, slots := 12, locals := 143 }
abbrev wsL_cut : List Cond := Cond.codeWith yL_cut cL_cut 5 (some .int) [(0, 10, 13, 13)] :: rv_AL
theorem wL_cut {l : Launch} {D : va_G} {cI cZ cO cJ : ClassId} {ad : Nat → Nat} {gh : rC_gh} {mi de o sz : Nat} {w : Int64} (hfl : l.stackTraces = false) (hI : rC_I ad gh) {M : rv_Mem} {p1 : Int32} {p2 : Int32} {r : Int32} {M1 : rv_Mem} (h : f11_cut gh M p1 p2 = some (.inl (r, M1))) : Met l yL_cut wsL_cut rmL_cut (va_Pc [.ref (ad 0), .int p1, .int p2, .ref o] (rL_P D cI cZ cO cJ ad gh mi de o sz M w)) (rL_qo D cI cZ cO cJ ad gh de o sz gh M1 r.toInt64) 2 12 (rL_A ad gh sz o) := by
  refine rL_met rfl (Nat.le_of_ble_eq_true rfl) (fun p e s m args below meth c ls S htab hret hlk hP hl => ?_)
  have hsz := hP.2.1
  subst hsz
  have E : rL_E D cI cZ cO cJ ad gh mi de o M w cL_cut 5 [(0, 10, 13, 13)] p l s m args meth c := ⟨S, hP, hI, hfl, htab, hret, hlk⟩
  change rv_has ls [some (.ref (ad 0)), some (.int p1), some (.int p2), some (.ref o), none] at hl
  refine lv_aload_n E.1.1 E.1.2.1 dL_cut_0 rfl (hl.2.2 3 _ rfl) ?_
  refine lv_iconst (v := 0) E.1.1 E.1.2.1 dL_cut_1 (by decide) ?_
  refine lv_aload_n E.1.1 E.1.2.1 dL_cut_2 rfl (hl.2.2 0 _ rfl) ?_
  refine lv_iload_n E.1.1 E.1.2.1 dL_cut_3 rfl (hl.2.2 1 _ rfl) ?_
  refine lv_iload_n E.1.1 E.1.2.1 dL_cut_4 rfl (hl.2.2 2 _ rfl) ?_
  refine rL_ok (v := r) E (fun _ => c11_cut hfl hI h) gL_27 hX11_cut ⟨rfl, rfl⟩ ⟨Nat.le_of_ble_eq_true rfl, Nat.le_of_ble_eq_true rfl⟩ ⟨Nat.le_of_ble_eq_true rfl, Nat.le_of_ble_eq_true rfl⟩ rfl (lv := [some (.ref (ad 0)), some (.int p1), some (.int p2), some (.ref o), none]) hl rfl (As := [.int p1, .int p2]) (rest := [.int 0, .ref o]) rfl (Nat.le_of_ble_eq_true rfl) dL_cut_5 (fun u H1 locs1 h0 hI' hs hG ho hS => ?_)
  refine lv_i2l E.1.1 E.1.2.1 dL_cut_8 rfl ?_
  exact rL_end E h0 hI' hs hG ho hS dL_cut_9 dL_cut_10 (pc2 := 17) (by decide) dL_cut_17 dL_cut_18
theorem wL_cut_x1 {l : Launch} {D : va_G} {cI cZ cO cJ : ClassId} {ad : Nat → Nat} {gh : rC_gh} {mi de o sz : Nat} {w : Int64} (hfl : l.stackTraces = false) (hI : rC_I ad gh) {M : rv_Mem} {p1 : Int32} {p2 : Int32} {M1 : rv_Mem} (h : f11_cut gh M p1 p2 = some (.inr (1, M1))) : Met l yL_cut wsL_cut rmL_cut (va_Pc [.ref (ad 0), .int p1, .int p2, .ref o] (rL_P D cI cZ cO cJ ad gh mi de o sz M w)) (rL_qx D cI cZ cO cJ ad gh de o sz 1 M1 w) 2 12 (rL_A ad gh sz o) := by
  refine rL_met rfl (Nat.le_of_ble_eq_true rfl) (fun p e s m args below meth c ls S htab hret hlk hP hl => ?_)
  have hsz := hP.2.1
  subst hsz
  have E : rL_E D cI cZ cO cJ ad gh mi de o M w cL_cut 5 [(0, 10, 13, 13)] p l s m args meth c := ⟨S, hP, hI, hfl, htab, hret, hlk⟩
  change rv_has ls [some (.ref (ad 0)), some (.int p1), some (.int p2), some (.ref o), none] at hl
  refine lv_aload_n E.1.1 E.1.2.1 dL_cut_0 rfl (hl.2.2 3 _ rfl) ?_
  refine lv_iconst (v := 0) E.1.1 E.1.2.1 dL_cut_1 (by decide) ?_
  refine lv_aload_n E.1.1 E.1.2.1 dL_cut_2 rfl (hl.2.2 0 _ rfl) ?_
  refine lv_iload_n E.1.1 E.1.2.1 dL_cut_3 rfl (hl.2.2 1 _ rfl) ?_
  refine lv_iload_n E.1.1 E.1.2.1 dL_cut_4 rfl (hl.2.2 2 _ rfl) ?_
  refine rL_ex (mk := true) (x := 1) E (fun _ => c11_cut_x hfl hI h) (Or.inl rfl) gL_27 hX11_cut ⟨rfl, rfl⟩ ⟨Nat.le_of_ble_eq_true rfl, Nat.le_of_ble_eq_true rfl⟩ ⟨Nat.le_of_ble_eq_true rfl, Nat.le_of_ble_eq_true rfl⟩ rfl (lv := [some (.ref (ad 0)), some (.int p1), some (.int p2), some (.ref o), none]) hl rfl (As := [.int p1, .int p2]) (rest := [.int 0, .ref o]) rfl (Nat.le_of_ble_eq_true rfl) dL_cut_5 [] ⟨0, 10, 13, 13⟩ [] rfl (fun z hz => nomatch hz) rfl (by decide) (rv_al (rv_t2 (List.mem_of_getElem? (i := 87) rfl)) rfl) E.2.1.2.2.2.2.1.2.2.2.1 (fun q9 H1 locs1 hG ho hS => ?_)
  refine lv_astore E.1.1 E.1.2.1 dL_cut_13 (rv_has_k hl) (Nat.le_of_ble_eq_true rfl) rfl (fun ls' hl' => ?_)
  exact rL_endx E hG ho hS (by decide) dL_cut_15 dL_cut_16
theorem gL_30 : GoodIn rv_AL (wsV RL 30 RX11 yX11_line (rv_ws yX11_line cX11_line 5 (some .int))) := rv_gV (rv_al (rv_t3 (List.mem_of_getElem? (i := 63) rfl)) rfl) (rv_al (rv_t3 (List.mem_of_getElem? (i := 64) rfl)) rfl) (rv_al (rv_t3 (List.mem_of_getElem? (i := 65) rfl)) rfl) (rv_al (rv_t1 (List.mem_of_getElem? (i := 1) rfl)) rfl) (rv_al (rv_t3 (List.mem_of_getElem? (i := 66) rfl)) rfl)
abbrev rmL_line : Room := { frames := 9, cells := 3, slots := 18, locals := 166 }
abbrev wsL_line : List Cond := Cond.codeWith yL_line cL_line 6 (some .int) [(0, 12, 15, 13)] :: rv_AL
theorem wL_line {l : Launch} {D : va_G} {cI cZ cO cJ : ClassId} {ad : Nat → Nat} {gh : rC_gh} {mi de o sz : Nat} {w : Int64} (hfl : l.stackTraces = false) (hI : rC_I ad gh) {M : rv_Mem} {p1 : Int32} {p2 : Int32} {p3 : Int32} {r : Int32} (h : f11_line gh M p1 p2 p3 = some (.inl r)) : Met l yL_line wsL_line rmL_line (va_Pc [.ref (ad 0), .int p1, .int p2, .int p3, .ref o] (rL_P D cI cZ cO cJ ad gh mi de o sz M w)) (rL_qo D cI cZ cO cJ ad gh de o sz gh M r.toInt64) 3 18 (rL_A ad gh sz o) := by
  refine rL_met rfl (Nat.le_of_ble_eq_true rfl) (fun p e s m args below meth c ls S htab hret hlk hP hl => ?_)
  have hsz := hP.2.1
  subst hsz
  have E : rL_E D cI cZ cO cJ ad gh mi de o M w cL_line 6 [(0, 12, 15, 13)] p l s m args meth c := ⟨S, hP, hI, hfl, htab, hret, hlk⟩
  change rv_has ls [some (.ref (ad 0)), some (.int p1), some (.int p2), some (.int p3), some (.ref o), none] at hl
  refine lv_aload E.1.1 E.1.2.1 dL_line_0 (hl.2.2 4 _ rfl) ?_
  refine lv_iconst (v := 0) E.1.1 E.1.2.1 dL_line_2 (by decide) ?_
  refine lv_aload_n E.1.1 E.1.2.1 dL_line_3 rfl (hl.2.2 0 _ rfl) ?_
  refine lv_iload_n E.1.1 E.1.2.1 dL_line_4 rfl (hl.2.2 1 _ rfl) ?_
  refine lv_iload_n E.1.1 E.1.2.1 dL_line_5 rfl (hl.2.2 2 _ rfl) ?_
  refine lv_iload_n E.1.1 E.1.2.1 dL_line_6 rfl (hl.2.2 3 _ rfl) ?_
  refine rL_ok (v := r) E (fun _ => c11_line hfl hI h) gL_30 hX11_line ⟨rfl, rfl⟩ ⟨Nat.le_of_ble_eq_true rfl, Nat.le_of_ble_eq_true rfl⟩ ⟨Nat.le_of_ble_eq_true rfl, Nat.le_of_ble_eq_true rfl⟩ rfl (lv := [some (.ref (ad 0)), some (.int p1), some (.int p2), some (.int p3), some (.ref o), none]) hl rfl (As := [.int p1, .int p2, .int p3]) (rest := [.int 0, .ref o]) rfl (Nat.le_of_ble_eq_true rfl) dL_line_7 (fun u H1 locs1 h0 hI' hs hG ho hS => ?_)
  refine lv_i2l E.1.1 E.1.2.1 dL_line_10 rfl ?_
  exact rL_end E h0 hI' hs hG ho hS dL_line_11 dL_line_12 (pc2 := 19) (by decide) dL_line_19 dL_line_20
theorem wL_line_x1 {l : Launch} {D : va_G} {cI cZ cO cJ : ClassId} {ad : Nat → Nat} {gh : rC_gh} {mi de o sz : Nat} {w : Int64} (hfl : l.stackTraces = false) (hI : rC_I ad gh) {M : rv_Mem} {p1 : Int32} {p2 : Int32} {p3 : Int32} (h : f11_line gh M p1 p2 p3 = some (.inr 1)) : Met l yL_line wsL_line rmL_line (va_Pc [.ref (ad 0), .int p1, .int p2, .int p3, .ref o] (rL_P D cI cZ cO cJ ad gh mi de o sz M w)) (rL_qx D cI cZ cO cJ ad gh de o sz 1 M w) 3 18 (rL_A ad gh sz o) := by
  refine rL_met rfl (Nat.le_of_ble_eq_true rfl) (fun p e s m args below meth c ls S htab hret hlk hP hl => ?_)
  have hsz := hP.2.1
  subst hsz
  have E : rL_E D cI cZ cO cJ ad gh mi de o M w cL_line 6 [(0, 12, 15, 13)] p l s m args meth c := ⟨S, hP, hI, hfl, htab, hret, hlk⟩
  change rv_has ls [some (.ref (ad 0)), some (.int p1), some (.int p2), some (.int p3), some (.ref o), none] at hl
  refine lv_aload E.1.1 E.1.2.1 dL_line_0 (hl.2.2 4 _ rfl) ?_
  refine lv_iconst (v := 0) E.1.1 E.1.2.1 dL_line_2 (by decide) ?_
  refine lv_aload_n E.1.1 E.1.2.1 dL_line_3 rfl (hl.2.2 0 _ rfl) ?_
  refine lv_iload_n E.1.1 E.1.2.1 dL_line_4 rfl (hl.2.2 1 _ rfl) ?_
  refine lv_iload_n E.1.1 E.1.2.1 dL_line_5 rfl (hl.2.2 2 _ rfl) ?_
  refine lv_iload_n E.1.1 E.1.2.1 dL_line_6 rfl (hl.2.2 3 _ rfl) ?_
  refine rL_ex (mk := true) (x := 1) E (fun _ => c11_line_x hfl hI h) (Or.inl rfl) gL_30 hX11_line ⟨rfl, rfl⟩ ⟨Nat.le_of_ble_eq_true rfl, Nat.le_of_ble_eq_true rfl⟩ ⟨Nat.le_of_ble_eq_true rfl, Nat.le_of_ble_eq_true rfl⟩ rfl (lv := [some (.ref (ad 0)), some (.int p1), some (.int p2), some (.int p3), some (.ref o), none]) hl rfl (As := [.int p1, .int p2, .int p3]) (rest := [.int 0, .ref o]) rfl (Nat.le_of_ble_eq_true rfl) dL_line_7 [] ⟨0, 12, 15, 13⟩ [] rfl (fun z hz => nomatch hz) rfl (by decide) (rv_al (rv_t2 (List.mem_of_getElem? (i := 87) rfl)) rfl) E.2.1.2.2.2.2.1.2.2.2.1 (fun q9 H1 locs1 hG ho hS => ?_)
  refine lv_astore E.1.1 E.1.2.1 dL_line_15 (rv_has_k hl) (Nat.le_of_ble_eq_true rfl) rfl (fun ls' hl' => ?_)
  exact rL_endx E hG ho hS (by decide) dL_line_17 dL_line_18
theorem gL_33 : GoodIn rv_AL (wsV RL 33 RX11 yX11_before (rv_ws yX11_before cX11_before 2 (some .int))) := rv_gV (rv_al (rv_t3 (List.mem_of_getElem? (i := 74) rfl)) rfl) (rv_al (rv_t3 (List.mem_of_getElem? (i := 75) rfl)) rfl) (rv_al (rv_t3 (List.mem_of_getElem? (i := 76) rfl)) rfl) (rv_al (rv_t1 (List.mem_of_getElem? (i := 1) rfl)) rfl) (rv_al (rv_t3 (List.mem_of_getElem? (i := 77) rfl)) rfl)
abbrev rmL_before : Room := { frames := 9, cells := 1, slots := 6, locals := 163 }
abbrev wsL_before : List Cond := Cond.codeWith yL_before cL_before 4 (some .int) [(0, 9, 12, 13)] :: rv_AL
theorem wL_before {l : Launch} {D : va_G} {cI cZ cO cJ : ClassId} {ad : Nat → Nat} {gh : rC_gh} {mi de o sz : Nat} {w : Int64} (hfl : l.stackTraces = false) (hI : rC_I ad gh) {M : rv_Mem} {p1 : Int32} {r : Int32} (h : f11_before gh M p1 = some (.inl r)) : Met l yL_before wsL_before rmL_before (va_Pc [.ref (ad 0), .int p1, .ref o] (rL_P D cI cZ cO cJ ad gh mi de o sz M w)) (rL_qo D cI cZ cO cJ ad gh de o sz gh M r.toInt64) 1 6 (rL_A ad gh sz o) := by
  refine rL_met rfl (Nat.le_of_ble_eq_true rfl) (fun p e s m args below meth c ls S htab hret hlk hP hl => ?_)
  have hsz := hP.2.1
  subst hsz
  have E : rL_E D cI cZ cO cJ ad gh mi de o M w cL_before 4 [(0, 9, 12, 13)] p l s m args meth c := ⟨S, hP, hI, hfl, htab, hret, hlk⟩
  change rv_has ls [some (.ref (ad 0)), some (.int p1), some (.ref o), none] at hl
  refine lv_aload_n E.1.1 E.1.2.1 dL_before_0 rfl (hl.2.2 2 _ rfl) ?_
  refine lv_iconst (v := 0) E.1.1 E.1.2.1 dL_before_1 (by decide) ?_
  refine lv_aload_n E.1.1 E.1.2.1 dL_before_2 rfl (hl.2.2 0 _ rfl) ?_
  refine lv_iload_n E.1.1 E.1.2.1 dL_before_3 rfl (hl.2.2 1 _ rfl) ?_
  refine rL_ok (v := r) E (fun _ => c11_before hfl hI h) gL_33 hX11_before ⟨rfl, rfl⟩ ⟨Nat.le_of_ble_eq_true rfl, Nat.le_of_ble_eq_true rfl⟩ ⟨Nat.le_of_ble_eq_true rfl, Nat.le_of_ble_eq_true rfl⟩ rfl (lv := [some (.ref (ad 0)), some (.int p1), some (.ref o), none]) hl rfl (As := [.int p1]) (rest := [.int 0, .ref o]) rfl (Nat.le_of_ble_eq_true rfl) dL_before_4 (fun u H1 locs1 h0 hI' hs hG ho hS => ?_)
  refine lv_i2l E.1.1 E.1.2.1 dL_before_7 rfl ?_
  exact rL_end E h0 hI' hs hG ho hS dL_before_8 dL_before_9 (pc2 := 15) (by decide) dL_before_15 dL_before_16
theorem wL_before_x1 {l : Launch} {D : va_G} {cI cZ cO cJ : ClassId} {ad : Nat → Nat} {gh : rC_gh} {mi de o sz : Nat} {w : Int64} (hfl : l.stackTraces = false) (hI : rC_I ad gh) {M : rv_Mem} {p1 : Int32} (h : f11_before gh M p1 = some (.inr 1)) : Met l yL_before wsL_before rmL_before (va_Pc [.ref (ad 0), .int p1, .ref o] (rL_P D cI cZ cO cJ ad gh mi de o sz M w)) (rL_qx D cI cZ cO cJ ad gh de o sz 1 M w) 1 6 (rL_A ad gh sz o) := by
  refine rL_met rfl (Nat.le_of_ble_eq_true rfl) (fun p e s m args below meth c ls S htab hret hlk hP hl => ?_)
  have hsz := hP.2.1
  subst hsz
  have E : rL_E D cI cZ cO cJ ad gh mi de o M w cL_before 4 [(0, 9, 12, 13)] p l s m args meth c := ⟨S, hP, hI, hfl, htab, hret, hlk⟩
  change rv_has ls [some (.ref (ad 0)), some (.int p1), some (.ref o), none] at hl
  refine lv_aload_n E.1.1 E.1.2.1 dL_before_0 rfl (hl.2.2 2 _ rfl) ?_
  refine lv_iconst (v := 0) E.1.1 E.1.2.1 dL_before_1 (by decide) ?_
  refine lv_aload_n E.1.1 E.1.2.1 dL_before_2 rfl (hl.2.2 0 _ rfl) ?_
  refine lv_iload_n E.1.1 E.1.2.1 dL_before_3 rfl (hl.2.2 1 _ rfl) ?_
  refine rL_ex (mk := true) (x := 1) E (fun _ => c11_before_x hfl hI h) (Or.inl rfl) gL_33 hX11_before ⟨rfl, rfl⟩ ⟨Nat.le_of_ble_eq_true rfl, Nat.le_of_ble_eq_true rfl⟩ ⟨Nat.le_of_ble_eq_true rfl, Nat.le_of_ble_eq_true rfl⟩ rfl (lv := [some (.ref (ad 0)), some (.int p1), some (.ref o), none]) hl rfl (As := [.int p1]) (rest := [.int 0, .ref o]) rfl (Nat.le_of_ble_eq_true rfl) dL_before_4 [] ⟨0, 9, 12, 13⟩ [] rfl (fun z hz => nomatch hz) rfl (by decide) (rv_al (rv_t2 (List.mem_of_getElem? (i := 87) rfl)) rfl) E.2.1.2.2.2.2.1.2.2.2.1 (fun q9 H1 locs1 hG ho hS => ?_)
  refine lv_astore_n E.1.1 E.1.2.1 dL_before_12 rfl (rv_has_k hl) (Nat.le_of_ble_eq_true rfl) rfl (fun ls' hl' => ?_)
  exact rL_endx E hG ho hS (by decide) dL_before_13 dL_before_14
theorem gL_36 : GoodIn rv_AL (wsV RL 36 RX11 yX11_tip (rv_ws yX11_tip cX11_tip 2 (some .int))) := rv_gV (rv_al (rv_t3 (List.mem_of_getElem? (i := 81) rfl)) rfl) (rv_al (rv_t3 (List.mem_of_getElem? (i := 82) rfl)) rfl) (rv_al (rv_t3 (List.mem_of_getElem? (i := 83) rfl)) rfl) (rv_al (rv_t1 (List.mem_of_getElem? (i := 1) rfl)) rfl) (rv_al (rv_t3 (List.mem_of_getElem? (i := 84) rfl)) rfl)
abbrev rmL_tip : Room := { frames := 8, cells := 1, slots := 6, locals := 141 }
abbrev wsL_tip : List Cond := Cond.codeWith yL_tip cL_tip 4 (some .int) [(0, 9, 12, 13)] :: rv_AL
theorem wL_tip {l : Launch} {D : va_G} {cI cZ cO cJ : ClassId} {ad : Nat → Nat} {gh : rC_gh} {mi de o sz : Nat} {w : Int64} (hfl : l.stackTraces = false) (hI : rC_I ad gh) {M : rv_Mem} {p1 : Int32} {r : Int32} (h : f11_tip gh M p1 = some (.inl r)) : Met l yL_tip wsL_tip rmL_tip (va_Pc [.ref (ad 0), .int p1, .ref o] (rL_P D cI cZ cO cJ ad gh mi de o sz M w)) (rL_qo D cI cZ cO cJ ad gh de o sz gh M r.toInt64) 1 6 (rL_A ad gh sz o) := by
  refine rL_met rfl (Nat.le_of_ble_eq_true rfl) (fun p e s m args below meth c ls S htab hret hlk hP hl => ?_)
  have hsz := hP.2.1
  subst hsz
  have E : rL_E D cI cZ cO cJ ad gh mi de o M w cL_tip 4 [(0, 9, 12, 13)] p l s m args meth c := ⟨S, hP, hI, hfl, htab, hret, hlk⟩
  change rv_has ls [some (.ref (ad 0)), some (.int p1), some (.ref o), none] at hl
  refine lv_aload_n E.1.1 E.1.2.1 dL_tip_0 rfl (hl.2.2 2 _ rfl) ?_
  refine lv_iconst (v := 0) E.1.1 E.1.2.1 dL_tip_1 (by decide) ?_
  refine lv_aload_n E.1.1 E.1.2.1 dL_tip_2 rfl (hl.2.2 0 _ rfl) ?_
  refine lv_iload_n E.1.1 E.1.2.1 dL_tip_3 rfl (hl.2.2 1 _ rfl) ?_
  refine rL_ok (v := r) E (fun _ => c11_tip hfl hI h) gL_36 hX11_tip ⟨rfl, rfl⟩ ⟨Nat.le_of_ble_eq_true rfl, Nat.le_of_ble_eq_true rfl⟩ ⟨Nat.le_of_ble_eq_true rfl, Nat.le_of_ble_eq_true rfl⟩ rfl (lv := [some (.ref (ad 0)), some (.int p1), some (.ref o), none]) hl rfl (As := [.int p1]) (rest := [.int 0, .ref o]) rfl (Nat.le_of_ble_eq_true rfl) dL_tip_4 (fun u H1 locs1 h0 hI' hs hG ho hS => ?_)
  refine lv_i2l E.1.1 E.1.2.1 dL_tip_7 rfl ?_
  exact rL_end E h0 hI' hs hG ho hS dL_tip_8 dL_tip_9 (pc2 := 15) (by decide) dL_tip_15 dL_tip_16
theorem wL_tip_x1 {l : Launch} {D : va_G} {cI cZ cO cJ : ClassId} {ad : Nat → Nat} {gh : rC_gh} {mi de o sz : Nat} {w : Int64} (hfl : l.stackTraces = false) (hI : rC_I ad gh) {M : rv_Mem} {p1 : Int32} (h : f11_tip gh M p1 = some (.inr 1)) : Met l yL_tip wsL_tip rmL_tip (va_Pc [.ref (ad 0), .int p1, .ref o] (rL_P D cI cZ cO cJ ad gh mi de o sz M w)) (rL_qx D cI cZ cO cJ ad gh de o sz 1 M w) 1 6 (rL_A ad gh sz o) := by
  refine rL_met rfl (Nat.le_of_ble_eq_true rfl) (fun p e s m args below meth c ls S htab hret hlk hP hl => ?_)
  have hsz := hP.2.1
  subst hsz
  have E : rL_E D cI cZ cO cJ ad gh mi de o M w cL_tip 4 [(0, 9, 12, 13)] p l s m args meth c := ⟨S, hP, hI, hfl, htab, hret, hlk⟩
  change rv_has ls [some (.ref (ad 0)), some (.int p1), some (.ref o), none] at hl
  refine lv_aload_n E.1.1 E.1.2.1 dL_tip_0 rfl (hl.2.2 2 _ rfl) ?_
  refine lv_iconst (v := 0) E.1.1 E.1.2.1 dL_tip_1 (by decide) ?_
  refine lv_aload_n E.1.1 E.1.2.1 dL_tip_2 rfl (hl.2.2 0 _ rfl) ?_
  refine lv_iload_n E.1.1 E.1.2.1 dL_tip_3 rfl (hl.2.2 1 _ rfl) ?_
  refine rL_ex (mk := true) (x := 1) E (fun _ => c11_tip_x hfl hI h) (Or.inl rfl) gL_36 hX11_tip ⟨rfl, rfl⟩ ⟨Nat.le_of_ble_eq_true rfl, Nat.le_of_ble_eq_true rfl⟩ ⟨Nat.le_of_ble_eq_true rfl, Nat.le_of_ble_eq_true rfl⟩ rfl (lv := [some (.ref (ad 0)), some (.int p1), some (.ref o), none]) hl rfl (As := [.int p1]) (rest := [.int 0, .ref o]) rfl (Nat.le_of_ble_eq_true rfl) dL_tip_4 [] ⟨0, 9, 12, 13⟩ [] rfl (fun z hz => nomatch hz) rfl (by decide) (rv_al (rv_t2 (List.mem_of_getElem? (i := 87) rfl)) rfl) E.2.1.2.2.2.2.1.2.2.2.1 (fun q9 H1 locs1 hG ho hS => ?_)
  refine lv_astore_n E.1.1 E.1.2.1 dL_tip_12 rfl (rv_has_k hl) (Nat.le_of_ble_eq_true rfl) rfl (fun ls' hl' => ?_)
  exact rL_endx E hG ho hS (by decide) dL_tip_13 dL_tip_14
theorem gL_39 : GoodIn rv_AL (wsV RL 39 RX11 yX11_namedAfter (rv_ws yX11_namedAfter cX11_namedAfter 2 (some .int))) := rv_gV (rv_al (rv_t3 (List.mem_of_getElem? (i := 96) rfl)) rfl) (rv_al (rv_t3 (List.mem_of_getElem? (i := 97) rfl)) rfl) (rv_al (rv_t3 (List.mem_of_getElem? (i := 98) rfl)) rfl) (rv_al (rv_t1 (List.mem_of_getElem? (i := 1) rfl)) rfl) (rv_al (rv_t3 (List.mem_of_getElem? (i := 99) rfl)) rfl)
abbrev rmL_namedAfter : Room := { frames := 8, cells := 1, slots := 6, locals := 142 }
abbrev wsL_namedAfter : List Cond := Cond.codeWith yL_namedAfter cL_namedAfter 4 (some .int) [(0, 9, 12, 13)] :: rv_AL
theorem wL_namedAfter {l : Launch} {D : va_G} {cI cZ cO cJ : ClassId} {ad : Nat → Nat} {gh : rC_gh} {mi de o sz : Nat} {w : Int64} (hfl : l.stackTraces = false) (hI : rC_I ad gh) {M : rv_Mem} {p1 : Int32} {r : Int32} (h : f11_namedAfter gh M p1 = some (.inl r)) : Met l yL_namedAfter wsL_namedAfter rmL_namedAfter (va_Pc [.ref (ad 0), .int p1, .ref o] (rL_P D cI cZ cO cJ ad gh mi de o sz M w)) (rL_qo D cI cZ cO cJ ad gh de o sz gh M r.toInt64) 1 6 (rL_A ad gh sz o) := by
  refine rL_met rfl (Nat.le_of_ble_eq_true rfl) (fun p e s m args below meth c ls S htab hret hlk hP hl => ?_)
  have hsz := hP.2.1
  subst hsz
  have E : rL_E D cI cZ cO cJ ad gh mi de o M w cL_namedAfter 4 [(0, 9, 12, 13)] p l s m args meth c := ⟨S, hP, hI, hfl, htab, hret, hlk⟩
  change rv_has ls [some (.ref (ad 0)), some (.int p1), some (.ref o), none] at hl
  refine lv_aload_n E.1.1 E.1.2.1 dL_namedAfter_0 rfl (hl.2.2 2 _ rfl) ?_
  refine lv_iconst (v := 0) E.1.1 E.1.2.1 dL_namedAfter_1 (by decide) ?_
  refine lv_aload_n E.1.1 E.1.2.1 dL_namedAfter_2 rfl (hl.2.2 0 _ rfl) ?_
  refine lv_iload_n E.1.1 E.1.2.1 dL_namedAfter_3 rfl (hl.2.2 1 _ rfl) ?_
  refine rL_ok (v := r) E (fun _ => c11_namedAfter hfl hI h) gL_39 hX11_namedAfter ⟨rfl, rfl⟩ ⟨Nat.le_of_ble_eq_true rfl, Nat.le_of_ble_eq_true rfl⟩ ⟨Nat.le_of_ble_eq_true rfl, Nat.le_of_ble_eq_true rfl⟩ rfl (lv := [some (.ref (ad 0)), some (.int p1), some (.ref o), none]) hl rfl (As := [.int p1]) (rest := [.int 0, .ref o]) rfl (Nat.le_of_ble_eq_true rfl) dL_namedAfter_4 (fun u H1 locs1 h0 hI' hs hG ho hS => ?_)
  refine lv_i2l E.1.1 E.1.2.1 dL_namedAfter_7 rfl ?_
  exact rL_end E h0 hI' hs hG ho hS dL_namedAfter_8 dL_namedAfter_9 (pc2 := 15) (by decide) dL_namedAfter_15 dL_namedAfter_16
theorem wL_namedAfter_x1 {l : Launch} {D : va_G} {cI cZ cO cJ : ClassId} {ad : Nat → Nat} {gh : rC_gh} {mi de o sz : Nat} {w : Int64} (hfl : l.stackTraces = false) (hI : rC_I ad gh) {M : rv_Mem} {p1 : Int32} (h : f11_namedAfter gh M p1 = some (.inr 1)) : Met l yL_namedAfter wsL_namedAfter rmL_namedAfter (va_Pc [.ref (ad 0), .int p1, .ref o] (rL_P D cI cZ cO cJ ad gh mi de o sz M w)) (rL_qx D cI cZ cO cJ ad gh de o sz 1 M w) 1 6 (rL_A ad gh sz o) := by
  refine rL_met rfl (Nat.le_of_ble_eq_true rfl) (fun p e s m args below meth c ls S htab hret hlk hP hl => ?_)
  have hsz := hP.2.1
  subst hsz
  have E : rL_E D cI cZ cO cJ ad gh mi de o M w cL_namedAfter 4 [(0, 9, 12, 13)] p l s m args meth c := ⟨S, hP, hI, hfl, htab, hret, hlk⟩
  change rv_has ls [some (.ref (ad 0)), some (.int p1), some (.ref o), none] at hl
  refine lv_aload_n E.1.1 E.1.2.1 dL_namedAfter_0 rfl (hl.2.2 2 _ rfl) ?_
  refine lv_iconst (v := 0) E.1.1 E.1.2.1 dL_namedAfter_1 (by decide) ?_
  refine lv_aload_n E.1.1 E.1.2.1 dL_namedAfter_2 rfl (hl.2.2 0 _ rfl) ?_
  refine lv_iload_n E.1.1 E.1.2.1 dL_namedAfter_3 rfl (hl.2.2 1 _ rfl) ?_
  refine rL_ex (mk := true) (x := 1) E (fun _ => c11_namedAfter_x hfl hI h) (Or.inl rfl) gL_39 hX11_namedAfter ⟨rfl, rfl⟩ ⟨Nat.le_of_ble_eq_true rfl, Nat.le_of_ble_eq_true rfl⟩ ⟨Nat.le_of_ble_eq_true rfl, Nat.le_of_ble_eq_true rfl⟩ rfl (lv := [some (.ref (ad 0)), some (.int p1), some (.ref o), none]) hl rfl (As := [.int p1]) (rest := [.int 0, .ref o]) rfl (Nat.le_of_ble_eq_true rfl) dL_namedAfter_4 [] ⟨0, 9, 12, 13⟩ [] rfl (fun z hz => nomatch hz) rfl (by decide) (rv_al (rv_t2 (List.mem_of_getElem? (i := 87) rfl)) rfl) E.2.1.2.2.2.2.1.2.2.2.1 (fun q9 H1 locs1 hG ho hS => ?_)
  refine lv_astore_n E.1.1 E.1.2.1 dL_namedAfter_12 rfl (rv_has_k hl) (Nat.le_of_ble_eq_true rfl) rfl (fun ls' hl' => ?_)
  exact rL_endx E hG ho hS (by decide) dL_namedAfter_13 dL_namedAfter_14
theorem gL_42 : GoodIn rv_AL (wsV RL 42 RX11 yX11_open (rv_ws yX11_open cX11_open 4 (some .int))) := rv_gV (rv_al (rv_t3 (List.mem_of_getElem? (i := 107) rfl)) rfl) (rv_al (rv_t3 (List.mem_of_getElem? (i := 108) rfl)) rfl) (rv_al (rv_t3 (List.mem_of_getElem? (i := 109) rfl)) rfl) (rv_al (rv_t1 (List.mem_of_getElem? (i := 1) rfl)) rfl) (rv_al (rv_t3 (List.mem_of_getElem? (i := 110) rfl)) rfl)
abbrev rmL_open : Room := { frames := 10, cells := 4, slots := 199, locals := 243 }
abbrev wsL_open : List Cond := Cond.codeWith yL_open cL_open 4 (some .int) [(0, 9, 12, 13), (0, 9, 15, 25)] :: rv_AL
theorem wL_open {l : Launch} {D : va_G} {cI cZ cO cJ : ClassId} {ad : Nat → Nat} {gh : rC_gh} {mi de o sz : Nat} {w : Int64} (hfl : l.stackTraces = false) (hI : rC_I ad gh) {M : rv_Mem} {p1 : Int32} {r : Int32} {gh' : rC_gh} {M1 : rv_Mem} (h : f11_open gh M p1 = some (.inl (r, gh', M1))) : Met l yL_open wsL_open rmL_open (va_Pc [.ref (ad 0), .int p1, .ref o] (rL_P D cI cZ cO cJ ad gh mi de o sz M w)) (rL_qo D cI cZ cO cJ ad gh de o sz gh' M1 r.toInt64) 4 199 (rL_A ad gh sz o) := by
  refine rL_met rfl (Nat.le_of_ble_eq_true rfl) (fun p e s m args below meth c ls S htab hret hlk hP hl => ?_)
  have hsz := hP.2.1
  subst hsz
  have E : rL_E D cI cZ cO cJ ad gh mi de o M w cL_open 4 [(0, 9, 12, 13), (0, 9, 15, 25)] p l s m args meth c := ⟨S, hP, hI, hfl, htab, hret, hlk⟩
  change rv_has ls [some (.ref (ad 0)), some (.int p1), some (.ref o), none] at hl
  refine lv_aload_n E.1.1 E.1.2.1 dL_open_0 rfl (hl.2.2 2 _ rfl) ?_
  refine lv_iconst (v := 0) E.1.1 E.1.2.1 dL_open_1 (by decide) ?_
  refine lv_aload_n E.1.1 E.1.2.1 dL_open_2 rfl (hl.2.2 0 _ rfl) ?_
  refine lv_iload_n E.1.1 E.1.2.1 dL_open_3 rfl (hl.2.2 1 _ rfl) ?_
  refine rL_okM (v := r) E (fun _ => c11_open hfl hI h) gL_42 hX11_open ⟨rfl, rfl⟩ ⟨Nat.le_of_ble_eq_true rfl, Nat.le_of_ble_eq_true rfl⟩ ⟨Nat.le_of_ble_eq_true rfl, Nat.le_of_ble_eq_true rfl⟩ rfl (lv := [some (.ref (ad 0)), some (.int p1), some (.ref o), none]) hl rfl (As := [.int p1]) (rest := [.int 0, .ref o]) rfl (Nat.le_of_ble_eq_true rfl) dL_open_4 (fun u H1 locs1 h0 hI' hs hG ho hS => ?_)
  refine lv_i2l E.1.1 E.1.2.1 dL_open_7 rfl ?_
  exact rL_end E h0 hI' hs hG ho hS dL_open_8 dL_open_9 (pc2 := 18) (by decide) dL_open_18 dL_open_19
theorem wL_open_x1 {l : Launch} {D : va_G} {cI cZ cO cJ : ClassId} {ad : Nat → Nat} {gh : rC_gh} {mi de o sz : Nat} {w : Int64} (hfl : l.stackTraces = false) (hI : rC_I ad gh) {M : rv_Mem} {p1 : Int32} (h : f11_open gh M p1 = some (.inr 1)) : Met l yL_open wsL_open rmL_open (va_Pc [.ref (ad 0), .int p1, .ref o] (rL_P D cI cZ cO cJ ad gh mi de o sz M w)) (rL_qx D cI cZ cO cJ ad gh de o sz 1 M w) 4 199 (rL_A ad gh sz o) := by
  refine rL_met rfl (Nat.le_of_ble_eq_true rfl) (fun p e s m args below meth c ls S htab hret hlk hP hl => ?_)
  have hsz := hP.2.1
  subst hsz
  have E : rL_E D cI cZ cO cJ ad gh mi de o M w cL_open 4 [(0, 9, 12, 13), (0, 9, 15, 25)] p l s m args meth c := ⟨S, hP, hI, hfl, htab, hret, hlk⟩
  change rv_has ls [some (.ref (ad 0)), some (.int p1), some (.ref o), none] at hl
  refine lv_aload_n E.1.1 E.1.2.1 dL_open_0 rfl (hl.2.2 2 _ rfl) ?_
  refine lv_iconst (v := 0) E.1.1 E.1.2.1 dL_open_1 (by decide) ?_
  refine lv_aload_n E.1.1 E.1.2.1 dL_open_2 rfl (hl.2.2 0 _ rfl) ?_
  refine lv_iload_n E.1.1 E.1.2.1 dL_open_3 rfl (hl.2.2 1 _ rfl) ?_
  refine rL_ex (mk := true) (x := 1) E (fun _ => c11_open_x hfl hI h) (Or.inr rfl) gL_42 hX11_open ⟨rfl, rfl⟩ ⟨Nat.le_of_ble_eq_true rfl, Nat.le_of_ble_eq_true rfl⟩ ⟨Nat.le_of_ble_eq_true rfl, Nat.le_of_ble_eq_true rfl⟩ rfl (lv := [some (.ref (ad 0)), some (.int p1), some (.ref o), none]) hl rfl (As := [.int p1]) (rest := [.int 0, .ref o]) rfl (Nat.le_of_ble_eq_true rfl) dL_open_4 [] ⟨0, 9, 12, 13⟩ [⟨0, 9, 15, 25⟩] rfl (fun z hz => nomatch hz) rfl (by decide) (rv_al (rv_t2 (List.mem_of_getElem? (i := 87) rfl)) rfl) E.2.1.2.2.2.2.1.2.2.2.1 (fun q9 H1 locs1 hG ho hS => ?_)
  refine lv_astore_n E.1.1 E.1.2.1 dL_open_12 rfl (rv_has_k hl) (Nat.le_of_ble_eq_true rfl) rfl (fun ls' hl' => ?_)
  exact rL_endx E hG ho hS (by decide) dL_open_13 dL_open_14
theorem wL_open_x3 {l : Launch} {D : va_G} {cI cZ cO cJ : ClassId} {ad : Nat → Nat} {gh : rC_gh} {mi de o sz : Nat} {w : Int64} (hfl : l.stackTraces = false) (hI : rC_I ad gh) {M : rv_Mem} {p1 : Int32} (h : f11_open gh M p1 = some (.inr 3)) : Met l yL_open wsL_open rmL_open (va_Pc [.ref (ad 0), .int p1, .ref o] (rL_P D cI cZ cO cJ ad gh mi de o sz M w)) (rL_qx D cI cZ cO cJ ad gh de o sz 2 M w) 4 199 (rL_A ad gh sz o) := by
  refine rL_met rfl (Nat.le_of_ble_eq_true rfl) (fun p e s m args below meth c ls S htab hret hlk hP hl => ?_)
  have hsz := hP.2.1
  subst hsz
  have E : rL_E D cI cZ cO cJ ad gh mi de o M w cL_open 4 [(0, 9, 12, 13), (0, 9, 15, 25)] p l s m args meth c := ⟨S, hP, hI, hfl, htab, hret, hlk⟩
  change rv_has ls [some (.ref (ad 0)), some (.int p1), some (.ref o), none] at hl
  refine lv_aload_n E.1.1 E.1.2.1 dL_open_0 rfl (hl.2.2 2 _ rfl) ?_
  refine lv_iconst (v := 0) E.1.1 E.1.2.1 dL_open_1 (by decide) ?_
  refine lv_aload_n E.1.1 E.1.2.1 dL_open_2 rfl (hl.2.2 0 _ rfl) ?_
  refine lv_iload_n E.1.1 E.1.2.1 dL_open_3 rfl (hl.2.2 1 _ rfl) ?_
  refine rL_ex (mk := true) (x := 3) E (fun _ => c11_open_x hfl hI h) (Or.inr rfl) gL_42 hX11_open ⟨rfl, rfl⟩ ⟨Nat.le_of_ble_eq_true rfl, Nat.le_of_ble_eq_true rfl⟩ ⟨Nat.le_of_ble_eq_true rfl, Nat.le_of_ble_eq_true rfl⟩ rfl (lv := [some (.ref (ad 0)), some (.int p1), some (.ref o), none]) hl rfl (As := [.int p1]) (rest := [.int 0, .ref o]) rfl (Nat.le_of_ble_eq_true rfl) dL_open_4 [⟨0, 9, 12, 13⟩] ⟨0, 9, 15, 25⟩ [] rfl (fun z hz => by cases List.mem_singleton.mp hz; exact ⟨by decide, _, rv_al (rv_t2 (List.mem_of_getElem? (i := 87) rfl)) rfl, E.2.1.2.2.2.2.2.2.2.2.1.2.1⟩) rfl (by decide) (rv_al (rv_t3 (List.mem_of_getElem? (i := 1) rfl)) rfl) E.2.1.2.2.2.2.1.2.2.2.2.2.1 (fun q9 H1 locs1 hG ho hS => ?_)
  refine lv_astore_n E.1.1 E.1.2.1 dL_open_15 rfl (rv_has_k hl) (Nat.le_of_ble_eq_true rfl) rfl (fun ls' hl' => ?_)
  exact rL_endx E hG ho hS (by decide) dL_open_16 dL_open_17
theorem gL_45 : GoodIn rv_AL (wsV RL 45 RX11 yX11_upload (rv_ws yX11_upload cX11_upload 5 (some .int))) := rv_gV (rv_al (rv_t4 (List.mem_of_getElem? (i := 109) rfl)) rfl) (rv_al (rv_t4 (List.mem_of_getElem? (i := 110) rfl)) rfl) (rv_al (rv_t4 (List.mem_of_getElem? (i := 111) rfl)) rfl) (rv_al (rv_t1 (List.mem_of_getElem? (i := 1) rfl)) rfl) (rv_al (rv_t4 (List.mem_of_getElem? (i := 112) rfl)) rfl)
abbrev rmL_upload : Room := { frames := 9, cells := 4, slots := 24, locals := 181 }
abbrev wsL_upload : List Cond := Cond.codeWith yL_upload cL_upload 5 (some .int) [(0, 10, 13, 13), (0, 10, 17, 25)] :: rv_AL
theorem wL_upload {l : Launch} {D : va_G} {cI cZ cO cJ : ClassId} {ad : Nat → Nat} {gh : rC_gh} {mi de o sz : Nat} {w : Int64} (hfl : l.stackTraces = false) (hI : rC_I ad gh) {M : rv_Mem} {p1 : Int32} {p2 : Int32} {r : Int32} {M1 : rv_Mem} (h : f11_upload gh M p1 p2 = some (.inl (r, M1))) : Met l yL_upload wsL_upload rmL_upload (va_Pc [.ref (ad 0), .int p1, .int p2, .ref o] (rL_P D cI cZ cO cJ ad gh mi de o sz M w)) (rL_qo D cI cZ cO cJ ad gh de o sz gh M1 r.toInt64) 4 24 (rL_A ad gh sz o) := by
  refine rL_met rfl (Nat.le_of_ble_eq_true rfl) (fun p e s m args below meth c ls S htab hret hlk hP hl => ?_)
  have hsz := hP.2.1
  subst hsz
  have E : rL_E D cI cZ cO cJ ad gh mi de o M w cL_upload 5 [(0, 10, 13, 13), (0, 10, 17, 25)] p l s m args meth c := ⟨S, hP, hI, hfl, htab, hret, hlk⟩
  change rv_has ls [some (.ref (ad 0)), some (.int p1), some (.int p2), some (.ref o), none] at hl
  refine lv_aload_n E.1.1 E.1.2.1 dL_upload_0 rfl (hl.2.2 3 _ rfl) ?_
  refine lv_iconst (v := 0) E.1.1 E.1.2.1 dL_upload_1 (by decide) ?_
  refine lv_aload_n E.1.1 E.1.2.1 dL_upload_2 rfl (hl.2.2 0 _ rfl) ?_
  refine lv_iload_n E.1.1 E.1.2.1 dL_upload_3 rfl (hl.2.2 1 _ rfl) ?_
  refine lv_iload_n E.1.1 E.1.2.1 dL_upload_4 rfl (hl.2.2 2 _ rfl) ?_
  refine rL_ok (v := r) E (fun _ => c11_upload hfl hI h) gL_45 hX11_upload ⟨rfl, rfl⟩ ⟨Nat.le_of_ble_eq_true rfl, Nat.le_of_ble_eq_true rfl⟩ ⟨Nat.le_of_ble_eq_true rfl, Nat.le_of_ble_eq_true rfl⟩ rfl (lv := [some (.ref (ad 0)), some (.int p1), some (.int p2), some (.ref o), none]) hl rfl (As := [.int p1, .int p2]) (rest := [.int 0, .ref o]) rfl (Nat.le_of_ble_eq_true rfl) dL_upload_5 (fun u H1 locs1 h0 hI' hs hG ho hS => ?_)
  refine lv_i2l E.1.1 E.1.2.1 dL_upload_8 rfl ?_
  exact rL_end E h0 hI' hs hG ho hS dL_upload_9 dL_upload_10 (pc2 := 21) (by decide) dL_upload_21 dL_upload_22
theorem wL_upload_x1 {l : Launch} {D : va_G} {cI cZ cO cJ : ClassId} {ad : Nat → Nat} {gh : rC_gh} {mi de o sz : Nat} {w : Int64} (hfl : l.stackTraces = false) (hI : rC_I ad gh) {M : rv_Mem} {p1 : Int32} {p2 : Int32} {M1 : rv_Mem} (h : f11_upload gh M p1 p2 = some (.inr (1, M1))) : Met l yL_upload wsL_upload rmL_upload (va_Pc [.ref (ad 0), .int p1, .int p2, .ref o] (rL_P D cI cZ cO cJ ad gh mi de o sz M w)) (rL_qx D cI cZ cO cJ ad gh de o sz 1 M1 w) 4 24 (rL_A ad gh sz o) := by
  refine rL_met rfl (Nat.le_of_ble_eq_true rfl) (fun p e s m args below meth c ls S htab hret hlk hP hl => ?_)
  have hsz := hP.2.1
  subst hsz
  have E : rL_E D cI cZ cO cJ ad gh mi de o M w cL_upload 5 [(0, 10, 13, 13), (0, 10, 17, 25)] p l s m args meth c := ⟨S, hP, hI, hfl, htab, hret, hlk⟩
  change rv_has ls [some (.ref (ad 0)), some (.int p1), some (.int p2), some (.ref o), none] at hl
  refine lv_aload_n E.1.1 E.1.2.1 dL_upload_0 rfl (hl.2.2 3 _ rfl) ?_
  refine lv_iconst (v := 0) E.1.1 E.1.2.1 dL_upload_1 (by decide) ?_
  refine lv_aload_n E.1.1 E.1.2.1 dL_upload_2 rfl (hl.2.2 0 _ rfl) ?_
  refine lv_iload_n E.1.1 E.1.2.1 dL_upload_3 rfl (hl.2.2 1 _ rfl) ?_
  refine lv_iload_n E.1.1 E.1.2.1 dL_upload_4 rfl (hl.2.2 2 _ rfl) ?_
  refine rL_ex (mk := true) (x := 1) E (fun _ => c11_upload_x hfl hI h) (Or.inl rfl) gL_45 hX11_upload ⟨rfl, rfl⟩ ⟨Nat.le_of_ble_eq_true rfl, Nat.le_of_ble_eq_true rfl⟩ ⟨Nat.le_of_ble_eq_true rfl, Nat.le_of_ble_eq_true rfl⟩ rfl (lv := [some (.ref (ad 0)), some (.int p1), some (.int p2), some (.ref o), none]) hl rfl (As := [.int p1, .int p2]) (rest := [.int 0, .ref o]) rfl (Nat.le_of_ble_eq_true rfl) dL_upload_5 [] ⟨0, 10, 13, 13⟩ [⟨0, 10, 17, 25⟩] rfl (fun z hz => nomatch hz) rfl (by decide) (rv_al (rv_t2 (List.mem_of_getElem? (i := 87) rfl)) rfl) E.2.1.2.2.2.2.1.2.2.2.1 (fun q9 H1 locs1 hG ho hS => ?_)
  refine lv_astore E.1.1 E.1.2.1 dL_upload_13 (rv_has_k hl) (Nat.le_of_ble_eq_true rfl) rfl (fun ls' hl' => ?_)
  exact rL_endx E hG ho hS (by decide) dL_upload_15 dL_upload_16
theorem wL_upload_x3 {l : Launch} {D : va_G} {cI cZ cO cJ : ClassId} {ad : Nat → Nat} {gh : rC_gh} {mi de o sz : Nat} {w : Int64} (hfl : l.stackTraces = false) (hI : rC_I ad gh) {M : rv_Mem} {p1 : Int32} {p2 : Int32} {M1 : rv_Mem} (h : f11_upload gh M p1 p2 = some (.inr (3, M1))) : Met l yL_upload wsL_upload rmL_upload (va_Pc [.ref (ad 0), .int p1, .int p2, .ref o] (rL_P D cI cZ cO cJ ad gh mi de o sz M w)) (rL_qx D cI cZ cO cJ ad gh de o sz 2 M1 w) 4 24 (rL_A ad gh sz o) := by
  refine rL_met rfl (Nat.le_of_ble_eq_true rfl) (fun p e s m args below meth c ls S htab hret hlk hP hl => ?_)
  have hsz := hP.2.1
  subst hsz
  have E : rL_E D cI cZ cO cJ ad gh mi de o M w cL_upload 5 [(0, 10, 13, 13), (0, 10, 17, 25)] p l s m args meth c := ⟨S, hP, hI, hfl, htab, hret, hlk⟩
  change rv_has ls [some (.ref (ad 0)), some (.int p1), some (.int p2), some (.ref o), none] at hl
  refine lv_aload_n E.1.1 E.1.2.1 dL_upload_0 rfl (hl.2.2 3 _ rfl) ?_
  refine lv_iconst (v := 0) E.1.1 E.1.2.1 dL_upload_1 (by decide) ?_
  refine lv_aload_n E.1.1 E.1.2.1 dL_upload_2 rfl (hl.2.2 0 _ rfl) ?_
  refine lv_iload_n E.1.1 E.1.2.1 dL_upload_3 rfl (hl.2.2 1 _ rfl) ?_
  refine lv_iload_n E.1.1 E.1.2.1 dL_upload_4 rfl (hl.2.2 2 _ rfl) ?_
  refine rL_ex (mk := true) (x := 3) E (fun _ => c11_upload_x hfl hI h) (Or.inl rfl) gL_45 hX11_upload ⟨rfl, rfl⟩ ⟨Nat.le_of_ble_eq_true rfl, Nat.le_of_ble_eq_true rfl⟩ ⟨Nat.le_of_ble_eq_true rfl, Nat.le_of_ble_eq_true rfl⟩ rfl (lv := [some (.ref (ad 0)), some (.int p1), some (.int p2), some (.ref o), none]) hl rfl (As := [.int p1, .int p2]) (rest := [.int 0, .ref o]) rfl (Nat.le_of_ble_eq_true rfl) dL_upload_5 [⟨0, 10, 13, 13⟩] ⟨0, 10, 17, 25⟩ [] rfl (fun z hz => by cases List.mem_singleton.mp hz; exact ⟨by decide, _, rv_al (rv_t2 (List.mem_of_getElem? (i := 87) rfl)) rfl, E.2.1.2.2.2.2.2.2.2.2.1.2.1⟩) rfl (by decide) (rv_al (rv_t3 (List.mem_of_getElem? (i := 1) rfl)) rfl) E.2.1.2.2.2.2.1.2.2.2.2.2.1 (fun q9 H1 locs1 hG ho hS => ?_)
  refine lv_astore E.1.1 E.1.2.1 dL_upload_17 (rv_has_k hl) (Nat.le_of_ble_eq_true rfl) rfl (fun ls' hl' => ?_)
  exact rL_endx E hG ho hS (by decide) dL_upload_19 dL_upload_20
theorem gL_48 : GoodIn rv_AL (wsV RL 48 RX11 yX11_rebase (rv_ws yX11_rebase cX11_rebase 7 (some .int))) := rv_gV (rv_al (rv_t4 (List.mem_of_getElem? (i := 143) rfl)) rfl) (rv_al (rv_t4 (List.mem_of_getElem? (i := 144) rfl)) rfl) (rv_al (rv_t4 (List.mem_of_getElem? (i := 145) rfl)) rfl) (rv_al (rv_t1 (List.mem_of_getElem? (i := 1) rfl)) rfl) (rv_al (rv_t4 (List.mem_of_getElem? (i := 146) rfl)) rfl)
abbrev rmL_rebase : Room := { frames := 9, cells := 5, slots := 30, locals := 183 }
abbrev wsL_rebase : List Cond := Cond.codeWith yL_rebase cL_rebase 5 (some .int) [(0, 10, 13, 13), (0, 10, 17, 25)] :: rv_AL
theorem wL_rebase {l : Launch} {D : va_G} {cI cZ cO cJ : ClassId} {ad : Nat → Nat} {gh : rC_gh} {mi de o sz : Nat} {w : Int64} (hfl : l.stackTraces = false) (hI : rC_I ad gh) {M : rv_Mem} {p1 : Int32} {p2 : Int32} {r : Int32} {M1 : rv_Mem} (h : f11_rebase gh M p1 p2 = some (.inl (r, M1))) : Met l yL_rebase wsL_rebase rmL_rebase (va_Pc [.ref (ad 0), .int p1, .int p2, .ref o] (rL_P D cI cZ cO cJ ad gh mi de o sz M w)) (rL_qo D cI cZ cO cJ ad gh de o sz gh M1 r.toInt64) 5 30 (rL_A ad gh sz o) := by
  refine rL_met rfl (Nat.le_of_ble_eq_true rfl) (fun p e s m args below meth c ls S htab hret hlk hP hl => ?_)
  have hsz := hP.2.1
  subst hsz
  have E : rL_E D cI cZ cO cJ ad gh mi de o M w cL_rebase 5 [(0, 10, 13, 13), (0, 10, 17, 25)] p l s m args meth c := ⟨S, hP, hI, hfl, htab, hret, hlk⟩
  change rv_has ls [some (.ref (ad 0)), some (.int p1), some (.int p2), some (.ref o), none] at hl
  refine lv_aload_n E.1.1 E.1.2.1 dL_rebase_0 rfl (hl.2.2 3 _ rfl) ?_
  refine lv_iconst (v := 0) E.1.1 E.1.2.1 dL_rebase_1 (by decide) ?_
  refine lv_aload_n E.1.1 E.1.2.1 dL_rebase_2 rfl (hl.2.2 0 _ rfl) ?_
  refine lv_iload_n E.1.1 E.1.2.1 dL_rebase_3 rfl (hl.2.2 1 _ rfl) ?_
  refine lv_iload_n E.1.1 E.1.2.1 dL_rebase_4 rfl (hl.2.2 2 _ rfl) ?_
  refine rL_ok (v := r) E (fun _ => c11_rebase hfl hI h) gL_48 hX11_rebase ⟨rfl, rfl⟩ ⟨Nat.le_of_ble_eq_true rfl, Nat.le_of_ble_eq_true rfl⟩ ⟨Nat.le_of_ble_eq_true rfl, Nat.le_of_ble_eq_true rfl⟩ rfl (lv := [some (.ref (ad 0)), some (.int p1), some (.int p2), some (.ref o), none]) hl rfl (As := [.int p1, .int p2]) (rest := [.int 0, .ref o]) rfl (Nat.le_of_ble_eq_true rfl) dL_rebase_5 (fun u H1 locs1 h0 hI' hs hG ho hS => ?_)
  refine lv_i2l E.1.1 E.1.2.1 dL_rebase_8 rfl ?_
  exact rL_end E h0 hI' hs hG ho hS dL_rebase_9 dL_rebase_10 (pc2 := 21) (by decide) dL_rebase_21 dL_rebase_22
theorem wL_rebase_x1 {l : Launch} {D : va_G} {cI cZ cO cJ : ClassId} {ad : Nat → Nat} {gh : rC_gh} {mi de o sz : Nat} {w : Int64} (hfl : l.stackTraces = false) (hI : rC_I ad gh) {M : rv_Mem} {p1 : Int32} {p2 : Int32} {M1 : rv_Mem} (h : f11_rebase gh M p1 p2 = some (.inr (1, M1))) : Met l yL_rebase wsL_rebase rmL_rebase (va_Pc [.ref (ad 0), .int p1, .int p2, .ref o] (rL_P D cI cZ cO cJ ad gh mi de o sz M w)) (rL_qx D cI cZ cO cJ ad gh de o sz 1 M1 w) 5 30 (rL_A ad gh sz o) := by
  refine rL_met rfl (Nat.le_of_ble_eq_true rfl) (fun p e s m args below meth c ls S htab hret hlk hP hl => ?_)
  have hsz := hP.2.1
  subst hsz
  have E : rL_E D cI cZ cO cJ ad gh mi de o M w cL_rebase 5 [(0, 10, 13, 13), (0, 10, 17, 25)] p l s m args meth c := ⟨S, hP, hI, hfl, htab, hret, hlk⟩
  change rv_has ls [some (.ref (ad 0)), some (.int p1), some (.int p2), some (.ref o), none] at hl
  refine lv_aload_n E.1.1 E.1.2.1 dL_rebase_0 rfl (hl.2.2 3 _ rfl) ?_
  refine lv_iconst (v := 0) E.1.1 E.1.2.1 dL_rebase_1 (by decide) ?_
  refine lv_aload_n E.1.1 E.1.2.1 dL_rebase_2 rfl (hl.2.2 0 _ rfl) ?_
  refine lv_iload_n E.1.1 E.1.2.1 dL_rebase_3 rfl (hl.2.2 1 _ rfl) ?_
  refine lv_iload_n E.1.1 E.1.2.1 dL_rebase_4 rfl (hl.2.2 2 _ rfl) ?_
  refine rL_ex (mk := true) (x := 1) E (fun _ => c11_rebase_x hfl hI h) (Or.inl rfl) gL_48 hX11_rebase ⟨rfl, rfl⟩ ⟨Nat.le_of_ble_eq_true rfl, Nat.le_of_ble_eq_true rfl⟩ ⟨Nat.le_of_ble_eq_true rfl, Nat.le_of_ble_eq_true rfl⟩ rfl (lv := [some (.ref (ad 0)), some (.int p1), some (.int p2), some (.ref o), none]) hl rfl (As := [.int p1, .int p2]) (rest := [.int 0, .ref o]) rfl (Nat.le_of_ble_eq_true rfl) dL_rebase_5 [] ⟨0, 10, 13, 13⟩ [⟨0, 10, 17, 25⟩] rfl (fun z hz => nomatch hz) rfl (by decide) (rv_al (rv_t2 (List.mem_of_getElem? (i := 87) rfl)) rfl) E.2.1.2.2.2.2.1.2.2.2.1 (fun q9 H1 locs1 hG ho hS => ?_)
  refine lv_astore E.1.1 E.1.2.1 dL_rebase_13 (rv_has_k hl) (Nat.le_of_ble_eq_true rfl) rfl (fun ls' hl' => ?_)
  exact rL_endx E hG ho hS (by decide) dL_rebase_15 dL_rebase_16
theorem wL_rebase_x3 {l : Launch} {D : va_G} {cI cZ cO cJ : ClassId} {ad : Nat → Nat} {gh : rC_gh} {mi de o sz : Nat} {w : Int64} (hfl : l.stackTraces = false) (hI : rC_I ad gh) {M : rv_Mem} {p1 : Int32} {p2 : Int32} {M1 : rv_Mem} (h : f11_rebase gh M p1 p2 = some (.inr (3, M1))) : Met l yL_rebase wsL_rebase rmL_rebase (va_Pc [.ref (ad 0), .int p1, .int p2, .ref o] (rL_P D cI cZ cO cJ ad gh mi de o sz M w)) (rL_qx D cI cZ cO cJ ad gh de o sz 2 M1 w) 5 30 (rL_A ad gh sz o) := by
  refine rL_met rfl (Nat.le_of_ble_eq_true rfl) (fun p e s m args below meth c ls S htab hret hlk hP hl => ?_)
  have hsz := hP.2.1
  subst hsz
  have E : rL_E D cI cZ cO cJ ad gh mi de o M w cL_rebase 5 [(0, 10, 13, 13), (0, 10, 17, 25)] p l s m args meth c := ⟨S, hP, hI, hfl, htab, hret, hlk⟩
  change rv_has ls [some (.ref (ad 0)), some (.int p1), some (.int p2), some (.ref o), none] at hl
  refine lv_aload_n E.1.1 E.1.2.1 dL_rebase_0 rfl (hl.2.2 3 _ rfl) ?_
  refine lv_iconst (v := 0) E.1.1 E.1.2.1 dL_rebase_1 (by decide) ?_
  refine lv_aload_n E.1.1 E.1.2.1 dL_rebase_2 rfl (hl.2.2 0 _ rfl) ?_
  refine lv_iload_n E.1.1 E.1.2.1 dL_rebase_3 rfl (hl.2.2 1 _ rfl) ?_
  refine lv_iload_n E.1.1 E.1.2.1 dL_rebase_4 rfl (hl.2.2 2 _ rfl) ?_
  refine rL_ex (mk := true) (x := 3) E (fun _ => c11_rebase_x hfl hI h) (Or.inl rfl) gL_48 hX11_rebase ⟨rfl, rfl⟩ ⟨Nat.le_of_ble_eq_true rfl, Nat.le_of_ble_eq_true rfl⟩ ⟨Nat.le_of_ble_eq_true rfl, Nat.le_of_ble_eq_true rfl⟩ rfl (lv := [some (.ref (ad 0)), some (.int p1), some (.int p2), some (.ref o), none]) hl rfl (As := [.int p1, .int p2]) (rest := [.int 0, .ref o]) rfl (Nat.le_of_ble_eq_true rfl) dL_rebase_5 [⟨0, 10, 13, 13⟩] ⟨0, 10, 17, 25⟩ [] rfl (fun z hz => by cases List.mem_singleton.mp hz; exact ⟨by decide, _, rv_al (rv_t2 (List.mem_of_getElem? (i := 87) rfl)) rfl, E.2.1.2.2.2.2.2.2.2.2.1.2.1⟩) rfl (by decide) (rv_al (rv_t3 (List.mem_of_getElem? (i := 1) rfl)) rfl) E.2.1.2.2.2.2.1.2.2.2.2.2.1 (fun q9 H1 locs1 hG ho hS => ?_)
  refine lv_astore E.1.1 E.1.2.1 dL_rebase_17 (rv_has_k hl) (Nat.le_of_ble_eq_true rfl) rfl (fun ls' hl' => ?_)
  exact rL_endx E hG ho hS (by decide) dL_rebase_19 dL_rebase_20
theorem gL_51 : GoodIn rv_AL (wsV RL 51 RX11 yX11_abandon (rv_ws yX11_abandon cX11_abandon 6 (some .int))) := rv_gV (rv_al (rv_t4 (List.mem_of_getElem? (i := 184) rfl)) rfl) (rv_al (rv_t4 (List.mem_of_getElem? (i := 185) rfl)) rfl) (rv_al (rv_t4 (List.mem_of_getElem? (i := 186) rfl)) rfl) (rv_al (rv_t1 (List.mem_of_getElem? (i := 1) rfl)) rfl) (rv_al (rv_t4 (List.mem_of_getElem? (i := 187) rfl)) rfl)
abbrev rmL_abandon : Room := { frames := 9, cells := 3, slots := 18, locals := 167 }
abbrev wsL_abandon : List Cond := Cond.codeWith yL_abandon cL_abandon 5 (some .int) [(0, 10, 13, 13), (0, 10, 17, 25)] :: rv_AL
theorem wL_abandon {l : Launch} {D : va_G} {cI cZ cO cJ : ClassId} {ad : Nat → Nat} {gh : rC_gh} {mi de o sz : Nat} {w : Int64} (hfl : l.stackTraces = false) (hI : rC_I ad gh) {M : rv_Mem} {p1 : Int32} {p2 : Int32} {r : Int32} {M1 : rv_Mem} (h : f11_abandon gh M p1 p2 = some (.inl (r, M1))) : Met l yL_abandon wsL_abandon rmL_abandon (va_Pc [.ref (ad 0), .int p1, .int p2, .ref o] (rL_P D cI cZ cO cJ ad gh mi de o sz M w)) (rL_qo D cI cZ cO cJ ad gh de o sz gh M1 r.toInt64) 3 18 (rL_A ad gh sz o) := by
  refine rL_met rfl (Nat.le_of_ble_eq_true rfl) (fun p e s m args below meth c ls S htab hret hlk hP hl => ?_)
  have hsz := hP.2.1
  subst hsz
  have E : rL_E D cI cZ cO cJ ad gh mi de o M w cL_abandon 5 [(0, 10, 13, 13), (0, 10, 17, 25)] p l s m args meth c := ⟨S, hP, hI, hfl, htab, hret, hlk⟩
  change rv_has ls [some (.ref (ad 0)), some (.int p1), some (.int p2), some (.ref o), none] at hl
  refine lv_aload_n E.1.1 E.1.2.1 dL_abandon_0 rfl (hl.2.2 3 _ rfl) ?_
  refine lv_iconst (v := 0) E.1.1 E.1.2.1 dL_abandon_1 (by decide) ?_
  refine lv_aload_n E.1.1 E.1.2.1 dL_abandon_2 rfl (hl.2.2 0 _ rfl) ?_
  refine lv_iload_n E.1.1 E.1.2.1 dL_abandon_3 rfl (hl.2.2 1 _ rfl) ?_
  refine lv_iload_n E.1.1 E.1.2.1 dL_abandon_4 rfl (hl.2.2 2 _ rfl) ?_
  refine rL_ok (v := r) E (fun _ => c11_abandon hfl hI h) gL_51 hX11_abandon ⟨rfl, rfl⟩ ⟨Nat.le_of_ble_eq_true rfl, Nat.le_of_ble_eq_true rfl⟩ ⟨Nat.le_of_ble_eq_true rfl, Nat.le_of_ble_eq_true rfl⟩ rfl (lv := [some (.ref (ad 0)), some (.int p1), some (.int p2), some (.ref o), none]) hl rfl (As := [.int p1, .int p2]) (rest := [.int 0, .ref o]) rfl (Nat.le_of_ble_eq_true rfl) dL_abandon_5 (fun u H1 locs1 h0 hI' hs hG ho hS => ?_)
  refine lv_i2l E.1.1 E.1.2.1 dL_abandon_8 rfl ?_
  exact rL_end E h0 hI' hs hG ho hS dL_abandon_9 dL_abandon_10 (pc2 := 21) (by decide) dL_abandon_21 dL_abandon_22
theorem wL_abandon_x1 {l : Launch} {D : va_G} {cI cZ cO cJ : ClassId} {ad : Nat → Nat} {gh : rC_gh} {mi de o sz : Nat} {w : Int64} (hfl : l.stackTraces = false) (hI : rC_I ad gh) {M : rv_Mem} {p1 : Int32} {p2 : Int32} {M1 : rv_Mem} (h : f11_abandon gh M p1 p2 = some (.inr (1, M1))) : Met l yL_abandon wsL_abandon rmL_abandon (va_Pc [.ref (ad 0), .int p1, .int p2, .ref o] (rL_P D cI cZ cO cJ ad gh mi de o sz M w)) (rL_qx D cI cZ cO cJ ad gh de o sz 1 M1 w) 3 18 (rL_A ad gh sz o) := by
  refine rL_met rfl (Nat.le_of_ble_eq_true rfl) (fun p e s m args below meth c ls S htab hret hlk hP hl => ?_)
  have hsz := hP.2.1
  subst hsz
  have E : rL_E D cI cZ cO cJ ad gh mi de o M w cL_abandon 5 [(0, 10, 13, 13), (0, 10, 17, 25)] p l s m args meth c := ⟨S, hP, hI, hfl, htab, hret, hlk⟩
  change rv_has ls [some (.ref (ad 0)), some (.int p1), some (.int p2), some (.ref o), none] at hl
  refine lv_aload_n E.1.1 E.1.2.1 dL_abandon_0 rfl (hl.2.2 3 _ rfl) ?_
  refine lv_iconst (v := 0) E.1.1 E.1.2.1 dL_abandon_1 (by decide) ?_
  refine lv_aload_n E.1.1 E.1.2.1 dL_abandon_2 rfl (hl.2.2 0 _ rfl) ?_
  refine lv_iload_n E.1.1 E.1.2.1 dL_abandon_3 rfl (hl.2.2 1 _ rfl) ?_
  refine lv_iload_n E.1.1 E.1.2.1 dL_abandon_4 rfl (hl.2.2 2 _ rfl) ?_
  refine rL_ex (mk := true) (x := 1) E (fun _ => c11_abandon_x hfl hI h) (Or.inl rfl) gL_51 hX11_abandon ⟨rfl, rfl⟩ ⟨Nat.le_of_ble_eq_true rfl, Nat.le_of_ble_eq_true rfl⟩ ⟨Nat.le_of_ble_eq_true rfl, Nat.le_of_ble_eq_true rfl⟩ rfl (lv := [some (.ref (ad 0)), some (.int p1), some (.int p2), some (.ref o), none]) hl rfl (As := [.int p1, .int p2]) (rest := [.int 0, .ref o]) rfl (Nat.le_of_ble_eq_true rfl) dL_abandon_5 [] ⟨0, 10, 13, 13⟩ [⟨0, 10, 17, 25⟩] rfl (fun z hz => nomatch hz) rfl (by decide) (rv_al (rv_t2 (List.mem_of_getElem? (i := 87) rfl)) rfl) E.2.1.2.2.2.2.1.2.2.2.1 (fun q9 H1 locs1 hG ho hS => ?_)
  refine lv_astore E.1.1 E.1.2.1 dL_abandon_13 (rv_has_k hl) (Nat.le_of_ble_eq_true rfl) rfl (fun ls' hl' => ?_)
  exact rL_endx E hG ho hS (by decide) dL_abandon_15 dL_abandon_16
theorem wL_abandon_x3 {l : Launch} {D : va_G} {cI cZ cO cJ : ClassId} {ad : Nat → Nat} {gh : rC_gh} {mi de o sz : Nat} {w : Int64} (hfl : l.stackTraces = false) (hI : rC_I ad gh) {M : rv_Mem} {p1 : Int32} {p2 : Int32} {M1 : rv_Mem} (h : f11_abandon gh M p1 p2 = some (.inr (3, M1))) : Met l yL_abandon wsL_abandon rmL_abandon (va_Pc [.ref (ad 0), .int p1, .int p2, .ref o] (rL_P D cI cZ cO cJ ad gh mi de o sz M w)) (rL_qx D cI cZ cO cJ ad gh de o sz 2 M1 w) 3 18 (rL_A ad gh sz o) := by
  refine rL_met rfl (Nat.le_of_ble_eq_true rfl) (fun p e s m args below meth c ls S htab hret hlk hP hl => ?_)
  have hsz := hP.2.1
  subst hsz
  have E : rL_E D cI cZ cO cJ ad gh mi de o M w cL_abandon 5 [(0, 10, 13, 13), (0, 10, 17, 25)] p l s m args meth c := ⟨S, hP, hI, hfl, htab, hret, hlk⟩
  change rv_has ls [some (.ref (ad 0)), some (.int p1), some (.int p2), some (.ref o), none] at hl
  refine lv_aload_n E.1.1 E.1.2.1 dL_abandon_0 rfl (hl.2.2 3 _ rfl) ?_
  refine lv_iconst (v := 0) E.1.1 E.1.2.1 dL_abandon_1 (by decide) ?_
  refine lv_aload_n E.1.1 E.1.2.1 dL_abandon_2 rfl (hl.2.2 0 _ rfl) ?_
  refine lv_iload_n E.1.1 E.1.2.1 dL_abandon_3 rfl (hl.2.2 1 _ rfl) ?_
  refine lv_iload_n E.1.1 E.1.2.1 dL_abandon_4 rfl (hl.2.2 2 _ rfl) ?_
  refine rL_ex (mk := true) (x := 3) E (fun _ => c11_abandon_x hfl hI h) (Or.inl rfl) gL_51 hX11_abandon ⟨rfl, rfl⟩ ⟨Nat.le_of_ble_eq_true rfl, Nat.le_of_ble_eq_true rfl⟩ ⟨Nat.le_of_ble_eq_true rfl, Nat.le_of_ble_eq_true rfl⟩ rfl (lv := [some (.ref (ad 0)), some (.int p1), some (.int p2), some (.ref o), none]) hl rfl (As := [.int p1, .int p2]) (rest := [.int 0, .ref o]) rfl (Nat.le_of_ble_eq_true rfl) dL_abandon_5 [⟨0, 10, 13, 13⟩] ⟨0, 10, 17, 25⟩ [] rfl (fun z hz => by cases List.mem_singleton.mp hz; exact ⟨by decide, _, rv_al (rv_t2 (List.mem_of_getElem? (i := 87) rfl)) rfl, E.2.1.2.2.2.2.2.2.2.2.1.2.1⟩) rfl (by decide) (rv_al (rv_t3 (List.mem_of_getElem? (i := 1) rfl)) rfl) E.2.1.2.2.2.2.1.2.2.2.2.2.1 (fun q9 H1 locs1 hG ho hS => ?_)
  refine lv_astore E.1.1 E.1.2.1 dL_abandon_17 (rv_has_k hl) (Nat.le_of_ble_eq_true rfl) rfl (fun ls' hl' => ?_)
  exact rL_endx E hG ho hS (by decide) dL_abandon_19 dL_abandon_20
theorem gL_54 : GoodIn rv_AL (wsV RL 54 RX11 yX11_restore (rv_ws yX11_restore cX11_restore 3 (some .int))) := rv_gV (rv_al (rv_t4 (List.mem_of_getElem? (i := 195) rfl)) rfl) (rv_al (rv_t4 (List.mem_of_getElem? (i := 196) rfl)) rfl) (rv_al (rv_t4 (List.mem_of_getElem? (i := 197) rfl)) rfl) (rv_al (rv_t1 (List.mem_of_getElem? (i := 1) rfl)) rfl) (rv_al (rv_t4 (List.mem_of_getElem? (i := 198) rfl)) rfl)
abbrev rmL_restore : Room := { frames := 8, cells := 2, slots := 12, locals := 144 }
abbrev wsL_restore : List Cond := Cond.codeWith yL_restore cL_restore 4 (some .int) [(0, 9, 12, 13), (0, 9, 15, 25)] :: rv_AL
theorem wL_restore {l : Launch} {D : va_G} {cI cZ cO cJ : ClassId} {ad : Nat → Nat} {gh : rC_gh} {mi de o sz : Nat} {w : Int64} (hfl : l.stackTraces = false) (hI : rC_I ad gh) {M : rv_Mem} {p1 : Int32} {r : Int32} {M1 : rv_Mem} (h : f11_restore gh M p1 = some (.inl (r, M1))) : Met l yL_restore wsL_restore rmL_restore (va_Pc [.ref (ad 0), .int p1, .ref o] (rL_P D cI cZ cO cJ ad gh mi de o sz M w)) (rL_qo D cI cZ cO cJ ad gh de o sz gh M1 r.toInt64) 2 12 (rL_A ad gh sz o) := by
  refine rL_met rfl (Nat.le_of_ble_eq_true rfl) (fun p e s m args below meth c ls S htab hret hlk hP hl => ?_)
  have hsz := hP.2.1
  subst hsz
  have E : rL_E D cI cZ cO cJ ad gh mi de o M w cL_restore 4 [(0, 9, 12, 13), (0, 9, 15, 25)] p l s m args meth c := ⟨S, hP, hI, hfl, htab, hret, hlk⟩
  change rv_has ls [some (.ref (ad 0)), some (.int p1), some (.ref o), none] at hl
  refine lv_aload_n E.1.1 E.1.2.1 dL_restore_0 rfl (hl.2.2 2 _ rfl) ?_
  refine lv_iconst (v := 0) E.1.1 E.1.2.1 dL_restore_1 (by decide) ?_
  refine lv_aload_n E.1.1 E.1.2.1 dL_restore_2 rfl (hl.2.2 0 _ rfl) ?_
  refine lv_iload_n E.1.1 E.1.2.1 dL_restore_3 rfl (hl.2.2 1 _ rfl) ?_
  refine rL_ok (v := r) E (fun _ => c11_restore hfl hI h) gL_54 hX11_restore ⟨rfl, rfl⟩ ⟨Nat.le_of_ble_eq_true rfl, Nat.le_of_ble_eq_true rfl⟩ ⟨Nat.le_of_ble_eq_true rfl, Nat.le_of_ble_eq_true rfl⟩ rfl (lv := [some (.ref (ad 0)), some (.int p1), some (.ref o), none]) hl rfl (As := [.int p1]) (rest := [.int 0, .ref o]) rfl (Nat.le_of_ble_eq_true rfl) dL_restore_4 (fun u H1 locs1 h0 hI' hs hG ho hS => ?_)
  refine lv_i2l E.1.1 E.1.2.1 dL_restore_7 rfl ?_
  exact rL_end E h0 hI' hs hG ho hS dL_restore_8 dL_restore_9 (pc2 := 18) (by decide) dL_restore_18 dL_restore_19
theorem wL_restore_x1 {l : Launch} {D : va_G} {cI cZ cO cJ : ClassId} {ad : Nat → Nat} {gh : rC_gh} {mi de o sz : Nat} {w : Int64} (hfl : l.stackTraces = false) (hI : rC_I ad gh) {M : rv_Mem} {p1 : Int32} {M1 : rv_Mem} (h : f11_restore gh M p1 = some (.inr (1, M1))) : Met l yL_restore wsL_restore rmL_restore (va_Pc [.ref (ad 0), .int p1, .ref o] (rL_P D cI cZ cO cJ ad gh mi de o sz M w)) (rL_qx D cI cZ cO cJ ad gh de o sz 1 M1 w) 2 12 (rL_A ad gh sz o) := by
  refine rL_met rfl (Nat.le_of_ble_eq_true rfl) (fun p e s m args below meth c ls S htab hret hlk hP hl => ?_)
  have hsz := hP.2.1
  subst hsz
  have E : rL_E D cI cZ cO cJ ad gh mi de o M w cL_restore 4 [(0, 9, 12, 13), (0, 9, 15, 25)] p l s m args meth c := ⟨S, hP, hI, hfl, htab, hret, hlk⟩
  change rv_has ls [some (.ref (ad 0)), some (.int p1), some (.ref o), none] at hl
  refine lv_aload_n E.1.1 E.1.2.1 dL_restore_0 rfl (hl.2.2 2 _ rfl) ?_
  refine lv_iconst (v := 0) E.1.1 E.1.2.1 dL_restore_1 (by decide) ?_
  refine lv_aload_n E.1.1 E.1.2.1 dL_restore_2 rfl (hl.2.2 0 _ rfl) ?_
  refine lv_iload_n E.1.1 E.1.2.1 dL_restore_3 rfl (hl.2.2 1 _ rfl) ?_
  refine rL_ex (mk := true) (x := 1) E (fun _ => c11_restore_x hfl hI h) (Or.inl rfl) gL_54 hX11_restore ⟨rfl, rfl⟩ ⟨Nat.le_of_ble_eq_true rfl, Nat.le_of_ble_eq_true rfl⟩ ⟨Nat.le_of_ble_eq_true rfl, Nat.le_of_ble_eq_true rfl⟩ rfl (lv := [some (.ref (ad 0)), some (.int p1), some (.ref o), none]) hl rfl (As := [.int p1]) (rest := [.int 0, .ref o]) rfl (Nat.le_of_ble_eq_true rfl) dL_restore_4 [] ⟨0, 9, 12, 13⟩ [⟨0, 9, 15, 25⟩] rfl (fun z hz => nomatch hz) rfl (by decide) (rv_al (rv_t2 (List.mem_of_getElem? (i := 87) rfl)) rfl) E.2.1.2.2.2.2.1.2.2.2.1 (fun q9 H1 locs1 hG ho hS => ?_)
  refine lv_astore_n E.1.1 E.1.2.1 dL_restore_12 rfl (rv_has_k hl) (Nat.le_of_ble_eq_true rfl) rfl (fun ls' hl' => ?_)
  exact rL_endx E hG ho hS (by decide) dL_restore_13 dL_restore_14
theorem wL_restore_x3 {l : Launch} {D : va_G} {cI cZ cO cJ : ClassId} {ad : Nat → Nat} {gh : rC_gh} {mi de o sz : Nat} {w : Int64} (hfl : l.stackTraces = false) (hI : rC_I ad gh) {M : rv_Mem} {p1 : Int32} {M1 : rv_Mem} (h : f11_restore gh M p1 = some (.inr (3, M1))) : Met l yL_restore wsL_restore rmL_restore (va_Pc [.ref (ad 0), .int p1, .ref o] (rL_P D cI cZ cO cJ ad gh mi de o sz M w)) (rL_qx D cI cZ cO cJ ad gh de o sz 2 M1 w) 2 12 (rL_A ad gh sz o) := by
  refine rL_met rfl (Nat.le_of_ble_eq_true rfl) (fun p e s m args below meth c ls S htab hret hlk hP hl => ?_)
  have hsz := hP.2.1
  subst hsz
  have E : rL_E D cI cZ cO cJ ad gh mi de o M w cL_restore 4 [(0, 9, 12, 13), (0, 9, 15, 25)] p l s m args meth c := ⟨S, hP, hI, hfl, htab, hret, hlk⟩
  change rv_has ls [some (.ref (ad 0)), some (.int p1), some (.ref o), none] at hl
  refine lv_aload_n E.1.1 E.1.2.1 dL_restore_0 rfl (hl.2.2 2 _ rfl) ?_
  refine lv_iconst (v := 0) E.1.1 E.1.2.1 dL_restore_1 (by decide) ?_
  refine lv_aload_n E.1.1 E.1.2.1 dL_restore_2 rfl (hl.2.2 0 _ rfl) ?_
  refine lv_iload_n E.1.1 E.1.2.1 dL_restore_3 rfl (hl.2.2 1 _ rfl) ?_
  refine rL_ex (mk := true) (x := 3) E (fun _ => c11_restore_x hfl hI h) (Or.inl rfl) gL_54 hX11_restore ⟨rfl, rfl⟩ ⟨Nat.le_of_ble_eq_true rfl, Nat.le_of_ble_eq_true rfl⟩ ⟨Nat.le_of_ble_eq_true rfl, Nat.le_of_ble_eq_true rfl⟩ rfl (lv := [some (.ref (ad 0)), some (.int p1), some (.ref o), none]) hl rfl (As := [.int p1]) (rest := [.int 0, .ref o]) rfl (Nat.le_of_ble_eq_true rfl) dL_restore_4 [⟨0, 9, 12, 13⟩] ⟨0, 9, 15, 25⟩ [] rfl (fun z hz => by cases List.mem_singleton.mp hz; exact ⟨by decide, _, rv_al (rv_t2 (List.mem_of_getElem? (i := 87) rfl)) rfl, E.2.1.2.2.2.2.2.2.2.2.1.2.1⟩) rfl (by decide) (rv_al (rv_t3 (List.mem_of_getElem? (i := 1) rfl)) rfl) E.2.1.2.2.2.2.1.2.2.2.2.2.1 (fun q9 H1 locs1 hG ho hS => ?_)
  refine lv_astore_n E.1.1 E.1.2.1 dL_restore_15 rfl (rv_has_k hl) (Nat.le_of_ble_eq_true rfl) rfl (fun ls' hl' => ?_)
  exact rL_endx E hG ho hS (by decide) dL_restore_16 dL_restore_17
theorem gL_57 : GoodIn rv_AL (wsV RL 57 RX11 yX11_setFlags (rv_ws yX11_setFlags cX11_setFlags 6 (some .int))) := rv_gV (rv_al (rv_t4 (List.mem_of_getElem? (i := 203) rfl)) rfl) (rv_al (rv_t4 (List.mem_of_getElem? (i := 204) rfl)) rfl) (rv_al (rv_t4 (List.mem_of_getElem? (i := 205) rfl)) rfl) (rv_al (rv_t1 (List.mem_of_getElem? (i := 1) rfl)) rfl) (rv_al (rv_t4 (List.mem_of_getElem? (i := 206) rfl)) rfl)
abbrev rmL_setFlags : Room := { frames := 8, cells := 2, slots := 12, locals := 147 }
abbrev wsL_setFlags : List Cond := Cond.codeWith yL_setFlags cL_setFlags 6 (some .int) [(0, 12, 15, 13), (0, 12, 19, 25)] :: rv_AL
theorem wL_setFlags {l : Launch} {D : va_G} {cI cZ cO cJ : ClassId} {ad : Nat → Nat} {gh : rC_gh} {mi de o sz : Nat} {w : Int64} (hfl : l.stackTraces = false) (hI : rC_I ad gh) {M : rv_Mem} {p1 : Int32} {p2 : Bool} {p3 : Bool} {r : Int32} {M1 : rv_Mem} (h : f11_setFlags gh M p1 p2 p3 = some (.inl (r, M1))) : Met l yL_setFlags wsL_setFlags rmL_setFlags (va_Pc [.ref (ad 0), .int p1, .int (rv_i p2), .int (rv_i p3), .ref o] (rL_P D cI cZ cO cJ ad gh mi de o sz M w)) (rL_qo D cI cZ cO cJ ad gh de o sz gh M1 r.toInt64) 2 12 (rL_A ad gh sz o) := by
  refine rL_met rfl (Nat.le_of_ble_eq_true rfl) (fun p e s m args below meth c ls S htab hret hlk hP hl => ?_)
  have hsz := hP.2.1
  subst hsz
  have E : rL_E D cI cZ cO cJ ad gh mi de o M w cL_setFlags 6 [(0, 12, 15, 13), (0, 12, 19, 25)] p l s m args meth c := ⟨S, hP, hI, hfl, htab, hret, hlk⟩
  change rv_has ls [some (.ref (ad 0)), some (.int p1), some (.int (rv_i p2)), some (.int (rv_i p3)), some (.ref o), none] at hl
  refine lv_aload E.1.1 E.1.2.1 dL_setFlags_0 (hl.2.2 4 _ rfl) ?_
  refine lv_iconst (v := 0) E.1.1 E.1.2.1 dL_setFlags_2 (by decide) ?_
  refine lv_aload_n E.1.1 E.1.2.1 dL_setFlags_3 rfl (hl.2.2 0 _ rfl) ?_
  refine lv_iload_n E.1.1 E.1.2.1 dL_setFlags_4 rfl (hl.2.2 1 _ rfl) ?_
  refine lv_iload_n E.1.1 E.1.2.1 dL_setFlags_5 rfl (hl.2.2 2 _ rfl) ?_
  refine lv_iload_n E.1.1 E.1.2.1 dL_setFlags_6 rfl (hl.2.2 3 _ rfl) ?_
  refine rL_ok (v := r) E (fun _ => c11_setFlags hfl hI h) gL_57 hX11_setFlags ⟨rfl, rfl⟩ ⟨Nat.le_of_ble_eq_true rfl, Nat.le_of_ble_eq_true rfl⟩ ⟨Nat.le_of_ble_eq_true rfl, Nat.le_of_ble_eq_true rfl⟩ rfl (lv := [some (.ref (ad 0)), some (.int p1), some (.int (rv_i p2)), some (.int (rv_i p3)), some (.ref o), none]) hl rfl (As := [.int p1, .int (rv_i p2), .int (rv_i p3)]) (rest := [.int 0, .ref o]) rfl (Nat.le_of_ble_eq_true rfl) dL_setFlags_7 (fun u H1 locs1 h0 hI' hs hG ho hS => ?_)
  refine lv_i2l E.1.1 E.1.2.1 dL_setFlags_10 rfl ?_
  exact rL_end E h0 hI' hs hG ho hS dL_setFlags_11 dL_setFlags_12 (pc2 := 23) (by decide) dL_setFlags_23 dL_setFlags_24
theorem wL_setFlags_x1 {l : Launch} {D : va_G} {cI cZ cO cJ : ClassId} {ad : Nat → Nat} {gh : rC_gh} {mi de o sz : Nat} {w : Int64} (hfl : l.stackTraces = false) (hI : rC_I ad gh) {M : rv_Mem} {p1 : Int32} {p2 : Bool} {p3 : Bool} {M1 : rv_Mem} (h : f11_setFlags gh M p1 p2 p3 = some (.inr (1, M1))) : Met l yL_setFlags wsL_setFlags rmL_setFlags (va_Pc [.ref (ad 0), .int p1, .int (rv_i p2), .int (rv_i p3), .ref o] (rL_P D cI cZ cO cJ ad gh mi de o sz M w)) (rL_qx D cI cZ cO cJ ad gh de o sz 1 M1 w) 2 12 (rL_A ad gh sz o) := by
  refine rL_met rfl (Nat.le_of_ble_eq_true rfl) (fun p e s m args below meth c ls S htab hret hlk hP hl => ?_)
  have hsz := hP.2.1
  subst hsz
  have E : rL_E D cI cZ cO cJ ad gh mi de o M w cL_setFlags 6 [(0, 12, 15, 13), (0, 12, 19, 25)] p l s m args meth c := ⟨S, hP, hI, hfl, htab, hret, hlk⟩
  change rv_has ls [some (.ref (ad 0)), some (.int p1), some (.int (rv_i p2)), some (.int (rv_i p3)), some (.ref o), none] at hl
  refine lv_aload E.1.1 E.1.2.1 dL_setFlags_0 (hl.2.2 4 _ rfl) ?_
  refine lv_iconst (v := 0) E.1.1 E.1.2.1 dL_setFlags_2 (by decide) ?_
  refine lv_aload_n E.1.1 E.1.2.1 dL_setFlags_3 rfl (hl.2.2 0 _ rfl) ?_
  refine lv_iload_n E.1.1 E.1.2.1 dL_setFlags_4 rfl (hl.2.2 1 _ rfl) ?_
  refine lv_iload_n E.1.1 E.1.2.1 dL_setFlags_5 rfl (hl.2.2 2 _ rfl) ?_
  refine lv_iload_n E.1.1 E.1.2.1 dL_setFlags_6 rfl (hl.2.2 3 _ rfl) ?_
  refine rL_ex (mk := true) (x := 1) E (fun _ => c11_setFlags_x hfl hI h) (Or.inl rfl) gL_57 hX11_setFlags ⟨rfl, rfl⟩ ⟨Nat.le_of_ble_eq_true rfl, Nat.le_of_ble_eq_true rfl⟩ ⟨Nat.le_of_ble_eq_true rfl, Nat.le_of_ble_eq_true rfl⟩ rfl (lv := [some (.ref (ad 0)), some (.int p1), some (.int (rv_i p2)), some (.int (rv_i p3)), some (.ref o), none]) hl rfl (As := [.int p1, .int (rv_i p2), .int (rv_i p3)]) (rest := [.int 0, .ref o]) rfl (Nat.le_of_ble_eq_true rfl) dL_setFlags_7 [] ⟨0, 12, 15, 13⟩ [⟨0, 12, 19, 25⟩] rfl (fun z hz => nomatch hz) rfl (by decide) (rv_al (rv_t2 (List.mem_of_getElem? (i := 87) rfl)) rfl) E.2.1.2.2.2.2.1.2.2.2.1 (fun q9 H1 locs1 hG ho hS => ?_)
  refine lv_astore E.1.1 E.1.2.1 dL_setFlags_15 (rv_has_k hl) (Nat.le_of_ble_eq_true rfl) rfl (fun ls' hl' => ?_)
  exact rL_endx E hG ho hS (by decide) dL_setFlags_17 dL_setFlags_18
theorem wL_setFlags_x3 {l : Launch} {D : va_G} {cI cZ cO cJ : ClassId} {ad : Nat → Nat} {gh : rC_gh} {mi de o sz : Nat} {w : Int64} (hfl : l.stackTraces = false) (hI : rC_I ad gh) {M : rv_Mem} {p1 : Int32} {p2 : Bool} {p3 : Bool} {M1 : rv_Mem} (h : f11_setFlags gh M p1 p2 p3 = some (.inr (3, M1))) : Met l yL_setFlags wsL_setFlags rmL_setFlags (va_Pc [.ref (ad 0), .int p1, .int (rv_i p2), .int (rv_i p3), .ref o] (rL_P D cI cZ cO cJ ad gh mi de o sz M w)) (rL_qx D cI cZ cO cJ ad gh de o sz 2 M1 w) 2 12 (rL_A ad gh sz o) := by
  refine rL_met rfl (Nat.le_of_ble_eq_true rfl) (fun p e s m args below meth c ls S htab hret hlk hP hl => ?_)
  have hsz := hP.2.1
  subst hsz
  have E : rL_E D cI cZ cO cJ ad gh mi de o M w cL_setFlags 6 [(0, 12, 15, 13), (0, 12, 19, 25)] p l s m args meth c := ⟨S, hP, hI, hfl, htab, hret, hlk⟩
  change rv_has ls [some (.ref (ad 0)), some (.int p1), some (.int (rv_i p2)), some (.int (rv_i p3)), some (.ref o), none] at hl
  refine lv_aload E.1.1 E.1.2.1 dL_setFlags_0 (hl.2.2 4 _ rfl) ?_
  refine lv_iconst (v := 0) E.1.1 E.1.2.1 dL_setFlags_2 (by decide) ?_
  refine lv_aload_n E.1.1 E.1.2.1 dL_setFlags_3 rfl (hl.2.2 0 _ rfl) ?_
  refine lv_iload_n E.1.1 E.1.2.1 dL_setFlags_4 rfl (hl.2.2 1 _ rfl) ?_
  refine lv_iload_n E.1.1 E.1.2.1 dL_setFlags_5 rfl (hl.2.2 2 _ rfl) ?_
  refine lv_iload_n E.1.1 E.1.2.1 dL_setFlags_6 rfl (hl.2.2 3 _ rfl) ?_
  refine rL_ex (mk := true) (x := 3) E (fun _ => c11_setFlags_x hfl hI h) (Or.inl rfl) gL_57 hX11_setFlags ⟨rfl, rfl⟩ ⟨Nat.le_of_ble_eq_true rfl, Nat.le_of_ble_eq_true rfl⟩ ⟨Nat.le_of_ble_eq_true rfl, Nat.le_of_ble_eq_true rfl⟩ rfl (lv := [some (.ref (ad 0)), some (.int p1), some (.int (rv_i p2)), some (.int (rv_i p3)), some (.ref o), none]) hl rfl (As := [.int p1, .int (rv_i p2), .int (rv_i p3)]) (rest := [.int 0, .ref o]) rfl (Nat.le_of_ble_eq_true rfl) dL_setFlags_7 [⟨0, 12, 15, 13⟩] ⟨0, 12, 19, 25⟩ [] rfl (fun z hz => by cases List.mem_singleton.mp hz; exact ⟨by decide, _, rv_al (rv_t2 (List.mem_of_getElem? (i := 87) rfl)) rfl, E.2.1.2.2.2.2.2.2.2.2.1.2.1⟩) rfl (by decide) (rv_al (rv_t3 (List.mem_of_getElem? (i := 1) rfl)) rfl) E.2.1.2.2.2.2.1.2.2.2.2.2.1 (fun q9 H1 locs1 hG ho hS => ?_)
  refine lv_astore E.1.1 E.1.2.1 dL_setFlags_19 (rv_has_k hl) (Nat.le_of_ble_eq_true rfl) rfl (fun ls' hl' => ?_)
  exact rL_endx E hG ho hS (by decide) dL_setFlags_21 dL_setFlags_22
theorem gL_61 : GoodIn rv_AL (wsV RL 61 RX11 yX11_setTopic (rv_ws yX11_setTopic cX11_setTopic 5 (some .int))) := rv_gV (rv_al (rv_t4 (List.mem_of_getElem? (i := 210) rfl)) rfl) (rv_al (rv_t4 (List.mem_of_getElem? (i := 211) rfl)) rfl) (rv_al (rv_t4 (List.mem_of_getElem? (i := 212) rfl)) rfl) (rv_al (rv_t1 (List.mem_of_getElem? (i := 1) rfl)) rfl) (rv_al (rv_t4 (List.mem_of_getElem? (i := 213) rfl)) rfl)
abbrev rmL_setTopic : Room := { frames := 8, cells := 2, slots := 12, locals := 146 }
abbrev wsL_setTopic : List Cond := Cond.codeWith yL_setTopic cL_setTopic 5 (some .int) [(0, 10, 13, 13), (0, 10, 17, 23)] :: rv_AL
theorem wL_setTopic {l : Launch} {D : va_G} {cI cZ cO cJ : ClassId} {ad : Nat → Nat} {gh : rC_gh} {mi de o sz : Nat} {w : Int64} (hfl : l.stackTraces = false) (hI : rC_I ad gh) {M : rv_Mem} {p1 : Int32} {p2 : Int32} {r : Int32} {M1 : rv_Mem} (h : f11_setTopic gh M p1 p2 = some (.inl (r, M1))) : Met l yL_setTopic wsL_setTopic rmL_setTopic (va_Pc [.ref (ad 0), .int p1, .int p2, .ref o] (rL_P D cI cZ cO cJ ad gh mi de o sz M w)) (rL_qo D cI cZ cO cJ ad gh de o sz gh M1 r.toInt64) 2 12 (rL_A ad gh sz o) := by
  refine rL_met rfl (Nat.le_of_ble_eq_true rfl) (fun p e s m args below meth c ls S htab hret hlk hP hl => ?_)
  have hsz := hP.2.1
  subst hsz
  have E : rL_E D cI cZ cO cJ ad gh mi de o M w cL_setTopic 5 [(0, 10, 13, 13), (0, 10, 17, 23)] p l s m args meth c := ⟨S, hP, hI, hfl, htab, hret, hlk⟩
  change rv_has ls [some (.ref (ad 0)), some (.int p1), some (.int p2), some (.ref o), none] at hl
  refine lv_aload_n E.1.1 E.1.2.1 dL_setTopic_0 rfl (hl.2.2 3 _ rfl) ?_
  refine lv_iconst (v := 0) E.1.1 E.1.2.1 dL_setTopic_1 (by decide) ?_
  refine lv_aload_n E.1.1 E.1.2.1 dL_setTopic_2 rfl (hl.2.2 0 _ rfl) ?_
  refine lv_iload_n E.1.1 E.1.2.1 dL_setTopic_3 rfl (hl.2.2 1 _ rfl) ?_
  refine lv_iload_n E.1.1 E.1.2.1 dL_setTopic_4 rfl (hl.2.2 2 _ rfl) ?_
  refine rL_ok (v := r) E (fun _ => c11_setTopic hfl hI h) gL_61 hX11_setTopic ⟨rfl, rfl⟩ ⟨Nat.le_of_ble_eq_true rfl, Nat.le_of_ble_eq_true rfl⟩ ⟨Nat.le_of_ble_eq_true rfl, Nat.le_of_ble_eq_true rfl⟩ rfl (lv := [some (.ref (ad 0)), some (.int p1), some (.int p2), some (.ref o), none]) hl rfl (As := [.int p1, .int p2]) (rest := [.int 0, .ref o]) rfl (Nat.le_of_ble_eq_true rfl) dL_setTopic_5 (fun u H1 locs1 h0 hI' hs hG ho hS => ?_)
  refine lv_i2l E.1.1 E.1.2.1 dL_setTopic_8 rfl ?_
  exact rL_end E h0 hI' hs hG ho hS dL_setTopic_9 dL_setTopic_10 (pc2 := 21) (by decide) dL_setTopic_21 dL_setTopic_22
theorem wL_setTopic_x1 {l : Launch} {D : va_G} {cI cZ cO cJ : ClassId} {ad : Nat → Nat} {gh : rC_gh} {mi de o sz : Nat} {w : Int64} (hfl : l.stackTraces = false) (hI : rC_I ad gh) {M : rv_Mem} {p1 : Int32} {p2 : Int32} {M1 : rv_Mem} (h : f11_setTopic gh M p1 p2 = some (.inr (1, M1))) : Met l yL_setTopic wsL_setTopic rmL_setTopic (va_Pc [.ref (ad 0), .int p1, .int p2, .ref o] (rL_P D cI cZ cO cJ ad gh mi de o sz M w)) (rL_qx D cI cZ cO cJ ad gh de o sz 1 M1 w) 2 12 (rL_A ad gh sz o) := by
  refine rL_met rfl (Nat.le_of_ble_eq_true rfl) (fun p e s m args below meth c ls S htab hret hlk hP hl => ?_)
  have hsz := hP.2.1
  subst hsz
  have E : rL_E D cI cZ cO cJ ad gh mi de o M w cL_setTopic 5 [(0, 10, 13, 13), (0, 10, 17, 23)] p l s m args meth c := ⟨S, hP, hI, hfl, htab, hret, hlk⟩
  change rv_has ls [some (.ref (ad 0)), some (.int p1), some (.int p2), some (.ref o), none] at hl
  refine lv_aload_n E.1.1 E.1.2.1 dL_setTopic_0 rfl (hl.2.2 3 _ rfl) ?_
  refine lv_iconst (v := 0) E.1.1 E.1.2.1 dL_setTopic_1 (by decide) ?_
  refine lv_aload_n E.1.1 E.1.2.1 dL_setTopic_2 rfl (hl.2.2 0 _ rfl) ?_
  refine lv_iload_n E.1.1 E.1.2.1 dL_setTopic_3 rfl (hl.2.2 1 _ rfl) ?_
  refine lv_iload_n E.1.1 E.1.2.1 dL_setTopic_4 rfl (hl.2.2 2 _ rfl) ?_
  refine rL_ex (mk := true) (x := 1) E (fun _ => c11_setTopic_x hfl hI h) (Or.inl rfl) gL_61 hX11_setTopic ⟨rfl, rfl⟩ ⟨Nat.le_of_ble_eq_true rfl, Nat.le_of_ble_eq_true rfl⟩ ⟨Nat.le_of_ble_eq_true rfl, Nat.le_of_ble_eq_true rfl⟩ rfl (lv := [some (.ref (ad 0)), some (.int p1), some (.int p2), some (.ref o), none]) hl rfl (As := [.int p1, .int p2]) (rest := [.int 0, .ref o]) rfl (Nat.le_of_ble_eq_true rfl) dL_setTopic_5 [] ⟨0, 10, 13, 13⟩ [⟨0, 10, 17, 23⟩] rfl (fun z hz => nomatch hz) rfl (by decide) (rv_al (rv_t2 (List.mem_of_getElem? (i := 87) rfl)) rfl) E.2.1.2.2.2.2.1.2.2.2.1 (fun q9 H1 locs1 hG ho hS => ?_)
  refine lv_astore E.1.1 E.1.2.1 dL_setTopic_13 (rv_has_k hl) (Nat.le_of_ble_eq_true rfl) rfl (fun ls' hl' => ?_)
  exact rL_endx E hG ho hS (by decide) dL_setTopic_15 dL_setTopic_16
theorem wL_setTopic_x2 {l : Launch} {D : va_G} {cI cZ cO cJ : ClassId} {ad : Nat → Nat} {gh : rC_gh} {mi de o sz : Nat} {w : Int64} (hfl : l.stackTraces = false) (hI : rC_I ad gh) {M : rv_Mem} {p1 : Int32} {p2 : Int32} {M1 : rv_Mem} (h : f11_setTopic gh M p1 p2 = some (.inr (2, M1))) : Met l yL_setTopic wsL_setTopic rmL_setTopic (va_Pc [.ref (ad 0), .int p1, .int p2, .ref o] (rL_P D cI cZ cO cJ ad gh mi de o sz M w)) (rL_qx D cI cZ cO cJ ad gh de o sz 2 M1 w) 2 12 (rL_A ad gh sz o) := by
  refine rL_met rfl (Nat.le_of_ble_eq_true rfl) (fun p e s m args below meth c ls S htab hret hlk hP hl => ?_)
  have hsz := hP.2.1
  subst hsz
  have E : rL_E D cI cZ cO cJ ad gh mi de o M w cL_setTopic 5 [(0, 10, 13, 13), (0, 10, 17, 23)] p l s m args meth c := ⟨S, hP, hI, hfl, htab, hret, hlk⟩
  change rv_has ls [some (.ref (ad 0)), some (.int p1), some (.int p2), some (.ref o), none] at hl
  refine lv_aload_n E.1.1 E.1.2.1 dL_setTopic_0 rfl (hl.2.2 3 _ rfl) ?_
  refine lv_iconst (v := 0) E.1.1 E.1.2.1 dL_setTopic_1 (by decide) ?_
  refine lv_aload_n E.1.1 E.1.2.1 dL_setTopic_2 rfl (hl.2.2 0 _ rfl) ?_
  refine lv_iload_n E.1.1 E.1.2.1 dL_setTopic_3 rfl (hl.2.2 1 _ rfl) ?_
  refine lv_iload_n E.1.1 E.1.2.1 dL_setTopic_4 rfl (hl.2.2 2 _ rfl) ?_
  refine rL_ex (mk := true) (x := 2) E (fun _ => c11_setTopic_x hfl hI h) (Or.inl rfl) gL_61 hX11_setTopic ⟨rfl, rfl⟩ ⟨Nat.le_of_ble_eq_true rfl, Nat.le_of_ble_eq_true rfl⟩ ⟨Nat.le_of_ble_eq_true rfl, Nat.le_of_ble_eq_true rfl⟩ rfl (lv := [some (.ref (ad 0)), some (.int p1), some (.int p2), some (.ref o), none]) hl rfl (As := [.int p1, .int p2]) (rest := [.int 0, .ref o]) rfl (Nat.le_of_ble_eq_true rfl) dL_setTopic_5 [⟨0, 10, 13, 13⟩] ⟨0, 10, 17, 23⟩ [] rfl (fun z hz => by cases List.mem_singleton.mp hz; exact ⟨by decide, _, rv_al (rv_t2 (List.mem_of_getElem? (i := 87) rfl)) rfl, E.2.1.2.2.2.2.2.2.2.2.1.1⟩) rfl (by decide) (rv_al (rv_t3 (List.mem_of_getElem? (i := 0) rfl)) rfl) E.2.1.2.2.2.2.1.2.2.2.2.1 (fun q9 H1 locs1 hG ho hS => ?_)
  refine lv_astore E.1.1 E.1.2.1 dL_setTopic_17 (rv_has_k hl) (Nat.le_of_ble_eq_true rfl) rfl (fun ls' hl' => ?_)
  exact rL_endx E hG ho hS (by decide) dL_setTopic_19 dL_setTopic_20
theorem gL_64 : GoodIn rv_AL (wsV RL 64 RX11 yX11_stateOf (rv_ws yX11_stateOf cX11_stateOf 2 (some .int))) := rv_gV (rv_al (rv_t4 (List.mem_of_getElem? (i := 218) rfl)) rfl) (rv_al (rv_t4 (List.mem_of_getElem? (i := 219) rfl)) rfl) (rv_al (rv_t4 (List.mem_of_getElem? (i := 220) rfl)) rfl) (rv_al (rv_t1 (List.mem_of_getElem? (i := 1) rfl)) rfl) (rv_al (rv_t4 (List.mem_of_getElem? (i := 221) rfl)) rfl)
abbrev rmL_stateOf : Room := { frames := 8, cells := 1, slots := 6, locals := 143 }
abbrev wsL_stateOf : List Cond := Cond.codeWith yL_stateOf cL_stateOf 4 (some .int) [(0, 9, 12, 13)] :: rv_AL
theorem wL_stateOf {l : Launch} {D : va_G} {cI cZ cO cJ : ClassId} {ad : Nat → Nat} {gh : rC_gh} {mi de o sz : Nat} {w : Int64} (hfl : l.stackTraces = false) (hI : rC_I ad gh) {M : rv_Mem} {p1 : Int32} {r : Int32} (h : f11_stateOf gh M p1 = some (.inl r)) : Met l yL_stateOf wsL_stateOf rmL_stateOf (va_Pc [.ref (ad 0), .int p1, .ref o] (rL_P D cI cZ cO cJ ad gh mi de o sz M w)) (rL_qo D cI cZ cO cJ ad gh de o sz gh M r.toInt64) 1 6 (rL_A ad gh sz o) := by
  refine rL_met rfl (Nat.le_of_ble_eq_true rfl) (fun p e s m args below meth c ls S htab hret hlk hP hl => ?_)
  have hsz := hP.2.1
  subst hsz
  have E : rL_E D cI cZ cO cJ ad gh mi de o M w cL_stateOf 4 [(0, 9, 12, 13)] p l s m args meth c := ⟨S, hP, hI, hfl, htab, hret, hlk⟩
  change rv_has ls [some (.ref (ad 0)), some (.int p1), some (.ref o), none] at hl
  refine lv_aload_n E.1.1 E.1.2.1 dL_stateOf_0 rfl (hl.2.2 2 _ rfl) ?_
  refine lv_iconst (v := 0) E.1.1 E.1.2.1 dL_stateOf_1 (by decide) ?_
  refine lv_aload_n E.1.1 E.1.2.1 dL_stateOf_2 rfl (hl.2.2 0 _ rfl) ?_
  refine lv_iload_n E.1.1 E.1.2.1 dL_stateOf_3 rfl (hl.2.2 1 _ rfl) ?_
  refine rL_ok (v := r) E (fun _ => c11_stateOf hfl hI h) gL_64 hX11_stateOf ⟨rfl, rfl⟩ ⟨Nat.le_of_ble_eq_true rfl, Nat.le_of_ble_eq_true rfl⟩ ⟨Nat.le_of_ble_eq_true rfl, Nat.le_of_ble_eq_true rfl⟩ rfl (lv := [some (.ref (ad 0)), some (.int p1), some (.ref o), none]) hl rfl (As := [.int p1]) (rest := [.int 0, .ref o]) rfl (Nat.le_of_ble_eq_true rfl) dL_stateOf_4 (fun u H1 locs1 h0 hI' hs hG ho hS => ?_)
  refine lv_i2l E.1.1 E.1.2.1 dL_stateOf_7 rfl ?_
  exact rL_end E h0 hI' hs hG ho hS dL_stateOf_8 dL_stateOf_9 (pc2 := 15) (by decide) dL_stateOf_15 dL_stateOf_16
theorem wL_stateOf_x1 {l : Launch} {D : va_G} {cI cZ cO cJ : ClassId} {ad : Nat → Nat} {gh : rC_gh} {mi de o sz : Nat} {w : Int64} (hfl : l.stackTraces = false) (hI : rC_I ad gh) {M : rv_Mem} {p1 : Int32} (h : f11_stateOf gh M p1 = some (.inr 1)) : Met l yL_stateOf wsL_stateOf rmL_stateOf (va_Pc [.ref (ad 0), .int p1, .ref o] (rL_P D cI cZ cO cJ ad gh mi de o sz M w)) (rL_qx D cI cZ cO cJ ad gh de o sz 1 M w) 1 6 (rL_A ad gh sz o) := by
  refine rL_met rfl (Nat.le_of_ble_eq_true rfl) (fun p e s m args below meth c ls S htab hret hlk hP hl => ?_)
  have hsz := hP.2.1
  subst hsz
  have E : rL_E D cI cZ cO cJ ad gh mi de o M w cL_stateOf 4 [(0, 9, 12, 13)] p l s m args meth c := ⟨S, hP, hI, hfl, htab, hret, hlk⟩
  change rv_has ls [some (.ref (ad 0)), some (.int p1), some (.ref o), none] at hl
  refine lv_aload_n E.1.1 E.1.2.1 dL_stateOf_0 rfl (hl.2.2 2 _ rfl) ?_
  refine lv_iconst (v := 0) E.1.1 E.1.2.1 dL_stateOf_1 (by decide) ?_
  refine lv_aload_n E.1.1 E.1.2.1 dL_stateOf_2 rfl (hl.2.2 0 _ rfl) ?_
  refine lv_iload_n E.1.1 E.1.2.1 dL_stateOf_3 rfl (hl.2.2 1 _ rfl) ?_
  refine rL_ex (mk := true) (x := 1) E (fun _ => c11_stateOf_x hfl hI h) (Or.inl rfl) gL_64 hX11_stateOf ⟨rfl, rfl⟩ ⟨Nat.le_of_ble_eq_true rfl, Nat.le_of_ble_eq_true rfl⟩ ⟨Nat.le_of_ble_eq_true rfl, Nat.le_of_ble_eq_true rfl⟩ rfl (lv := [some (.ref (ad 0)), some (.int p1), some (.ref o), none]) hl rfl (As := [.int p1]) (rest := [.int 0, .ref o]) rfl (Nat.le_of_ble_eq_true rfl) dL_stateOf_4 [] ⟨0, 9, 12, 13⟩ [] rfl (fun z hz => nomatch hz) rfl (by decide) (rv_al (rv_t2 (List.mem_of_getElem? (i := 87) rfl)) rfl) E.2.1.2.2.2.2.1.2.2.2.1 (fun q9 H1 locs1 hG ho hS => ?_)
  refine lv_astore_n E.1.1 E.1.2.1 dL_stateOf_12 rfl (rv_has_k hl) (Nat.le_of_ble_eq_true rfl) rfl (fun ls' hl' => ?_)
  exact rL_endx E hG ho hS (by decide) dL_stateOf_13 dL_stateOf_14
theorem gL_67 : GoodIn rv_AL (wsV RL 67 RX11 yX11_sets (rv_ws yX11_sets cX11_sets 2 (some .int))) := rv_gV (rv_al (rv_t4 (List.mem_of_getElem? (i := 225) rfl)) rfl) (rv_al (rv_t4 (List.mem_of_getElem? (i := 226) rfl)) rfl) (rv_al (rv_t4 (List.mem_of_getElem? (i := 227) rfl)) rfl) (rv_al (rv_t1 (List.mem_of_getElem? (i := 1) rfl)) rfl) (rv_al (rv_t4 (List.mem_of_getElem? (i := 228) rfl)) rfl)
abbrev rmL_sets : Room := { frames := 8, cells := 1, slots := 6, locals := 143 }
abbrev wsL_sets : List Cond := Cond.codeWith yL_sets cL_sets 4 (some .int) [(0, 9, 12, 13)] :: rv_AL
theorem wL_sets {l : Launch} {D : va_G} {cI cZ cO cJ : ClassId} {ad : Nat → Nat} {gh : rC_gh} {mi de o sz : Nat} {w : Int64} (hfl : l.stackTraces = false) (hI : rC_I ad gh) {M : rv_Mem} {p1 : Int32} {r : Int32} (h : f11_sets gh M p1 = some (.inl r)) : Met l yL_sets wsL_sets rmL_sets (va_Pc [.ref (ad 0), .int p1, .ref o] (rL_P D cI cZ cO cJ ad gh mi de o sz M w)) (rL_qo D cI cZ cO cJ ad gh de o sz gh M r.toInt64) 1 6 (rL_A ad gh sz o) := by
  refine rL_met rfl (Nat.le_of_ble_eq_true rfl) (fun p e s m args below meth c ls S htab hret hlk hP hl => ?_)
  have hsz := hP.2.1
  subst hsz
  have E : rL_E D cI cZ cO cJ ad gh mi de o M w cL_sets 4 [(0, 9, 12, 13)] p l s m args meth c := ⟨S, hP, hI, hfl, htab, hret, hlk⟩
  change rv_has ls [some (.ref (ad 0)), some (.int p1), some (.ref o), none] at hl
  refine lv_aload_n E.1.1 E.1.2.1 dL_sets_0 rfl (hl.2.2 2 _ rfl) ?_
  refine lv_iconst (v := 0) E.1.1 E.1.2.1 dL_sets_1 (by decide) ?_
  refine lv_aload_n E.1.1 E.1.2.1 dL_sets_2 rfl (hl.2.2 0 _ rfl) ?_
  refine lv_iload_n E.1.1 E.1.2.1 dL_sets_3 rfl (hl.2.2 1 _ rfl) ?_
  refine rL_ok (v := r) E (fun _ => c11_sets hfl hI h) gL_67 hX11_sets ⟨rfl, rfl⟩ ⟨Nat.le_of_ble_eq_true rfl, Nat.le_of_ble_eq_true rfl⟩ ⟨Nat.le_of_ble_eq_true rfl, Nat.le_of_ble_eq_true rfl⟩ rfl (lv := [some (.ref (ad 0)), some (.int p1), some (.ref o), none]) hl rfl (As := [.int p1]) (rest := [.int 0, .ref o]) rfl (Nat.le_of_ble_eq_true rfl) dL_sets_4 (fun u H1 locs1 h0 hI' hs hG ho hS => ?_)
  refine lv_i2l E.1.1 E.1.2.1 dL_sets_7 rfl ?_
  exact rL_end E h0 hI' hs hG ho hS dL_sets_8 dL_sets_9 (pc2 := 15) (by decide) dL_sets_15 dL_sets_16
theorem wL_sets_x1 {l : Launch} {D : va_G} {cI cZ cO cJ : ClassId} {ad : Nat → Nat} {gh : rC_gh} {mi de o sz : Nat} {w : Int64} (hfl : l.stackTraces = false) (hI : rC_I ad gh) {M : rv_Mem} {p1 : Int32} (h : f11_sets gh M p1 = some (.inr 1)) : Met l yL_sets wsL_sets rmL_sets (va_Pc [.ref (ad 0), .int p1, .ref o] (rL_P D cI cZ cO cJ ad gh mi de o sz M w)) (rL_qx D cI cZ cO cJ ad gh de o sz 1 M w) 1 6 (rL_A ad gh sz o) := by
  refine rL_met rfl (Nat.le_of_ble_eq_true rfl) (fun p e s m args below meth c ls S htab hret hlk hP hl => ?_)
  have hsz := hP.2.1
  subst hsz
  have E : rL_E D cI cZ cO cJ ad gh mi de o M w cL_sets 4 [(0, 9, 12, 13)] p l s m args meth c := ⟨S, hP, hI, hfl, htab, hret, hlk⟩
  change rv_has ls [some (.ref (ad 0)), some (.int p1), some (.ref o), none] at hl
  refine lv_aload_n E.1.1 E.1.2.1 dL_sets_0 rfl (hl.2.2 2 _ rfl) ?_
  refine lv_iconst (v := 0) E.1.1 E.1.2.1 dL_sets_1 (by decide) ?_
  refine lv_aload_n E.1.1 E.1.2.1 dL_sets_2 rfl (hl.2.2 0 _ rfl) ?_
  refine lv_iload_n E.1.1 E.1.2.1 dL_sets_3 rfl (hl.2.2 1 _ rfl) ?_
  refine rL_ex (mk := true) (x := 1) E (fun _ => c11_sets_x hfl hI h) (Or.inl rfl) gL_67 hX11_sets ⟨rfl, rfl⟩ ⟨Nat.le_of_ble_eq_true rfl, Nat.le_of_ble_eq_true rfl⟩ ⟨Nat.le_of_ble_eq_true rfl, Nat.le_of_ble_eq_true rfl⟩ rfl (lv := [some (.ref (ad 0)), some (.int p1), some (.ref o), none]) hl rfl (As := [.int p1]) (rest := [.int 0, .ref o]) rfl (Nat.le_of_ble_eq_true rfl) dL_sets_4 [] ⟨0, 9, 12, 13⟩ [] rfl (fun z hz => nomatch hz) rfl (by decide) (rv_al (rv_t2 (List.mem_of_getElem? (i := 87) rfl)) rfl) E.2.1.2.2.2.2.1.2.2.2.1 (fun q9 H1 locs1 hG ho hS => ?_)
  refine lv_astore_n E.1.1 E.1.2.1 dL_sets_12 rfl (rv_has_k hl) (Nat.le_of_ble_eq_true rfl) rfl (fun ls' hl' => ?_)
  exact rL_endx E hG ho hS (by decide) dL_sets_13 dL_sets_14
theorem gL_70 : GoodIn rv_AL (wsV RL 70 RX11 yX11_commitOf (rv_ws yX11_commitOf cX11_commitOf 3 (some .int))) := rv_gV (rv_al (rv_t4 (List.mem_of_getElem? (i := 232) rfl)) rfl) (rv_al (rv_t4 (List.mem_of_getElem? (i := 233) rfl)) rfl) (rv_al (rv_t4 (List.mem_of_getElem? (i := 234) rfl)) rfl) (rv_al (rv_t1 (List.mem_of_getElem? (i := 1) rfl)) rfl) (rv_al (rv_t4 (List.mem_of_getElem? (i := 235) rfl)) rfl)
abbrev rmL_commitOf : Room := { frames := 8, cells := 2, slots := 12, locals := 144 }
abbrev wsL_commitOf : List Cond := Cond.codeWith yL_commitOf cL_commitOf 5 (some .int) [(0, 10, 13, 13)] :: rv_AL
theorem wL_commitOf {l : Launch} {D : va_G} {cI cZ cO cJ : ClassId} {ad : Nat → Nat} {gh : rC_gh} {mi de o sz : Nat} {w : Int64} (hfl : l.stackTraces = false) (hI : rC_I ad gh) {M : rv_Mem} {p1 : Int32} {p2 : Int32} {r : Int32} (h : f11_commitOf gh M p1 p2 = some (.inl r)) : Met l yL_commitOf wsL_commitOf rmL_commitOf (va_Pc [.ref (ad 0), .int p1, .int p2, .ref o] (rL_P D cI cZ cO cJ ad gh mi de o sz M w)) (rL_qo D cI cZ cO cJ ad gh de o sz gh M r.toInt64) 2 12 (rL_A ad gh sz o) := by
  refine rL_met rfl (Nat.le_of_ble_eq_true rfl) (fun p e s m args below meth c ls S htab hret hlk hP hl => ?_)
  have hsz := hP.2.1
  subst hsz
  have E : rL_E D cI cZ cO cJ ad gh mi de o M w cL_commitOf 5 [(0, 10, 13, 13)] p l s m args meth c := ⟨S, hP, hI, hfl, htab, hret, hlk⟩
  change rv_has ls [some (.ref (ad 0)), some (.int p1), some (.int p2), some (.ref o), none] at hl
  refine lv_aload_n E.1.1 E.1.2.1 dL_commitOf_0 rfl (hl.2.2 3 _ rfl) ?_
  refine lv_iconst (v := 0) E.1.1 E.1.2.1 dL_commitOf_1 (by decide) ?_
  refine lv_aload_n E.1.1 E.1.2.1 dL_commitOf_2 rfl (hl.2.2 0 _ rfl) ?_
  refine lv_iload_n E.1.1 E.1.2.1 dL_commitOf_3 rfl (hl.2.2 1 _ rfl) ?_
  refine lv_iload_n E.1.1 E.1.2.1 dL_commitOf_4 rfl (hl.2.2 2 _ rfl) ?_
  refine rL_ok (v := r) E (fun _ => c11_commitOf hfl hI h) gL_70 hX11_commitOf ⟨rfl, rfl⟩ ⟨Nat.le_of_ble_eq_true rfl, Nat.le_of_ble_eq_true rfl⟩ ⟨Nat.le_of_ble_eq_true rfl, Nat.le_of_ble_eq_true rfl⟩ rfl (lv := [some (.ref (ad 0)), some (.int p1), some (.int p2), some (.ref o), none]) hl rfl (As := [.int p1, .int p2]) (rest := [.int 0, .ref o]) rfl (Nat.le_of_ble_eq_true rfl) dL_commitOf_5 (fun u H1 locs1 h0 hI' hs hG ho hS => ?_)
  refine lv_i2l E.1.1 E.1.2.1 dL_commitOf_8 rfl ?_
  exact rL_end E h0 hI' hs hG ho hS dL_commitOf_9 dL_commitOf_10 (pc2 := 17) (by decide) dL_commitOf_17 dL_commitOf_18
theorem wL_commitOf_x1 {l : Launch} {D : va_G} {cI cZ cO cJ : ClassId} {ad : Nat → Nat} {gh : rC_gh} {mi de o sz : Nat} {w : Int64} (hfl : l.stackTraces = false) (hI : rC_I ad gh) {M : rv_Mem} {p1 : Int32} {p2 : Int32} (h : f11_commitOf gh M p1 p2 = some (.inr 1)) : Met l yL_commitOf wsL_commitOf rmL_commitOf (va_Pc [.ref (ad 0), .int p1, .int p2, .ref o] (rL_P D cI cZ cO cJ ad gh mi de o sz M w)) (rL_qx D cI cZ cO cJ ad gh de o sz 1 M w) 2 12 (rL_A ad gh sz o) := by
  refine rL_met rfl (Nat.le_of_ble_eq_true rfl) (fun p e s m args below meth c ls S htab hret hlk hP hl => ?_)
  have hsz := hP.2.1
  subst hsz
  have E : rL_E D cI cZ cO cJ ad gh mi de o M w cL_commitOf 5 [(0, 10, 13, 13)] p l s m args meth c := ⟨S, hP, hI, hfl, htab, hret, hlk⟩
  change rv_has ls [some (.ref (ad 0)), some (.int p1), some (.int p2), some (.ref o), none] at hl
  refine lv_aload_n E.1.1 E.1.2.1 dL_commitOf_0 rfl (hl.2.2 3 _ rfl) ?_
  refine lv_iconst (v := 0) E.1.1 E.1.2.1 dL_commitOf_1 (by decide) ?_
  refine lv_aload_n E.1.1 E.1.2.1 dL_commitOf_2 rfl (hl.2.2 0 _ rfl) ?_
  refine lv_iload_n E.1.1 E.1.2.1 dL_commitOf_3 rfl (hl.2.2 1 _ rfl) ?_
  refine lv_iload_n E.1.1 E.1.2.1 dL_commitOf_4 rfl (hl.2.2 2 _ rfl) ?_
  refine rL_ex (mk := true) (x := 1) E (fun _ => c11_commitOf_x hfl hI h) (Or.inl rfl) gL_70 hX11_commitOf ⟨rfl, rfl⟩ ⟨Nat.le_of_ble_eq_true rfl, Nat.le_of_ble_eq_true rfl⟩ ⟨Nat.le_of_ble_eq_true rfl, Nat.le_of_ble_eq_true rfl⟩ rfl (lv := [some (.ref (ad 0)), some (.int p1), some (.int p2), some (.ref o), none]) hl rfl (As := [.int p1, .int p2]) (rest := [.int 0, .ref o]) rfl (Nat.le_of_ble_eq_true rfl) dL_commitOf_5 [] ⟨0, 10, 13, 13⟩ [] rfl (fun z hz => nomatch hz) rfl (by decide) (rv_al (rv_t2 (List.mem_of_getElem? (i := 87) rfl)) rfl) E.2.1.2.2.2.2.1.2.2.2.1 (fun q9 H1 locs1 hG ho hS => ?_)
  refine lv_astore E.1.1 E.1.2.1 dL_commitOf_13 (rv_has_k hl) (Nat.le_of_ble_eq_true rfl) rfl (fun ls' hl' => ?_)
  exact rL_endx E hG ho hS (by decide) dL_commitOf_15 dL_commitOf_16
theorem gL_73 : GoodIn rv_AL (wsV RL 73 RX11 yX11_kindOf (rv_ws yX11_kindOf cX11_kindOf 3 (some .int))) := rv_gV (rv_al (rv_t4 (List.mem_of_getElem? (i := 239) rfl)) rfl) (rv_al (rv_t5 (List.mem_of_getElem? (i := 0) rfl)) rfl) (rv_al (rv_t5 (List.mem_of_getElem? (i := 1) rfl)) rfl) (rv_al (rv_t1 (List.mem_of_getElem? (i := 1) rfl)) rfl) (rv_al (rv_t5 (List.mem_of_getElem? (i := 2) rfl)) rfl)
abbrev rmL_kindOf : Room := { frames := 8, cells := 2, slots := 12, locals := 144 }
abbrev wsL_kindOf : List Cond := Cond.codeWith yL_kindOf cL_kindOf 5 (some .int) [(0, 10, 13, 13)] :: rv_AL
theorem wL_kindOf {l : Launch} {D : va_G} {cI cZ cO cJ : ClassId} {ad : Nat → Nat} {gh : rC_gh} {mi de o sz : Nat} {w : Int64} (hfl : l.stackTraces = false) (hI : rC_I ad gh) {M : rv_Mem} {p1 : Int32} {p2 : Int32} {r : Int32} (h : f11_kindOf gh M p1 p2 = some (.inl r)) : Met l yL_kindOf wsL_kindOf rmL_kindOf (va_Pc [.ref (ad 0), .int p1, .int p2, .ref o] (rL_P D cI cZ cO cJ ad gh mi de o sz M w)) (rL_qo D cI cZ cO cJ ad gh de o sz gh M r.toInt64) 2 12 (rL_A ad gh sz o) := by
  refine rL_met rfl (Nat.le_of_ble_eq_true rfl) (fun p e s m args below meth c ls S htab hret hlk hP hl => ?_)
  have hsz := hP.2.1
  subst hsz
  have E : rL_E D cI cZ cO cJ ad gh mi de o M w cL_kindOf 5 [(0, 10, 13, 13)] p l s m args meth c := ⟨S, hP, hI, hfl, htab, hret, hlk⟩
  change rv_has ls [some (.ref (ad 0)), some (.int p1), some (.int p2), some (.ref o), none] at hl
  refine lv_aload_n E.1.1 E.1.2.1 dL_kindOf_0 rfl (hl.2.2 3 _ rfl) ?_
  refine lv_iconst (v := 0) E.1.1 E.1.2.1 dL_kindOf_1 (by decide) ?_
  refine lv_aload_n E.1.1 E.1.2.1 dL_kindOf_2 rfl (hl.2.2 0 _ rfl) ?_
  refine lv_iload_n E.1.1 E.1.2.1 dL_kindOf_3 rfl (hl.2.2 1 _ rfl) ?_
  refine lv_iload_n E.1.1 E.1.2.1 dL_kindOf_4 rfl (hl.2.2 2 _ rfl) ?_
  refine rL_ok (v := r) E (fun _ => c11_kindOf hfl hI h) gL_73 hX11_kindOf ⟨rfl, rfl⟩ ⟨Nat.le_of_ble_eq_true rfl, Nat.le_of_ble_eq_true rfl⟩ ⟨Nat.le_of_ble_eq_true rfl, Nat.le_of_ble_eq_true rfl⟩ rfl (lv := [some (.ref (ad 0)), some (.int p1), some (.int p2), some (.ref o), none]) hl rfl (As := [.int p1, .int p2]) (rest := [.int 0, .ref o]) rfl (Nat.le_of_ble_eq_true rfl) dL_kindOf_5 (fun u H1 locs1 h0 hI' hs hG ho hS => ?_)
  refine lv_i2l E.1.1 E.1.2.1 dL_kindOf_8 rfl ?_
  exact rL_end E h0 hI' hs hG ho hS dL_kindOf_9 dL_kindOf_10 (pc2 := 17) (by decide) dL_kindOf_17 dL_kindOf_18
theorem wL_kindOf_x1 {l : Launch} {D : va_G} {cI cZ cO cJ : ClassId} {ad : Nat → Nat} {gh : rC_gh} {mi de o sz : Nat} {w : Int64} (hfl : l.stackTraces = false) (hI : rC_I ad gh) {M : rv_Mem} {p1 : Int32} {p2 : Int32} (h : f11_kindOf gh M p1 p2 = some (.inr 1)) : Met l yL_kindOf wsL_kindOf rmL_kindOf (va_Pc [.ref (ad 0), .int p1, .int p2, .ref o] (rL_P D cI cZ cO cJ ad gh mi de o sz M w)) (rL_qx D cI cZ cO cJ ad gh de o sz 1 M w) 2 12 (rL_A ad gh sz o) := by
  refine rL_met rfl (Nat.le_of_ble_eq_true rfl) (fun p e s m args below meth c ls S htab hret hlk hP hl => ?_)
  have hsz := hP.2.1
  subst hsz
  have E : rL_E D cI cZ cO cJ ad gh mi de o M w cL_kindOf 5 [(0, 10, 13, 13)] p l s m args meth c := ⟨S, hP, hI, hfl, htab, hret, hlk⟩
  change rv_has ls [some (.ref (ad 0)), some (.int p1), some (.int p2), some (.ref o), none] at hl
  refine lv_aload_n E.1.1 E.1.2.1 dL_kindOf_0 rfl (hl.2.2 3 _ rfl) ?_
  refine lv_iconst (v := 0) E.1.1 E.1.2.1 dL_kindOf_1 (by decide) ?_
  refine lv_aload_n E.1.1 E.1.2.1 dL_kindOf_2 rfl (hl.2.2 0 _ rfl) ?_
  refine lv_iload_n E.1.1 E.1.2.1 dL_kindOf_3 rfl (hl.2.2 1 _ rfl) ?_
  refine lv_iload_n E.1.1 E.1.2.1 dL_kindOf_4 rfl (hl.2.2 2 _ rfl) ?_
  refine rL_ex (mk := true) (x := 1) E (fun _ => c11_kindOf_x hfl hI h) (Or.inl rfl) gL_73 hX11_kindOf ⟨rfl, rfl⟩ ⟨Nat.le_of_ble_eq_true rfl, Nat.le_of_ble_eq_true rfl⟩ ⟨Nat.le_of_ble_eq_true rfl, Nat.le_of_ble_eq_true rfl⟩ rfl (lv := [some (.ref (ad 0)), some (.int p1), some (.int p2), some (.ref o), none]) hl rfl (As := [.int p1, .int p2]) (rest := [.int 0, .ref o]) rfl (Nat.le_of_ble_eq_true rfl) dL_kindOf_5 [] ⟨0, 10, 13, 13⟩ [] rfl (fun z hz => nomatch hz) rfl (by decide) (rv_al (rv_t2 (List.mem_of_getElem? (i := 87) rfl)) rfl) E.2.1.2.2.2.2.1.2.2.2.1 (fun q9 H1 locs1 hG ho hS => ?_)
  refine lv_astore E.1.1 E.1.2.1 dL_kindOf_13 (rv_has_k hl) (Nat.le_of_ble_eq_true rfl) rfl (fun ls' hl' => ?_)
  exact rL_endx E hG ho hS (by decide) dL_kindOf_15 dL_kindOf_16
theorem gL_76 : GoodIn rv_AL (wsV RL 76 RX11 yX11_parentOf (rv_ws yX11_parentOf cX11_parentOf 3 (some .int))) := rv_gV (rv_al (rv_t5 (List.mem_of_getElem? (i := 7) rfl)) rfl) (rv_al (rv_t5 (List.mem_of_getElem? (i := 8) rfl)) rfl) (rv_al (rv_t5 (List.mem_of_getElem? (i := 9) rfl)) rfl) (rv_al (rv_t1 (List.mem_of_getElem? (i := 1) rfl)) rfl) (rv_al (rv_t5 (List.mem_of_getElem? (i := 10) rfl)) rfl)
abbrev rmL_parentOf : Room := { frames := 8, cells := 1, slots := 6, locals := 144 }
abbrev wsL_parentOf : List Cond := Cond.codeWith yL_parentOf cL_parentOf 4 (some .int) [(0, 9, 12, 13)] :: rv_AL
theorem wL_parentOf {l : Launch} {D : va_G} {cI cZ cO cJ : ClassId} {ad : Nat → Nat} {gh : rC_gh} {mi de o sz : Nat} {w : Int64} (hfl : l.stackTraces = false) (hI : rC_I ad gh) {M : rv_Mem} {p1 : Int32} {r : Int32} (h : f11_parentOf gh M p1 = some (.inl r)) : Met l yL_parentOf wsL_parentOf rmL_parentOf (va_Pc [.ref (ad 0), .int p1, .ref o] (rL_P D cI cZ cO cJ ad gh mi de o sz M w)) (rL_qo D cI cZ cO cJ ad gh de o sz gh M r.toInt64) 1 6 (rL_A ad gh sz o) := by
  refine rL_met rfl (Nat.le_of_ble_eq_true rfl) (fun p e s m args below meth c ls S htab hret hlk hP hl => ?_)
  have hsz := hP.2.1
  subst hsz
  have E : rL_E D cI cZ cO cJ ad gh mi de o M w cL_parentOf 4 [(0, 9, 12, 13)] p l s m args meth c := ⟨S, hP, hI, hfl, htab, hret, hlk⟩
  change rv_has ls [some (.ref (ad 0)), some (.int p1), some (.ref o), none] at hl
  refine lv_aload_n E.1.1 E.1.2.1 dL_parentOf_0 rfl (hl.2.2 2 _ rfl) ?_
  refine lv_iconst (v := 0) E.1.1 E.1.2.1 dL_parentOf_1 (by decide) ?_
  refine lv_aload_n E.1.1 E.1.2.1 dL_parentOf_2 rfl (hl.2.2 0 _ rfl) ?_
  refine lv_iload_n E.1.1 E.1.2.1 dL_parentOf_3 rfl (hl.2.2 1 _ rfl) ?_
  refine rL_ok (v := r) E (fun _ => c11_parentOf hfl hI h) gL_76 hX11_parentOf ⟨rfl, rfl⟩ ⟨Nat.le_of_ble_eq_true rfl, Nat.le_of_ble_eq_true rfl⟩ ⟨Nat.le_of_ble_eq_true rfl, Nat.le_of_ble_eq_true rfl⟩ rfl (lv := [some (.ref (ad 0)), some (.int p1), some (.ref o), none]) hl rfl (As := [.int p1]) (rest := [.int 0, .ref o]) rfl (Nat.le_of_ble_eq_true rfl) dL_parentOf_4 (fun u H1 locs1 h0 hI' hs hG ho hS => ?_)
  refine lv_i2l E.1.1 E.1.2.1 dL_parentOf_7 rfl ?_
  exact rL_end E h0 hI' hs hG ho hS dL_parentOf_8 dL_parentOf_9 (pc2 := 15) (by decide) dL_parentOf_15 dL_parentOf_16
theorem wL_parentOf_x1 {l : Launch} {D : va_G} {cI cZ cO cJ : ClassId} {ad : Nat → Nat} {gh : rC_gh} {mi de o sz : Nat} {w : Int64} (hfl : l.stackTraces = false) (hI : rC_I ad gh) {M : rv_Mem} {p1 : Int32} (h : f11_parentOf gh M p1 = some (.inr 1)) : Met l yL_parentOf wsL_parentOf rmL_parentOf (va_Pc [.ref (ad 0), .int p1, .ref o] (rL_P D cI cZ cO cJ ad gh mi de o sz M w)) (rL_qx D cI cZ cO cJ ad gh de o sz 1 M w) 1 6 (rL_A ad gh sz o) := by
  refine rL_met rfl (Nat.le_of_ble_eq_true rfl) (fun p e s m args below meth c ls S htab hret hlk hP hl => ?_)
  have hsz := hP.2.1
  subst hsz
  have E : rL_E D cI cZ cO cJ ad gh mi de o M w cL_parentOf 4 [(0, 9, 12, 13)] p l s m args meth c := ⟨S, hP, hI, hfl, htab, hret, hlk⟩
  change rv_has ls [some (.ref (ad 0)), some (.int p1), some (.ref o), none] at hl
  refine lv_aload_n E.1.1 E.1.2.1 dL_parentOf_0 rfl (hl.2.2 2 _ rfl) ?_
  refine lv_iconst (v := 0) E.1.1 E.1.2.1 dL_parentOf_1 (by decide) ?_
  refine lv_aload_n E.1.1 E.1.2.1 dL_parentOf_2 rfl (hl.2.2 0 _ rfl) ?_
  refine lv_iload_n E.1.1 E.1.2.1 dL_parentOf_3 rfl (hl.2.2 1 _ rfl) ?_
  refine rL_ex (mk := true) (x := 1) E (fun _ => c11_parentOf_x hfl hI h) (Or.inl rfl) gL_76 hX11_parentOf ⟨rfl, rfl⟩ ⟨Nat.le_of_ble_eq_true rfl, Nat.le_of_ble_eq_true rfl⟩ ⟨Nat.le_of_ble_eq_true rfl, Nat.le_of_ble_eq_true rfl⟩ rfl (lv := [some (.ref (ad 0)), some (.int p1), some (.ref o), none]) hl rfl (As := [.int p1]) (rest := [.int 0, .ref o]) rfl (Nat.le_of_ble_eq_true rfl) dL_parentOf_4 [] ⟨0, 9, 12, 13⟩ [] rfl (fun z hz => nomatch hz) rfl (by decide) (rv_al (rv_t2 (List.mem_of_getElem? (i := 87) rfl)) rfl) E.2.1.2.2.2.2.1.2.2.2.1 (fun q9 H1 locs1 hG ho hS => ?_)
  refine lv_astore_n E.1.1 E.1.2.1 dL_parentOf_12 rfl (rv_has_k hl) (Nat.le_of_ble_eq_true rfl) rfl (fun ls' hl' => ?_)
  exact rL_endx E hG ho hS (by decide) dL_parentOf_13 dL_parentOf_14
theorem gL_79 : GoodIn rv_AL (wsV RL 79 RX11 yX11_hunks (rv_ws yX11_hunks cX11_hunks 6 (some .int))) := rv_gV (rv_al (rv_t5 (List.mem_of_getElem? (i := 21) rfl)) rfl) (rv_al (rv_t5 (List.mem_of_getElem? (i := 22) rfl)) rfl) (rv_al (rv_t5 (List.mem_of_getElem? (i := 23) rfl)) rfl) (rv_al (rv_t1 (List.mem_of_getElem? (i := 1) rfl)) rfl) (rv_al (rv_t5 (List.mem_of_getElem? (i := 24) rfl)) rfl)
abbrev rmL_hunks : Room := { frames := 9, cells := 4, slots := 24, locals := 175 }
abbrev wsL_hunks : List Cond := Cond.codeWith yL_hunks cL_hunks 8 (some .int) [(0, 16, 19, 13)] :: rv_AL
theorem wL_hunks {l : Launch} {D : va_G} {cI cZ cO cJ : ClassId} {ad : Nat → Nat} {gh : rC_gh} {mi de o sz : Nat} {w : Int64} (hfl : l.stackTraces = false) (hI : rC_I ad gh) {M : rv_Mem} {p1 : Int32} {p2 : Int32} {p3 : Int32} {p4 : Int32} {p5 : Bool} {r : Int32} {M1 : rv_Mem} (h : f11_hunks gh M p1 p2 p3 p4 p5 = some (.inl (r, M1))) : Met l yL_hunks wsL_hunks rmL_hunks (va_Pc [.ref (ad 0), .int p1, .int p2, .int p3, .int p4, .int (rv_i p5), .ref o] (rL_P D cI cZ cO cJ ad gh mi de o sz M w)) (rL_qo D cI cZ cO cJ ad gh de o sz gh M1 r.toInt64) 4 24 (rL_A ad gh sz o) := by
  refine rL_met rfl (Nat.le_of_ble_eq_true rfl) (fun p e s m args below meth c ls S htab hret hlk hP hl => ?_)
  have hsz := hP.2.1
  subst hsz
  have E : rL_E D cI cZ cO cJ ad gh mi de o M w cL_hunks 8 [(0, 16, 19, 13)] p l s m args meth c := ⟨S, hP, hI, hfl, htab, hret, hlk⟩
  change rv_has ls [some (.ref (ad 0)), some (.int p1), some (.int p2), some (.int p3), some (.int p4), some (.int (rv_i p5)), some (.ref o), none] at hl
  refine lv_aload E.1.1 E.1.2.1 dL_hunks_0 (hl.2.2 6 _ rfl) ?_
  refine lv_iconst (v := 0) E.1.1 E.1.2.1 dL_hunks_2 (by decide) ?_
  refine lv_aload_n E.1.1 E.1.2.1 dL_hunks_3 rfl (hl.2.2 0 _ rfl) ?_
  refine lv_iload_n E.1.1 E.1.2.1 dL_hunks_4 rfl (hl.2.2 1 _ rfl) ?_
  refine lv_iload_n E.1.1 E.1.2.1 dL_hunks_5 rfl (hl.2.2 2 _ rfl) ?_
  refine lv_iload_n E.1.1 E.1.2.1 dL_hunks_6 rfl (hl.2.2 3 _ rfl) ?_
  refine lv_iload E.1.1 E.1.2.1 dL_hunks_7 (hl.2.2 4 _ rfl) ?_
  refine lv_iload E.1.1 E.1.2.1 dL_hunks_9 (hl.2.2 5 _ rfl) ?_
  refine rL_ok (v := r) E (fun _ => c11_hunks hfl hI h) gL_79 hX11_hunks ⟨rfl, rfl⟩ ⟨Nat.le_of_ble_eq_true rfl, Nat.le_of_ble_eq_true rfl⟩ ⟨Nat.le_of_ble_eq_true rfl, Nat.le_of_ble_eq_true rfl⟩ rfl (lv := [some (.ref (ad 0)), some (.int p1), some (.int p2), some (.int p3), some (.int p4), some (.int (rv_i p5)), some (.ref o), none]) hl rfl (As := [.int p1, .int p2, .int p3, .int p4, .int (rv_i p5)]) (rest := [.int 0, .ref o]) rfl (Nat.le_of_ble_eq_true rfl) dL_hunks_11 (fun u H1 locs1 h0 hI' hs hG ho hS => ?_)
  refine lv_i2l E.1.1 E.1.2.1 dL_hunks_14 rfl ?_
  exact rL_end E h0 hI' hs hG ho hS dL_hunks_15 dL_hunks_16 (pc2 := 23) (by decide) dL_hunks_23 dL_hunks_24
theorem wL_hunks_x1 {l : Launch} {D : va_G} {cI cZ cO cJ : ClassId} {ad : Nat → Nat} {gh : rC_gh} {mi de o sz : Nat} {w : Int64} (hfl : l.stackTraces = false) (hI : rC_I ad gh) {M : rv_Mem} {p1 : Int32} {p2 : Int32} {p3 : Int32} {p4 : Int32} {p5 : Bool} {M1 : rv_Mem} (h : f11_hunks gh M p1 p2 p3 p4 p5 = some (.inr (1, M1))) : Met l yL_hunks wsL_hunks rmL_hunks (va_Pc [.ref (ad 0), .int p1, .int p2, .int p3, .int p4, .int (rv_i p5), .ref o] (rL_P D cI cZ cO cJ ad gh mi de o sz M w)) (rL_qx D cI cZ cO cJ ad gh de o sz 1 M1 w) 4 24 (rL_A ad gh sz o) := by
  refine rL_met rfl (Nat.le_of_ble_eq_true rfl) (fun p e s m args below meth c ls S htab hret hlk hP hl => ?_)
  have hsz := hP.2.1
  subst hsz
  have E : rL_E D cI cZ cO cJ ad gh mi de o M w cL_hunks 8 [(0, 16, 19, 13)] p l s m args meth c := ⟨S, hP, hI, hfl, htab, hret, hlk⟩
  change rv_has ls [some (.ref (ad 0)), some (.int p1), some (.int p2), some (.int p3), some (.int p4), some (.int (rv_i p5)), some (.ref o), none] at hl
  refine lv_aload E.1.1 E.1.2.1 dL_hunks_0 (hl.2.2 6 _ rfl) ?_
  refine lv_iconst (v := 0) E.1.1 E.1.2.1 dL_hunks_2 (by decide) ?_
  refine lv_aload_n E.1.1 E.1.2.1 dL_hunks_3 rfl (hl.2.2 0 _ rfl) ?_
  refine lv_iload_n E.1.1 E.1.2.1 dL_hunks_4 rfl (hl.2.2 1 _ rfl) ?_
  refine lv_iload_n E.1.1 E.1.2.1 dL_hunks_5 rfl (hl.2.2 2 _ rfl) ?_
  refine lv_iload_n E.1.1 E.1.2.1 dL_hunks_6 rfl (hl.2.2 3 _ rfl) ?_
  refine lv_iload E.1.1 E.1.2.1 dL_hunks_7 (hl.2.2 4 _ rfl) ?_
  refine lv_iload E.1.1 E.1.2.1 dL_hunks_9 (hl.2.2 5 _ rfl) ?_
  refine rL_ex (mk := true) (x := 1) E (fun _ => c11_hunks_x hfl hI h) (Or.inl rfl) gL_79 hX11_hunks ⟨rfl, rfl⟩ ⟨Nat.le_of_ble_eq_true rfl, Nat.le_of_ble_eq_true rfl⟩ ⟨Nat.le_of_ble_eq_true rfl, Nat.le_of_ble_eq_true rfl⟩ rfl (lv := [some (.ref (ad 0)), some (.int p1), some (.int p2), some (.int p3), some (.int p4), some (.int (rv_i p5)), some (.ref o), none]) hl rfl (As := [.int p1, .int p2, .int p3, .int p4, .int (rv_i p5)]) (rest := [.int 0, .ref o]) rfl (Nat.le_of_ble_eq_true rfl) dL_hunks_11 [] ⟨0, 16, 19, 13⟩ [] rfl (fun z hz => nomatch hz) rfl (by decide) (rv_al (rv_t2 (List.mem_of_getElem? (i := 87) rfl)) rfl) E.2.1.2.2.2.2.1.2.2.2.1 (fun q9 H1 locs1 hG ho hS => ?_)
  refine lv_astore E.1.1 E.1.2.1 dL_hunks_19 (rv_has_k hl) (Nat.le_of_ble_eq_true rfl) rfl (fun ls' hl' => ?_)
  exact rL_endx E hG ho hS (by decide) dL_hunks_21 dL_hunks_22
theorem gL_83 : GoodIn rv_AL (wsV RL 83 RX11 yX11_hunkAt (rv_ws yX11_hunkAt cX11_hunkAt 8 (some .int))) := rv_gV (rv_al (rv_t5 (List.mem_of_getElem? (i := 40) rfl)) rfl) (rv_al (rv_t5 (List.mem_of_getElem? (i := 41) rfl)) rfl) (rv_al (rv_t5 (List.mem_of_getElem? (i := 42) rfl)) rfl) (rv_al (rv_t1 (List.mem_of_getElem? (i := 1) rfl)) rfl) (rv_al (rv_t5 (List.mem_of_getElem? (i := 43) rfl)) rfl)
abbrev rmL_hunkAt : Room := { frames := 9, cells := 5, slots := 30, locals := 177 }
abbrev wsL_hunkAt : List Cond := Cond.codeWith yL_hunkAt cL_hunkAt 9 (some .int) [(0, 18, 21, 13)] :: rv_AL
theorem wL_hunkAt {l : Launch} {D : va_G} {cI cZ cO cJ : ClassId} {ad : Nat → Nat} {gh : rC_gh} {mi de o sz : Nat} {w : Int64} (hfl : l.stackTraces = false) (hI : rC_I ad gh) {M : rv_Mem} {p1 : Int32} {p2 : Int32} {p3 : Int32} {p4 : Int32} {p5 : Bool} {p6 : Int32} {r : Int32} {M1 : rv_Mem} (h : f11_hunkAt gh M p1 p2 p3 p4 p5 p6 = some (.inl (r, M1))) : Met l yL_hunkAt wsL_hunkAt rmL_hunkAt (va_Pc [.ref (ad 0), .int p1, .int p2, .int p3, .int p4, .int (rv_i p5), .int p6, .ref o] (rL_P D cI cZ cO cJ ad gh mi de o sz M w)) (rL_qo D cI cZ cO cJ ad gh de o sz gh M1 r.toInt64) 5 30 (rL_A ad gh sz o) := by
  refine rL_met rfl (Nat.le_of_ble_eq_true rfl) (fun p e s m args below meth c ls S htab hret hlk hP hl => ?_)
  have hsz := hP.2.1
  subst hsz
  have E : rL_E D cI cZ cO cJ ad gh mi de o M w cL_hunkAt 9 [(0, 18, 21, 13)] p l s m args meth c := ⟨S, hP, hI, hfl, htab, hret, hlk⟩
  change rv_has ls [some (.ref (ad 0)), some (.int p1), some (.int p2), some (.int p3), some (.int p4), some (.int (rv_i p5)), some (.int p6), some (.ref o), none] at hl
  refine lv_aload E.1.1 E.1.2.1 dL_hunkAt_0 (hl.2.2 7 _ rfl) ?_
  refine lv_iconst (v := 0) E.1.1 E.1.2.1 dL_hunkAt_2 (by decide) ?_
  refine lv_aload_n E.1.1 E.1.2.1 dL_hunkAt_3 rfl (hl.2.2 0 _ rfl) ?_
  refine lv_iload_n E.1.1 E.1.2.1 dL_hunkAt_4 rfl (hl.2.2 1 _ rfl) ?_
  refine lv_iload_n E.1.1 E.1.2.1 dL_hunkAt_5 rfl (hl.2.2 2 _ rfl) ?_
  refine lv_iload_n E.1.1 E.1.2.1 dL_hunkAt_6 rfl (hl.2.2 3 _ rfl) ?_
  refine lv_iload E.1.1 E.1.2.1 dL_hunkAt_7 (hl.2.2 4 _ rfl) ?_
  refine lv_iload E.1.1 E.1.2.1 dL_hunkAt_9 (hl.2.2 5 _ rfl) ?_
  refine lv_iload E.1.1 E.1.2.1 dL_hunkAt_11 (hl.2.2 6 _ rfl) ?_
  refine rL_ok (v := r) E (fun _ => c11_hunkAt hfl hI h) gL_83 hX11_hunkAt ⟨rfl, rfl⟩ ⟨Nat.le_of_ble_eq_true rfl, Nat.le_of_ble_eq_true rfl⟩ ⟨Nat.le_of_ble_eq_true rfl, Nat.le_of_ble_eq_true rfl⟩ rfl (lv := [some (.ref (ad 0)), some (.int p1), some (.int p2), some (.int p3), some (.int p4), some (.int (rv_i p5)), some (.int p6), some (.ref o), none]) hl rfl (As := [.int p1, .int p2, .int p3, .int p4, .int (rv_i p5), .int p6]) (rest := [.int 0, .ref o]) rfl (Nat.le_of_ble_eq_true rfl) dL_hunkAt_13 (fun u H1 locs1 h0 hI' hs hG ho hS => ?_)
  refine lv_i2l E.1.1 E.1.2.1 dL_hunkAt_16 rfl ?_
  exact rL_end E h0 hI' hs hG ho hS dL_hunkAt_17 dL_hunkAt_18 (pc2 := 25) (by decide) dL_hunkAt_25 dL_hunkAt_26
theorem wL_hunkAt_x1 {l : Launch} {D : va_G} {cI cZ cO cJ : ClassId} {ad : Nat → Nat} {gh : rC_gh} {mi de o sz : Nat} {w : Int64} (hfl : l.stackTraces = false) (hI : rC_I ad gh) {M : rv_Mem} {p1 : Int32} {p2 : Int32} {p3 : Int32} {p4 : Int32} {p5 : Bool} {p6 : Int32} {M1 : rv_Mem} (h : f11_hunkAt gh M p1 p2 p3 p4 p5 p6 = some (.inr (1, M1))) : Met l yL_hunkAt wsL_hunkAt rmL_hunkAt (va_Pc [.ref (ad 0), .int p1, .int p2, .int p3, .int p4, .int (rv_i p5), .int p6, .ref o] (rL_P D cI cZ cO cJ ad gh mi de o sz M w)) (rL_qx D cI cZ cO cJ ad gh de o sz 1 M1 w) 5 30 (rL_A ad gh sz o) := by
  refine rL_met rfl (Nat.le_of_ble_eq_true rfl) (fun p e s m args below meth c ls S htab hret hlk hP hl => ?_)
  have hsz := hP.2.1
  subst hsz
  have E : rL_E D cI cZ cO cJ ad gh mi de o M w cL_hunkAt 9 [(0, 18, 21, 13)] p l s m args meth c := ⟨S, hP, hI, hfl, htab, hret, hlk⟩
  change rv_has ls [some (.ref (ad 0)), some (.int p1), some (.int p2), some (.int p3), some (.int p4), some (.int (rv_i p5)), some (.int p6), some (.ref o), none] at hl
  refine lv_aload E.1.1 E.1.2.1 dL_hunkAt_0 (hl.2.2 7 _ rfl) ?_
  refine lv_iconst (v := 0) E.1.1 E.1.2.1 dL_hunkAt_2 (by decide) ?_
  refine lv_aload_n E.1.1 E.1.2.1 dL_hunkAt_3 rfl (hl.2.2 0 _ rfl) ?_
  refine lv_iload_n E.1.1 E.1.2.1 dL_hunkAt_4 rfl (hl.2.2 1 _ rfl) ?_
  refine lv_iload_n E.1.1 E.1.2.1 dL_hunkAt_5 rfl (hl.2.2 2 _ rfl) ?_
  refine lv_iload_n E.1.1 E.1.2.1 dL_hunkAt_6 rfl (hl.2.2 3 _ rfl) ?_
  refine lv_iload E.1.1 E.1.2.1 dL_hunkAt_7 (hl.2.2 4 _ rfl) ?_
  refine lv_iload E.1.1 E.1.2.1 dL_hunkAt_9 (hl.2.2 5 _ rfl) ?_
  refine lv_iload E.1.1 E.1.2.1 dL_hunkAt_11 (hl.2.2 6 _ rfl) ?_
  refine rL_ex (mk := true) (x := 1) E (fun _ => c11_hunkAt_x hfl hI h) (Or.inl rfl) gL_83 hX11_hunkAt ⟨rfl, rfl⟩ ⟨Nat.le_of_ble_eq_true rfl, Nat.le_of_ble_eq_true rfl⟩ ⟨Nat.le_of_ble_eq_true rfl, Nat.le_of_ble_eq_true rfl⟩ rfl (lv := [some (.ref (ad 0)), some (.int p1), some (.int p2), some (.int p3), some (.int p4), some (.int (rv_i p5)), some (.int p6), some (.ref o), none]) hl rfl (As := [.int p1, .int p2, .int p3, .int p4, .int (rv_i p5), .int p6]) (rest := [.int 0, .ref o]) rfl (Nat.le_of_ble_eq_true rfl) dL_hunkAt_13 [] ⟨0, 18, 21, 13⟩ [] rfl (fun z hz => nomatch hz) rfl (by decide) (rv_al (rv_t2 (List.mem_of_getElem? (i := 87) rfl)) rfl) E.2.1.2.2.2.2.1.2.2.2.1 (fun q9 H1 locs1 hG ho hS => ?_)
  refine lv_astore E.1.1 E.1.2.1 dL_hunkAt_21 (rv_has_k hl) (Nat.le_of_ble_eq_true rfl) rfl (fun ls' hl' => ?_)
  exact rL_endx E hG ho hS (by decide) dL_hunkAt_23 dL_hunkAt_24
theorem gL_87 : GoodIn rv_AL (wsV RL 87 RX11 yX11_comment (rv_ws yX11_comment cX11_comment 11 (some .int))) := rv_gV (rv_al (rv_t5 (List.mem_of_getElem? (i := 54) rfl)) rfl) (rv_al (rv_t5 (List.mem_of_getElem? (i := 55) rfl)) rfl) (rv_al (rv_t5 (List.mem_of_getElem? (i := 56) rfl)) rfl) (rv_al (rv_t1 (List.mem_of_getElem? (i := 1) rfl)) rfl) (rv_al (rv_t5 (List.mem_of_getElem? (i := 57) rfl)) rfl)
abbrev rmL_comment : Room := { frames := 10, cells := 10, slots := 152, locals := 250 }
abbrev wsL_comment : List Cond := Cond.codeWith yL_comment cL_comment 10 (some .int) [(0, 20, 23, 13), (0, 20, 27, 23), (0, 20, 31, 25)] :: rv_AL
theorem wL_comment {l : Launch} {D : va_G} {cI cZ cO cJ : ClassId} {ad : Nat → Nat} {gh : rC_gh} {mi de o sz : Nat} {w : Int64} (hfl : l.stackTraces = false) (hI : rC_I ad gh) {M : rv_Mem} {p1 : Int32} {p2 : Int32} {p3 : Int32} {p4 : Int32} {p5 : Int32} {p6 : Int32} {p7 : Bool} {r : Int32} {gh' : rC_gh} {M1 : rv_Mem} (h : f11_comment gh M p1 p2 p3 p4 p5 p6 p7 = some (.inl (r, gh', M1))) : Met l yL_comment wsL_comment rmL_comment (va_Pc [.ref (ad 0), .int p1, .int p2, .int p3, .int p4, .int p5, .int p6, .int (rv_i p7), .ref o] (rL_P D cI cZ cO cJ ad gh mi de o sz M w)) (rL_qo D cI cZ cO cJ ad gh de o sz gh' M1 r.toInt64) 10 152 (rL_A ad gh sz o) := by
  refine rL_met rfl (Nat.le_of_ble_eq_true rfl) (fun p e s m args below meth c ls S htab hret hlk hP hl => ?_)
  have hsz := hP.2.1
  subst hsz
  have E : rL_E D cI cZ cO cJ ad gh mi de o M w cL_comment 10 [(0, 20, 23, 13), (0, 20, 27, 23), (0, 20, 31, 25)] p l s m args meth c := ⟨S, hP, hI, hfl, htab, hret, hlk⟩
  change rv_has ls [some (.ref (ad 0)), some (.int p1), some (.int p2), some (.int p3), some (.int p4), some (.int p5), some (.int p6), some (.int (rv_i p7)), some (.ref o), none] at hl
  refine lv_aload E.1.1 E.1.2.1 dL_comment_0 (hl.2.2 8 _ rfl) ?_
  refine lv_iconst (v := 0) E.1.1 E.1.2.1 dL_comment_2 (by decide) ?_
  refine lv_aload_n E.1.1 E.1.2.1 dL_comment_3 rfl (hl.2.2 0 _ rfl) ?_
  refine lv_iload_n E.1.1 E.1.2.1 dL_comment_4 rfl (hl.2.2 1 _ rfl) ?_
  refine lv_iload_n E.1.1 E.1.2.1 dL_comment_5 rfl (hl.2.2 2 _ rfl) ?_
  refine lv_iload_n E.1.1 E.1.2.1 dL_comment_6 rfl (hl.2.2 3 _ rfl) ?_
  refine lv_iload E.1.1 E.1.2.1 dL_comment_7 (hl.2.2 4 _ rfl) ?_
  refine lv_iload E.1.1 E.1.2.1 dL_comment_9 (hl.2.2 5 _ rfl) ?_
  refine lv_iload E.1.1 E.1.2.1 dL_comment_11 (hl.2.2 6 _ rfl) ?_
  refine lv_iload E.1.1 E.1.2.1 dL_comment_13 (hl.2.2 7 _ rfl) ?_
  refine rL_okM (v := r) E (fun _ => c11_comment hfl hI h) gL_87 hX11_comment ⟨rfl, rfl⟩ ⟨Nat.le_of_ble_eq_true rfl, Nat.le_of_ble_eq_true rfl⟩ ⟨Nat.le_of_ble_eq_true rfl, Nat.le_of_ble_eq_true rfl⟩ rfl (lv := [some (.ref (ad 0)), some (.int p1), some (.int p2), some (.int p3), some (.int p4), some (.int p5), some (.int p6), some (.int (rv_i p7)), some (.ref o), none]) hl rfl (As := [.int p1, .int p2, .int p3, .int p4, .int p5, .int p6, .int (rv_i p7)]) (rest := [.int 0, .ref o]) rfl (Nat.le_of_ble_eq_true rfl) dL_comment_15 (fun u H1 locs1 h0 hI' hs hG ho hS => ?_)
  refine lv_i2l E.1.1 E.1.2.1 dL_comment_18 rfl ?_
  exact rL_end E h0 hI' hs hG ho hS dL_comment_19 dL_comment_20 (pc2 := 35) (by decide) dL_comment_35 dL_comment_36
theorem wL_comment_x1 {l : Launch} {D : va_G} {cI cZ cO cJ : ClassId} {ad : Nat → Nat} {gh : rC_gh} {mi de o sz : Nat} {w : Int64} (hfl : l.stackTraces = false) (hI : rC_I ad gh) {M : rv_Mem} {p1 : Int32} {p2 : Int32} {p3 : Int32} {p4 : Int32} {p5 : Int32} {p6 : Int32} {p7 : Bool} (h : f11_comment gh M p1 p2 p3 p4 p5 p6 p7 = some (.inr 1)) : Met l yL_comment wsL_comment rmL_comment (va_Pc [.ref (ad 0), .int p1, .int p2, .int p3, .int p4, .int p5, .int p6, .int (rv_i p7), .ref o] (rL_P D cI cZ cO cJ ad gh mi de o sz M w)) (rL_qx D cI cZ cO cJ ad gh de o sz 1 M w) 10 152 (rL_A ad gh sz o) := by
  refine rL_met rfl (Nat.le_of_ble_eq_true rfl) (fun p e s m args below meth c ls S htab hret hlk hP hl => ?_)
  have hsz := hP.2.1
  subst hsz
  have E : rL_E D cI cZ cO cJ ad gh mi de o M w cL_comment 10 [(0, 20, 23, 13), (0, 20, 27, 23), (0, 20, 31, 25)] p l s m args meth c := ⟨S, hP, hI, hfl, htab, hret, hlk⟩
  change rv_has ls [some (.ref (ad 0)), some (.int p1), some (.int p2), some (.int p3), some (.int p4), some (.int p5), some (.int p6), some (.int (rv_i p7)), some (.ref o), none] at hl
  refine lv_aload E.1.1 E.1.2.1 dL_comment_0 (hl.2.2 8 _ rfl) ?_
  refine lv_iconst (v := 0) E.1.1 E.1.2.1 dL_comment_2 (by decide) ?_
  refine lv_aload_n E.1.1 E.1.2.1 dL_comment_3 rfl (hl.2.2 0 _ rfl) ?_
  refine lv_iload_n E.1.1 E.1.2.1 dL_comment_4 rfl (hl.2.2 1 _ rfl) ?_
  refine lv_iload_n E.1.1 E.1.2.1 dL_comment_5 rfl (hl.2.2 2 _ rfl) ?_
  refine lv_iload_n E.1.1 E.1.2.1 dL_comment_6 rfl (hl.2.2 3 _ rfl) ?_
  refine lv_iload E.1.1 E.1.2.1 dL_comment_7 (hl.2.2 4 _ rfl) ?_
  refine lv_iload E.1.1 E.1.2.1 dL_comment_9 (hl.2.2 5 _ rfl) ?_
  refine lv_iload E.1.1 E.1.2.1 dL_comment_11 (hl.2.2 6 _ rfl) ?_
  refine lv_iload E.1.1 E.1.2.1 dL_comment_13 (hl.2.2 7 _ rfl) ?_
  refine rL_ex (mk := true) (x := 1) E (fun _ => c11_comment_x hfl hI h) (Or.inr rfl) gL_87 hX11_comment ⟨rfl, rfl⟩ ⟨Nat.le_of_ble_eq_true rfl, Nat.le_of_ble_eq_true rfl⟩ ⟨Nat.le_of_ble_eq_true rfl, Nat.le_of_ble_eq_true rfl⟩ rfl (lv := [some (.ref (ad 0)), some (.int p1), some (.int p2), some (.int p3), some (.int p4), some (.int p5), some (.int p6), some (.int (rv_i p7)), some (.ref o), none]) hl rfl (As := [.int p1, .int p2, .int p3, .int p4, .int p5, .int p6, .int (rv_i p7)]) (rest := [.int 0, .ref o]) rfl (Nat.le_of_ble_eq_true rfl) dL_comment_15 [] ⟨0, 20, 23, 13⟩ [⟨0, 20, 27, 23⟩, ⟨0, 20, 31, 25⟩] rfl (fun z hz => nomatch hz) rfl (by decide) (rv_al (rv_t2 (List.mem_of_getElem? (i := 87) rfl)) rfl) E.2.1.2.2.2.2.1.2.2.2.1 (fun q9 H1 locs1 hG ho hS => ?_)
  refine lv_astore E.1.1 E.1.2.1 dL_comment_23 (rv_has_k hl) (Nat.le_of_ble_eq_true rfl) rfl (fun ls' hl' => ?_)
  exact rL_endx E hG ho hS (by decide) dL_comment_25 dL_comment_26
theorem wL_comment_x2 {l : Launch} {D : va_G} {cI cZ cO cJ : ClassId} {ad : Nat → Nat} {gh : rC_gh} {mi de o sz : Nat} {w : Int64} (hfl : l.stackTraces = false) (hI : rC_I ad gh) {M : rv_Mem} {p1 : Int32} {p2 : Int32} {p3 : Int32} {p4 : Int32} {p5 : Int32} {p6 : Int32} {p7 : Bool} (h : f11_comment gh M p1 p2 p3 p4 p5 p6 p7 = some (.inr 2)) : Met l yL_comment wsL_comment rmL_comment (va_Pc [.ref (ad 0), .int p1, .int p2, .int p3, .int p4, .int p5, .int p6, .int (rv_i p7), .ref o] (rL_P D cI cZ cO cJ ad gh mi de o sz M w)) (rL_qx D cI cZ cO cJ ad gh de o sz 2 M w) 10 152 (rL_A ad gh sz o) := by
  refine rL_met rfl (Nat.le_of_ble_eq_true rfl) (fun p e s m args below meth c ls S htab hret hlk hP hl => ?_)
  have hsz := hP.2.1
  subst hsz
  have E : rL_E D cI cZ cO cJ ad gh mi de o M w cL_comment 10 [(0, 20, 23, 13), (0, 20, 27, 23), (0, 20, 31, 25)] p l s m args meth c := ⟨S, hP, hI, hfl, htab, hret, hlk⟩
  change rv_has ls [some (.ref (ad 0)), some (.int p1), some (.int p2), some (.int p3), some (.int p4), some (.int p5), some (.int p6), some (.int (rv_i p7)), some (.ref o), none] at hl
  refine lv_aload E.1.1 E.1.2.1 dL_comment_0 (hl.2.2 8 _ rfl) ?_
  refine lv_iconst (v := 0) E.1.1 E.1.2.1 dL_comment_2 (by decide) ?_
  refine lv_aload_n E.1.1 E.1.2.1 dL_comment_3 rfl (hl.2.2 0 _ rfl) ?_
  refine lv_iload_n E.1.1 E.1.2.1 dL_comment_4 rfl (hl.2.2 1 _ rfl) ?_
  refine lv_iload_n E.1.1 E.1.2.1 dL_comment_5 rfl (hl.2.2 2 _ rfl) ?_
  refine lv_iload_n E.1.1 E.1.2.1 dL_comment_6 rfl (hl.2.2 3 _ rfl) ?_
  refine lv_iload E.1.1 E.1.2.1 dL_comment_7 (hl.2.2 4 _ rfl) ?_
  refine lv_iload E.1.1 E.1.2.1 dL_comment_9 (hl.2.2 5 _ rfl) ?_
  refine lv_iload E.1.1 E.1.2.1 dL_comment_11 (hl.2.2 6 _ rfl) ?_
  refine lv_iload E.1.1 E.1.2.1 dL_comment_13 (hl.2.2 7 _ rfl) ?_
  refine rL_ex (mk := true) (x := 2) E (fun _ => c11_comment_x hfl hI h) (Or.inr rfl) gL_87 hX11_comment ⟨rfl, rfl⟩ ⟨Nat.le_of_ble_eq_true rfl, Nat.le_of_ble_eq_true rfl⟩ ⟨Nat.le_of_ble_eq_true rfl, Nat.le_of_ble_eq_true rfl⟩ rfl (lv := [some (.ref (ad 0)), some (.int p1), some (.int p2), some (.int p3), some (.int p4), some (.int p5), some (.int p6), some (.int (rv_i p7)), some (.ref o), none]) hl rfl (As := [.int p1, .int p2, .int p3, .int p4, .int p5, .int p6, .int (rv_i p7)]) (rest := [.int 0, .ref o]) rfl (Nat.le_of_ble_eq_true rfl) dL_comment_15 [⟨0, 20, 23, 13⟩] ⟨0, 20, 27, 23⟩ [⟨0, 20, 31, 25⟩] rfl (fun z hz => by cases List.mem_singleton.mp hz; exact ⟨by decide, _, rv_al (rv_t2 (List.mem_of_getElem? (i := 87) rfl)) rfl, E.2.1.2.2.2.2.2.2.2.2.1.1⟩) rfl (by decide) (rv_al (rv_t3 (List.mem_of_getElem? (i := 0) rfl)) rfl) E.2.1.2.2.2.2.1.2.2.2.2.1 (fun q9 H1 locs1 hG ho hS => ?_)
  refine lv_astore E.1.1 E.1.2.1 dL_comment_27 (rv_has_k hl) (Nat.le_of_ble_eq_true rfl) rfl (fun ls' hl' => ?_)
  exact rL_endx E hG ho hS (by decide) dL_comment_29 dL_comment_30
theorem wL_comment_x3 {l : Launch} {D : va_G} {cI cZ cO cJ : ClassId} {ad : Nat → Nat} {gh : rC_gh} {mi de o sz : Nat} {w : Int64} (hfl : l.stackTraces = false) (hI : rC_I ad gh) {M : rv_Mem} {p1 : Int32} {p2 : Int32} {p3 : Int32} {p4 : Int32} {p5 : Int32} {p6 : Int32} {p7 : Bool} (h : f11_comment gh M p1 p2 p3 p4 p5 p6 p7 = some (.inr 3)) : Met l yL_comment wsL_comment rmL_comment (va_Pc [.ref (ad 0), .int p1, .int p2, .int p3, .int p4, .int p5, .int p6, .int (rv_i p7), .ref o] (rL_P D cI cZ cO cJ ad gh mi de o sz M w)) (rL_qx D cI cZ cO cJ ad gh de o sz 3 M w) 10 152 (rL_A ad gh sz o) := by
  refine rL_met rfl (Nat.le_of_ble_eq_true rfl) (fun p e s m args below meth c ls S htab hret hlk hP hl => ?_)
  have hsz := hP.2.1
  subst hsz
  have E : rL_E D cI cZ cO cJ ad gh mi de o M w cL_comment 10 [(0, 20, 23, 13), (0, 20, 27, 23), (0, 20, 31, 25)] p l s m args meth c := ⟨S, hP, hI, hfl, htab, hret, hlk⟩
  change rv_has ls [some (.ref (ad 0)), some (.int p1), some (.int p2), some (.int p3), some (.int p4), some (.int p5), some (.int p6), some (.int (rv_i p7)), some (.ref o), none] at hl
  refine lv_aload E.1.1 E.1.2.1 dL_comment_0 (hl.2.2 8 _ rfl) ?_
  refine lv_iconst (v := 0) E.1.1 E.1.2.1 dL_comment_2 (by decide) ?_
  refine lv_aload_n E.1.1 E.1.2.1 dL_comment_3 rfl (hl.2.2 0 _ rfl) ?_
  refine lv_iload_n E.1.1 E.1.2.1 dL_comment_4 rfl (hl.2.2 1 _ rfl) ?_
  refine lv_iload_n E.1.1 E.1.2.1 dL_comment_5 rfl (hl.2.2 2 _ rfl) ?_
  refine lv_iload_n E.1.1 E.1.2.1 dL_comment_6 rfl (hl.2.2 3 _ rfl) ?_
  refine lv_iload E.1.1 E.1.2.1 dL_comment_7 (hl.2.2 4 _ rfl) ?_
  refine lv_iload E.1.1 E.1.2.1 dL_comment_9 (hl.2.2 5 _ rfl) ?_
  refine lv_iload E.1.1 E.1.2.1 dL_comment_11 (hl.2.2 6 _ rfl) ?_
  refine lv_iload E.1.1 E.1.2.1 dL_comment_13 (hl.2.2 7 _ rfl) ?_
  refine rL_ex (mk := true) (x := 3) E (fun _ => c11_comment_x hfl hI h) (Or.inr rfl) gL_87 hX11_comment ⟨rfl, rfl⟩ ⟨Nat.le_of_ble_eq_true rfl, Nat.le_of_ble_eq_true rfl⟩ ⟨Nat.le_of_ble_eq_true rfl, Nat.le_of_ble_eq_true rfl⟩ rfl (lv := [some (.ref (ad 0)), some (.int p1), some (.int p2), some (.int p3), some (.int p4), some (.int p5), some (.int p6), some (.int (rv_i p7)), some (.ref o), none]) hl rfl (As := [.int p1, .int p2, .int p3, .int p4, .int p5, .int p6, .int (rv_i p7)]) (rest := [.int 0, .ref o]) rfl (Nat.le_of_ble_eq_true rfl) dL_comment_15 [⟨0, 20, 23, 13⟩, ⟨0, 20, 27, 23⟩] ⟨0, 20, 31, 25⟩ [] rfl (fun z hz => by rcases List.mem_cons.mp hz with rfl | hz; exact ⟨by decide, _, rv_al (rv_t2 (List.mem_of_getElem? (i := 87) rfl)) rfl, E.2.1.2.2.2.2.2.2.2.2.1.2.1⟩; cases List.mem_singleton.mp hz; exact ⟨by decide, _, rv_al (rv_t3 (List.mem_of_getElem? (i := 0) rfl)) rfl, E.2.1.2.2.2.2.2.2.2.2.1.2.2⟩) rfl (by decide) (rv_al (rv_t3 (List.mem_of_getElem? (i := 1) rfl)) rfl) E.2.1.2.2.2.2.1.2.2.2.2.2.1 (fun q9 H1 locs1 hG ho hS => ?_)
  refine lv_astore E.1.1 E.1.2.1 dL_comment_31 (rv_has_k hl) (Nat.le_of_ble_eq_true rfl) rfl (fun ls' hl' => ?_)
  exact rL_endx E hG ho hS (by decide) dL_comment_33 dL_comment_34
theorem gL_91 : GoodIn rv_AL (wsV RL 91 RX11 yX11_answer (rv_ws yX11_answer cX11_answer 5 (some .int))) := rv_gV (rv_al (rv_t5 (List.mem_of_getElem? (i := 128) rfl)) rfl) (rv_al (rv_t5 (List.mem_of_getElem? (i := 129) rfl)) rfl) (rv_al (rv_t5 (List.mem_of_getElem? (i := 130) rfl)) rfl) (rv_al (rv_t1 (List.mem_of_getElem? (i := 1) rfl)) rfl) (rv_al (rv_t5 (List.mem_of_getElem? (i := 131) rfl)) rfl)
abbrev rmL_answer : Room := { frames := 10, cells := 7, slots := 135, locals := 244 }
abbrev wsL_answer : List Cond := Cond.codeWith yL_answer cL_answer 6 (some .int) [(0, 12, 15, 13), (0, 12, 19, 25)] :: rv_AL
theorem wL_answer {l : Launch} {D : va_G} {cI cZ cO cJ : ClassId} {ad : Nat → Nat} {gh : rC_gh} {mi de o sz : Nat} {w : Int64} (hfl : l.stackTraces = false) (hI : rC_I ad gh) {M : rv_Mem} {p1 : Int32} {p2 : Int32} {p3 : Bool} {r : Int32} {gh' : rC_gh} {M1 : rv_Mem} (h : f11_answer gh M p1 p2 p3 = some (.inl (r, gh', M1))) : Met l yL_answer wsL_answer rmL_answer (va_Pc [.ref (ad 0), .int p1, .int p2, .int (rv_i p3), .ref o] (rL_P D cI cZ cO cJ ad gh mi de o sz M w)) (rL_qo D cI cZ cO cJ ad gh de o sz gh' M1 r.toInt64) 7 135 (rL_A ad gh sz o) := by
  refine rL_met rfl (Nat.le_of_ble_eq_true rfl) (fun p e s m args below meth c ls S htab hret hlk hP hl => ?_)
  have hsz := hP.2.1
  subst hsz
  have E : rL_E D cI cZ cO cJ ad gh mi de o M w cL_answer 6 [(0, 12, 15, 13), (0, 12, 19, 25)] p l s m args meth c := ⟨S, hP, hI, hfl, htab, hret, hlk⟩
  change rv_has ls [some (.ref (ad 0)), some (.int p1), some (.int p2), some (.int (rv_i p3)), some (.ref o), none] at hl
  refine lv_aload E.1.1 E.1.2.1 dL_answer_0 (hl.2.2 4 _ rfl) ?_
  refine lv_iconst (v := 0) E.1.1 E.1.2.1 dL_answer_2 (by decide) ?_
  refine lv_aload_n E.1.1 E.1.2.1 dL_answer_3 rfl (hl.2.2 0 _ rfl) ?_
  refine lv_iload_n E.1.1 E.1.2.1 dL_answer_4 rfl (hl.2.2 1 _ rfl) ?_
  refine lv_iload_n E.1.1 E.1.2.1 dL_answer_5 rfl (hl.2.2 2 _ rfl) ?_
  refine lv_iload_n E.1.1 E.1.2.1 dL_answer_6 rfl (hl.2.2 3 _ rfl) ?_
  refine rL_okM (v := r) E (fun _ => c11_answer hfl hI h) gL_91 hX11_answer ⟨rfl, rfl⟩ ⟨Nat.le_of_ble_eq_true rfl, Nat.le_of_ble_eq_true rfl⟩ ⟨Nat.le_of_ble_eq_true rfl, Nat.le_of_ble_eq_true rfl⟩ rfl (lv := [some (.ref (ad 0)), some (.int p1), some (.int p2), some (.int (rv_i p3)), some (.ref o), none]) hl rfl (As := [.int p1, .int p2, .int (rv_i p3)]) (rest := [.int 0, .ref o]) rfl (Nat.le_of_ble_eq_true rfl) dL_answer_7 (fun u H1 locs1 h0 hI' hs hG ho hS => ?_)
  refine lv_i2l E.1.1 E.1.2.1 dL_answer_10 rfl ?_
  exact rL_end E h0 hI' hs hG ho hS dL_answer_11 dL_answer_12 (pc2 := 23) (by decide) dL_answer_23 dL_answer_24
theorem wL_answer_x1 {l : Launch} {D : va_G} {cI cZ cO cJ : ClassId} {ad : Nat → Nat} {gh : rC_gh} {mi de o sz : Nat} {w : Int64} (hfl : l.stackTraces = false) (hI : rC_I ad gh) {M : rv_Mem} {p1 : Int32} {p2 : Int32} {p3 : Bool} (h : f11_answer gh M p1 p2 p3 = some (.inr 1)) : Met l yL_answer wsL_answer rmL_answer (va_Pc [.ref (ad 0), .int p1, .int p2, .int (rv_i p3), .ref o] (rL_P D cI cZ cO cJ ad gh mi de o sz M w)) (rL_qx D cI cZ cO cJ ad gh de o sz 1 M w) 7 135 (rL_A ad gh sz o) := by
  refine rL_met rfl (Nat.le_of_ble_eq_true rfl) (fun p e s m args below meth c ls S htab hret hlk hP hl => ?_)
  have hsz := hP.2.1
  subst hsz
  have E : rL_E D cI cZ cO cJ ad gh mi de o M w cL_answer 6 [(0, 12, 15, 13), (0, 12, 19, 25)] p l s m args meth c := ⟨S, hP, hI, hfl, htab, hret, hlk⟩
  change rv_has ls [some (.ref (ad 0)), some (.int p1), some (.int p2), some (.int (rv_i p3)), some (.ref o), none] at hl
  refine lv_aload E.1.1 E.1.2.1 dL_answer_0 (hl.2.2 4 _ rfl) ?_
  refine lv_iconst (v := 0) E.1.1 E.1.2.1 dL_answer_2 (by decide) ?_
  refine lv_aload_n E.1.1 E.1.2.1 dL_answer_3 rfl (hl.2.2 0 _ rfl) ?_
  refine lv_iload_n E.1.1 E.1.2.1 dL_answer_4 rfl (hl.2.2 1 _ rfl) ?_
  refine lv_iload_n E.1.1 E.1.2.1 dL_answer_5 rfl (hl.2.2 2 _ rfl) ?_
  refine lv_iload_n E.1.1 E.1.2.1 dL_answer_6 rfl (hl.2.2 3 _ rfl) ?_
  refine rL_ex (mk := true) (x := 1) E (fun _ => c11_answer_x hfl hI h) (Or.inr rfl) gL_91 hX11_answer ⟨rfl, rfl⟩ ⟨Nat.le_of_ble_eq_true rfl, Nat.le_of_ble_eq_true rfl⟩ ⟨Nat.le_of_ble_eq_true rfl, Nat.le_of_ble_eq_true rfl⟩ rfl (lv := [some (.ref (ad 0)), some (.int p1), some (.int p2), some (.int (rv_i p3)), some (.ref o), none]) hl rfl (As := [.int p1, .int p2, .int (rv_i p3)]) (rest := [.int 0, .ref o]) rfl (Nat.le_of_ble_eq_true rfl) dL_answer_7 [] ⟨0, 12, 15, 13⟩ [⟨0, 12, 19, 25⟩] rfl (fun z hz => nomatch hz) rfl (by decide) (rv_al (rv_t2 (List.mem_of_getElem? (i := 87) rfl)) rfl) E.2.1.2.2.2.2.1.2.2.2.1 (fun q9 H1 locs1 hG ho hS => ?_)
  refine lv_astore E.1.1 E.1.2.1 dL_answer_15 (rv_has_k hl) (Nat.le_of_ble_eq_true rfl) rfl (fun ls' hl' => ?_)
  exact rL_endx E hG ho hS (by decide) dL_answer_17 dL_answer_18
theorem wL_answer_x3 {l : Launch} {D : va_G} {cI cZ cO cJ : ClassId} {ad : Nat → Nat} {gh : rC_gh} {mi de o sz : Nat} {w : Int64} (hfl : l.stackTraces = false) (hI : rC_I ad gh) {M : rv_Mem} {p1 : Int32} {p2 : Int32} {p3 : Bool} (h : f11_answer gh M p1 p2 p3 = some (.inr 3)) : Met l yL_answer wsL_answer rmL_answer (va_Pc [.ref (ad 0), .int p1, .int p2, .int (rv_i p3), .ref o] (rL_P D cI cZ cO cJ ad gh mi de o sz M w)) (rL_qx D cI cZ cO cJ ad gh de o sz 2 M w) 7 135 (rL_A ad gh sz o) := by
  refine rL_met rfl (Nat.le_of_ble_eq_true rfl) (fun p e s m args below meth c ls S htab hret hlk hP hl => ?_)
  have hsz := hP.2.1
  subst hsz
  have E : rL_E D cI cZ cO cJ ad gh mi de o M w cL_answer 6 [(0, 12, 15, 13), (0, 12, 19, 25)] p l s m args meth c := ⟨S, hP, hI, hfl, htab, hret, hlk⟩
  change rv_has ls [some (.ref (ad 0)), some (.int p1), some (.int p2), some (.int (rv_i p3)), some (.ref o), none] at hl
  refine lv_aload E.1.1 E.1.2.1 dL_answer_0 (hl.2.2 4 _ rfl) ?_
  refine lv_iconst (v := 0) E.1.1 E.1.2.1 dL_answer_2 (by decide) ?_
  refine lv_aload_n E.1.1 E.1.2.1 dL_answer_3 rfl (hl.2.2 0 _ rfl) ?_
  refine lv_iload_n E.1.1 E.1.2.1 dL_answer_4 rfl (hl.2.2 1 _ rfl) ?_
  refine lv_iload_n E.1.1 E.1.2.1 dL_answer_5 rfl (hl.2.2 2 _ rfl) ?_
  refine lv_iload_n E.1.1 E.1.2.1 dL_answer_6 rfl (hl.2.2 3 _ rfl) ?_
  refine rL_ex (mk := true) (x := 3) E (fun _ => c11_answer_x hfl hI h) (Or.inr rfl) gL_91 hX11_answer ⟨rfl, rfl⟩ ⟨Nat.le_of_ble_eq_true rfl, Nat.le_of_ble_eq_true rfl⟩ ⟨Nat.le_of_ble_eq_true rfl, Nat.le_of_ble_eq_true rfl⟩ rfl (lv := [some (.ref (ad 0)), some (.int p1), some (.int p2), some (.int (rv_i p3)), some (.ref o), none]) hl rfl (As := [.int p1, .int p2, .int (rv_i p3)]) (rest := [.int 0, .ref o]) rfl (Nat.le_of_ble_eq_true rfl) dL_answer_7 [⟨0, 12, 15, 13⟩] ⟨0, 12, 19, 25⟩ [] rfl (fun z hz => by cases List.mem_singleton.mp hz; exact ⟨by decide, _, rv_al (rv_t2 (List.mem_of_getElem? (i := 87) rfl)) rfl, E.2.1.2.2.2.2.2.2.2.2.1.2.1⟩) rfl (by decide) (rv_al (rv_t3 (List.mem_of_getElem? (i := 1) rfl)) rfl) E.2.1.2.2.2.2.1.2.2.2.2.2.1 (fun q9 H1 locs1 hG ho hS => ?_)
  refine lv_astore E.1.1 E.1.2.1 dL_answer_19 (rv_has_k hl) (Nat.le_of_ble_eq_true rfl) rfl (fun ls' hl' => ?_)
  exact rL_endx E hG ho hS (by decide) dL_answer_21 dL_answer_22
theorem gL_95 : GoodIn rv_AL (wsV RL 95 RX11 yX11_publish (rv_ws yX11_publish cX11_publish 7 (some .int))) := rv_gV (rv_al (rv_t5 (List.mem_of_getElem? (i := 141) rfl)) rfl) (rv_al (rv_t5 (List.mem_of_getElem? (i := 142) rfl)) rfl) (rv_al (rv_t5 (List.mem_of_getElem? (i := 143) rfl)) rfl) (rv_al (rv_t1 (List.mem_of_getElem? (i := 1) rfl)) rfl) (rv_al (rv_t5 (List.mem_of_getElem? (i := 144) rfl)) rfl)
abbrev rmL_publish : Room := { frames := 8, cells := 4, slots := 24, locals := 148 }
abbrev wsL_publish : List Cond := Cond.codeWith yL_publish cL_publish 5 (some .int) [(0, 10, 13, 13), (0, 10, 17, 25)] :: rv_AL
theorem wL_publish {l : Launch} {D : va_G} {cI cZ cO cJ : ClassId} {ad : Nat → Nat} {gh : rC_gh} {mi de o sz : Nat} {w : Int64} (hfl : l.stackTraces = false) (hI : rC_I ad gh) {M : rv_Mem} {p1 : Int32} {p2 : Int32} {r : Int32} {M1 : rv_Mem} (h : f11_publish gh M p1 p2 = some (.inl (r, M1))) : Met l yL_publish wsL_publish rmL_publish (va_Pc [.ref (ad 0), .int p1, .int p2, .ref o] (rL_P D cI cZ cO cJ ad gh mi de o sz M w)) (rL_qo D cI cZ cO cJ ad gh de o sz gh M1 r.toInt64) 4 24 (rL_A ad gh sz o) := by
  refine rL_met rfl (Nat.le_of_ble_eq_true rfl) (fun p e s m args below meth c ls S htab hret hlk hP hl => ?_)
  have hsz := hP.2.1
  subst hsz
  have E : rL_E D cI cZ cO cJ ad gh mi de o M w cL_publish 5 [(0, 10, 13, 13), (0, 10, 17, 25)] p l s m args meth c := ⟨S, hP, hI, hfl, htab, hret, hlk⟩
  change rv_has ls [some (.ref (ad 0)), some (.int p1), some (.int p2), some (.ref o), none] at hl
  refine lv_aload_n E.1.1 E.1.2.1 dL_publish_0 rfl (hl.2.2 3 _ rfl) ?_
  refine lv_iconst (v := 0) E.1.1 E.1.2.1 dL_publish_1 (by decide) ?_
  refine lv_aload_n E.1.1 E.1.2.1 dL_publish_2 rfl (hl.2.2 0 _ rfl) ?_
  refine lv_iload_n E.1.1 E.1.2.1 dL_publish_3 rfl (hl.2.2 1 _ rfl) ?_
  refine lv_iload_n E.1.1 E.1.2.1 dL_publish_4 rfl (hl.2.2 2 _ rfl) ?_
  refine rL_ok (v := r) E (fun _ => c11_publish hfl hI h) gL_95 hX11_publish ⟨rfl, rfl⟩ ⟨Nat.le_of_ble_eq_true rfl, Nat.le_of_ble_eq_true rfl⟩ ⟨Nat.le_of_ble_eq_true rfl, Nat.le_of_ble_eq_true rfl⟩ rfl (lv := [some (.ref (ad 0)), some (.int p1), some (.int p2), some (.ref o), none]) hl rfl (As := [.int p1, .int p2]) (rest := [.int 0, .ref o]) rfl (Nat.le_of_ble_eq_true rfl) dL_publish_5 (fun u H1 locs1 h0 hI' hs hG ho hS => ?_)
  refine lv_i2l E.1.1 E.1.2.1 dL_publish_8 rfl ?_
  exact rL_end E h0 hI' hs hG ho hS dL_publish_9 dL_publish_10 (pc2 := 21) (by decide) dL_publish_21 dL_publish_22
theorem wL_publish_x1 {l : Launch} {D : va_G} {cI cZ cO cJ : ClassId} {ad : Nat → Nat} {gh : rC_gh} {mi de o sz : Nat} {w : Int64} (hfl : l.stackTraces = false) (hI : rC_I ad gh) {M : rv_Mem} {p1 : Int32} {p2 : Int32} {M1 : rv_Mem} (h : f11_publish gh M p1 p2 = some (.inr (1, M1))) : Met l yL_publish wsL_publish rmL_publish (va_Pc [.ref (ad 0), .int p1, .int p2, .ref o] (rL_P D cI cZ cO cJ ad gh mi de o sz M w)) (rL_qx D cI cZ cO cJ ad gh de o sz 1 M1 w) 4 24 (rL_A ad gh sz o) := by
  refine rL_met rfl (Nat.le_of_ble_eq_true rfl) (fun p e s m args below meth c ls S htab hret hlk hP hl => ?_)
  have hsz := hP.2.1
  subst hsz
  have E : rL_E D cI cZ cO cJ ad gh mi de o M w cL_publish 5 [(0, 10, 13, 13), (0, 10, 17, 25)] p l s m args meth c := ⟨S, hP, hI, hfl, htab, hret, hlk⟩
  change rv_has ls [some (.ref (ad 0)), some (.int p1), some (.int p2), some (.ref o), none] at hl
  refine lv_aload_n E.1.1 E.1.2.1 dL_publish_0 rfl (hl.2.2 3 _ rfl) ?_
  refine lv_iconst (v := 0) E.1.1 E.1.2.1 dL_publish_1 (by decide) ?_
  refine lv_aload_n E.1.1 E.1.2.1 dL_publish_2 rfl (hl.2.2 0 _ rfl) ?_
  refine lv_iload_n E.1.1 E.1.2.1 dL_publish_3 rfl (hl.2.2 1 _ rfl) ?_
  refine lv_iload_n E.1.1 E.1.2.1 dL_publish_4 rfl (hl.2.2 2 _ rfl) ?_
  refine rL_ex (mk := true) (x := 1) E (fun _ => c11_publish_x hfl hI h) (Or.inl rfl) gL_95 hX11_publish ⟨rfl, rfl⟩ ⟨Nat.le_of_ble_eq_true rfl, Nat.le_of_ble_eq_true rfl⟩ ⟨Nat.le_of_ble_eq_true rfl, Nat.le_of_ble_eq_true rfl⟩ rfl (lv := [some (.ref (ad 0)), some (.int p1), some (.int p2), some (.ref o), none]) hl rfl (As := [.int p1, .int p2]) (rest := [.int 0, .ref o]) rfl (Nat.le_of_ble_eq_true rfl) dL_publish_5 [] ⟨0, 10, 13, 13⟩ [⟨0, 10, 17, 25⟩] rfl (fun z hz => nomatch hz) rfl (by decide) (rv_al (rv_t2 (List.mem_of_getElem? (i := 87) rfl)) rfl) E.2.1.2.2.2.2.1.2.2.2.1 (fun q9 H1 locs1 hG ho hS => ?_)
  refine lv_astore E.1.1 E.1.2.1 dL_publish_13 (rv_has_k hl) (Nat.le_of_ble_eq_true rfl) rfl (fun ls' hl' => ?_)
  exact rL_endx E hG ho hS (by decide) dL_publish_15 dL_publish_16
theorem wL_publish_x3 {l : Launch} {D : va_G} {cI cZ cO cJ : ClassId} {ad : Nat → Nat} {gh : rC_gh} {mi de o sz : Nat} {w : Int64} (hfl : l.stackTraces = false) (hI : rC_I ad gh) {M : rv_Mem} {p1 : Int32} {p2 : Int32} {M1 : rv_Mem} (h : f11_publish gh M p1 p2 = some (.inr (3, M1))) : Met l yL_publish wsL_publish rmL_publish (va_Pc [.ref (ad 0), .int p1, .int p2, .ref o] (rL_P D cI cZ cO cJ ad gh mi de o sz M w)) (rL_qx D cI cZ cO cJ ad gh de o sz 2 M1 w) 4 24 (rL_A ad gh sz o) := by
  refine rL_met rfl (Nat.le_of_ble_eq_true rfl) (fun p e s m args below meth c ls S htab hret hlk hP hl => ?_)
  have hsz := hP.2.1
  subst hsz
  have E : rL_E D cI cZ cO cJ ad gh mi de o M w cL_publish 5 [(0, 10, 13, 13), (0, 10, 17, 25)] p l s m args meth c := ⟨S, hP, hI, hfl, htab, hret, hlk⟩
  change rv_has ls [some (.ref (ad 0)), some (.int p1), some (.int p2), some (.ref o), none] at hl
  refine lv_aload_n E.1.1 E.1.2.1 dL_publish_0 rfl (hl.2.2 3 _ rfl) ?_
  refine lv_iconst (v := 0) E.1.1 E.1.2.1 dL_publish_1 (by decide) ?_
  refine lv_aload_n E.1.1 E.1.2.1 dL_publish_2 rfl (hl.2.2 0 _ rfl) ?_
  refine lv_iload_n E.1.1 E.1.2.1 dL_publish_3 rfl (hl.2.2 1 _ rfl) ?_
  refine lv_iload_n E.1.1 E.1.2.1 dL_publish_4 rfl (hl.2.2 2 _ rfl) ?_
  refine rL_ex (mk := true) (x := 3) E (fun _ => c11_publish_x hfl hI h) (Or.inl rfl) gL_95 hX11_publish ⟨rfl, rfl⟩ ⟨Nat.le_of_ble_eq_true rfl, Nat.le_of_ble_eq_true rfl⟩ ⟨Nat.le_of_ble_eq_true rfl, Nat.le_of_ble_eq_true rfl⟩ rfl (lv := [some (.ref (ad 0)), some (.int p1), some (.int p2), some (.ref o), none]) hl rfl (As := [.int p1, .int p2]) (rest := [.int 0, .ref o]) rfl (Nat.le_of_ble_eq_true rfl) dL_publish_5 [⟨0, 10, 13, 13⟩] ⟨0, 10, 17, 25⟩ [] rfl (fun z hz => by cases List.mem_singleton.mp hz; exact ⟨by decide, _, rv_al (rv_t2 (List.mem_of_getElem? (i := 87) rfl)) rfl, E.2.1.2.2.2.2.2.2.2.2.1.2.1⟩) rfl (by decide) (rv_al (rv_t3 (List.mem_of_getElem? (i := 1) rfl)) rfl) E.2.1.2.2.2.2.1.2.2.2.2.2.1 (fun q9 H1 locs1 hG ho hS => ?_)
  refine lv_astore E.1.1 E.1.2.1 dL_publish_17 (rv_has_k hl) (Nat.le_of_ble_eq_true rfl) rfl (fun ls' hl' => ?_)
  exact rL_endx E hG ho hS (by decide) dL_publish_19 dL_publish_20
theorem gL_98 : GoodIn rv_AL (wsV RL 98 RX11 yX11_shown (rv_ws yX11_shown cX11_shown 9 (some .int))) := rv_gV (rv_al (rv_t5 (List.mem_of_getElem? (i := 153) rfl)) rfl) (rv_al (rv_t5 (List.mem_of_getElem? (i := 154) rfl)) rfl) (rv_al (rv_t5 (List.mem_of_getElem? (i := 155) rfl)) rfl) (rv_al (rv_t1 (List.mem_of_getElem? (i := 1) rfl)) rfl) (rv_al (rv_t5 (List.mem_of_getElem? (i := 156) rfl)) rfl)
abbrev rmL_shown : Room := { frames := 8, cells := 3, slots := 18, locals := 150 }
abbrev wsL_shown : List Cond := Cond.codeWith yL_shown cL_shown 5 (some .int) [(0, 10, 13, 13)] :: rv_AL
theorem wL_shown {l : Launch} {D : va_G} {cI cZ cO cJ : ClassId} {ad : Nat → Nat} {gh : rC_gh} {mi de o sz : Nat} {w : Int64} (hfl : l.stackTraces = false) (hI : rC_I ad gh) {M : rv_Mem} {p1 : Int32} {p2 : Int32} {r : Int32} {M1 : rv_Mem} (h : f11_shown gh M p1 p2 = some (.inl (r, M1))) : Met l yL_shown wsL_shown rmL_shown (va_Pc [.ref (ad 0), .int p1, .int p2, .ref o] (rL_P D cI cZ cO cJ ad gh mi de o sz M w)) (rL_qo D cI cZ cO cJ ad gh de o sz gh M1 r.toInt64) 3 18 (rL_A ad gh sz o) := by
  refine rL_met rfl (Nat.le_of_ble_eq_true rfl) (fun p e s m args below meth c ls S htab hret hlk hP hl => ?_)
  have hsz := hP.2.1
  subst hsz
  have E : rL_E D cI cZ cO cJ ad gh mi de o M w cL_shown 5 [(0, 10, 13, 13)] p l s m args meth c := ⟨S, hP, hI, hfl, htab, hret, hlk⟩
  change rv_has ls [some (.ref (ad 0)), some (.int p1), some (.int p2), some (.ref o), none] at hl
  refine lv_aload_n E.1.1 E.1.2.1 dL_shown_0 rfl (hl.2.2 3 _ rfl) ?_
  refine lv_iconst (v := 0) E.1.1 E.1.2.1 dL_shown_1 (by decide) ?_
  refine lv_aload_n E.1.1 E.1.2.1 dL_shown_2 rfl (hl.2.2 0 _ rfl) ?_
  refine lv_iload_n E.1.1 E.1.2.1 dL_shown_3 rfl (hl.2.2 1 _ rfl) ?_
  refine lv_iload_n E.1.1 E.1.2.1 dL_shown_4 rfl (hl.2.2 2 _ rfl) ?_
  refine rL_ok (v := r) E (fun _ => c11_shown hfl hI h) gL_98 hX11_shown ⟨rfl, rfl⟩ ⟨Nat.le_of_ble_eq_true rfl, Nat.le_of_ble_eq_true rfl⟩ ⟨Nat.le_of_ble_eq_true rfl, Nat.le_of_ble_eq_true rfl⟩ rfl (lv := [some (.ref (ad 0)), some (.int p1), some (.int p2), some (.ref o), none]) hl rfl (As := [.int p1, .int p2]) (rest := [.int 0, .ref o]) rfl (Nat.le_of_ble_eq_true rfl) dL_shown_5 (fun u H1 locs1 h0 hI' hs hG ho hS => ?_)
  refine lv_i2l E.1.1 E.1.2.1 dL_shown_8 rfl ?_
  exact rL_end E h0 hI' hs hG ho hS dL_shown_9 dL_shown_10 (pc2 := 17) (by decide) dL_shown_17 dL_shown_18
theorem wL_shown_x1 {l : Launch} {D : va_G} {cI cZ cO cJ : ClassId} {ad : Nat → Nat} {gh : rC_gh} {mi de o sz : Nat} {w : Int64} (hfl : l.stackTraces = false) (hI : rC_I ad gh) {M : rv_Mem} {p1 : Int32} {p2 : Int32} {M1 : rv_Mem} (h : f11_shown gh M p1 p2 = some (.inr (1, M1))) : Met l yL_shown wsL_shown rmL_shown (va_Pc [.ref (ad 0), .int p1, .int p2, .ref o] (rL_P D cI cZ cO cJ ad gh mi de o sz M w)) (rL_qx D cI cZ cO cJ ad gh de o sz 1 M1 w) 3 18 (rL_A ad gh sz o) := by
  refine rL_met rfl (Nat.le_of_ble_eq_true rfl) (fun p e s m args below meth c ls S htab hret hlk hP hl => ?_)
  have hsz := hP.2.1
  subst hsz
  have E : rL_E D cI cZ cO cJ ad gh mi de o M w cL_shown 5 [(0, 10, 13, 13)] p l s m args meth c := ⟨S, hP, hI, hfl, htab, hret, hlk⟩
  change rv_has ls [some (.ref (ad 0)), some (.int p1), some (.int p2), some (.ref o), none] at hl
  refine lv_aload_n E.1.1 E.1.2.1 dL_shown_0 rfl (hl.2.2 3 _ rfl) ?_
  refine lv_iconst (v := 0) E.1.1 E.1.2.1 dL_shown_1 (by decide) ?_
  refine lv_aload_n E.1.1 E.1.2.1 dL_shown_2 rfl (hl.2.2 0 _ rfl) ?_
  refine lv_iload_n E.1.1 E.1.2.1 dL_shown_3 rfl (hl.2.2 1 _ rfl) ?_
  refine lv_iload_n E.1.1 E.1.2.1 dL_shown_4 rfl (hl.2.2 2 _ rfl) ?_
  refine rL_ex (mk := true) (x := 1) E (fun _ => c11_shown_x hfl hI h) (Or.inl rfl) gL_98 hX11_shown ⟨rfl, rfl⟩ ⟨Nat.le_of_ble_eq_true rfl, Nat.le_of_ble_eq_true rfl⟩ ⟨Nat.le_of_ble_eq_true rfl, Nat.le_of_ble_eq_true rfl⟩ rfl (lv := [some (.ref (ad 0)), some (.int p1), some (.int p2), some (.ref o), none]) hl rfl (As := [.int p1, .int p2]) (rest := [.int 0, .ref o]) rfl (Nat.le_of_ble_eq_true rfl) dL_shown_5 [] ⟨0, 10, 13, 13⟩ [] rfl (fun z hz => nomatch hz) rfl (by decide) (rv_al (rv_t2 (List.mem_of_getElem? (i := 87) rfl)) rfl) E.2.1.2.2.2.2.1.2.2.2.1 (fun q9 H1 locs1 hG ho hS => ?_)
  refine lv_astore E.1.1 E.1.2.1 dL_shown_13 (rv_has_k hl) (Nat.le_of_ble_eq_true rfl) rfl (fun ls' hl' => ?_)
  exact rL_endx E hG ho hS (by decide) dL_shown_15 dL_shown_16
theorem gL_101 : GoodIn rv_AL (wsV RL 101 RX11 yX11_unresolved (rv_ws yX11_unresolved cX11_unresolved 2 (some .int))) := rv_gV (rv_al (rv_t5 (List.mem_of_getElem? (i := 173) rfl)) rfl) (rv_al (rv_t5 (List.mem_of_getElem? (i := 174) rfl)) rfl) (rv_al (rv_t5 (List.mem_of_getElem? (i := 175) rfl)) rfl) (rv_al (rv_t1 (List.mem_of_getElem? (i := 1) rfl)) rfl) (rv_al (rv_t5 (List.mem_of_getElem? (i := 176) rfl)) rfl)
abbrev rmL_unresolved : Room := { frames := 8, cells := 1, slots := 6, locals := 169 }
abbrev wsL_unresolved : List Cond := Cond.codeWith yL_unresolved cL_unresolved 4 (some .int) [(0, 9, 12, 13)] :: rv_AL
theorem wL_unresolved {l : Launch} {D : va_G} {cI cZ cO cJ : ClassId} {ad : Nat → Nat} {gh : rC_gh} {mi de o sz : Nat} {w : Int64} (hfl : l.stackTraces = false) (hI : rC_I ad gh) {M : rv_Mem} {p1 : Int32} {r : Int32} (h : f11_unresolved gh M p1 = some (.inl r)) : Met l yL_unresolved wsL_unresolved rmL_unresolved (va_Pc [.ref (ad 0), .int p1, .ref o] (rL_P D cI cZ cO cJ ad gh mi de o sz M w)) (rL_qo D cI cZ cO cJ ad gh de o sz gh M r.toInt64) 1 6 (rL_A ad gh sz o) := by
  refine rL_met rfl (Nat.le_of_ble_eq_true rfl) (fun p e s m args below meth c ls S htab hret hlk hP hl => ?_)
  have hsz := hP.2.1
  subst hsz
  have E : rL_E D cI cZ cO cJ ad gh mi de o M w cL_unresolved 4 [(0, 9, 12, 13)] p l s m args meth c := ⟨S, hP, hI, hfl, htab, hret, hlk⟩
  change rv_has ls [some (.ref (ad 0)), some (.int p1), some (.ref o), none] at hl
  refine lv_aload_n E.1.1 E.1.2.1 dL_unresolved_0 rfl (hl.2.2 2 _ rfl) ?_
  refine lv_iconst (v := 0) E.1.1 E.1.2.1 dL_unresolved_1 (by decide) ?_
  refine lv_aload_n E.1.1 E.1.2.1 dL_unresolved_2 rfl (hl.2.2 0 _ rfl) ?_
  refine lv_iload_n E.1.1 E.1.2.1 dL_unresolved_3 rfl (hl.2.2 1 _ rfl) ?_
  refine rL_ok (v := r) E (fun _ => c11_unresolved hfl hI h) gL_101 hX11_unresolved ⟨rfl, rfl⟩ ⟨Nat.le_of_ble_eq_true rfl, Nat.le_of_ble_eq_true rfl⟩ ⟨Nat.le_of_ble_eq_true rfl, Nat.le_of_ble_eq_true rfl⟩ rfl (lv := [some (.ref (ad 0)), some (.int p1), some (.ref o), none]) hl rfl (As := [.int p1]) (rest := [.int 0, .ref o]) rfl (Nat.le_of_ble_eq_true rfl) dL_unresolved_4 (fun u H1 locs1 h0 hI' hs hG ho hS => ?_)
  refine lv_i2l E.1.1 E.1.2.1 dL_unresolved_7 rfl ?_
  exact rL_end E h0 hI' hs hG ho hS dL_unresolved_8 dL_unresolved_9 (pc2 := 15) (by decide) dL_unresolved_15 dL_unresolved_16
theorem wL_unresolved_x1 {l : Launch} {D : va_G} {cI cZ cO cJ : ClassId} {ad : Nat → Nat} {gh : rC_gh} {mi de o sz : Nat} {w : Int64} (hfl : l.stackTraces = false) (hI : rC_I ad gh) {M : rv_Mem} {p1 : Int32} (h : f11_unresolved gh M p1 = some (.inr 1)) : Met l yL_unresolved wsL_unresolved rmL_unresolved (va_Pc [.ref (ad 0), .int p1, .ref o] (rL_P D cI cZ cO cJ ad gh mi de o sz M w)) (rL_qx D cI cZ cO cJ ad gh de o sz 1 M w) 1 6 (rL_A ad gh sz o) := by
  refine rL_met rfl (Nat.le_of_ble_eq_true rfl) (fun p e s m args below meth c ls S htab hret hlk hP hl => ?_)
  have hsz := hP.2.1
  subst hsz
  have E : rL_E D cI cZ cO cJ ad gh mi de o M w cL_unresolved 4 [(0, 9, 12, 13)] p l s m args meth c := ⟨S, hP, hI, hfl, htab, hret, hlk⟩
  change rv_has ls [some (.ref (ad 0)), some (.int p1), some (.ref o), none] at hl
  refine lv_aload_n E.1.1 E.1.2.1 dL_unresolved_0 rfl (hl.2.2 2 _ rfl) ?_
  refine lv_iconst (v := 0) E.1.1 E.1.2.1 dL_unresolved_1 (by decide) ?_
  refine lv_aload_n E.1.1 E.1.2.1 dL_unresolved_2 rfl (hl.2.2 0 _ rfl) ?_
  refine lv_iload_n E.1.1 E.1.2.1 dL_unresolved_3 rfl (hl.2.2 1 _ rfl) ?_
  refine rL_ex (mk := true) (x := 1) E (fun _ => c11_unresolved_x hfl hI h) (Or.inl rfl) gL_101 hX11_unresolved ⟨rfl, rfl⟩ ⟨Nat.le_of_ble_eq_true rfl, Nat.le_of_ble_eq_true rfl⟩ ⟨Nat.le_of_ble_eq_true rfl, Nat.le_of_ble_eq_true rfl⟩ rfl (lv := [some (.ref (ad 0)), some (.int p1), some (.ref o), none]) hl rfl (As := [.int p1]) (rest := [.int 0, .ref o]) rfl (Nat.le_of_ble_eq_true rfl) dL_unresolved_4 [] ⟨0, 9, 12, 13⟩ [] rfl (fun z hz => nomatch hz) rfl (by decide) (rv_al (rv_t2 (List.mem_of_getElem? (i := 87) rfl)) rfl) E.2.1.2.2.2.2.1.2.2.2.1 (fun q9 H1 locs1 hG ho hS => ?_)
  refine lv_astore_n E.1.1 E.1.2.1 dL_unresolved_12 rfl (rv_has_k hl) (Nat.le_of_ble_eq_true rfl) rfl (fun ls' hl' => ?_)
  exact rL_endx E hG ho hS (by decide) dL_unresolved_13 dL_unresolved_14
theorem gL_104 : GoodIn rv_AL (wsV RL 104 RX11 yX11_find (rv_ws yX11_find cX11_find 8 (some .int))) := rv_gV (rv_al (rv_t5 (List.mem_of_getElem? (i := 188) rfl)) rfl) (rv_al (rv_t5 (List.mem_of_getElem? (i := 189) rfl)) rfl) (rv_al (rv_t5 (List.mem_of_getElem? (i := 190) rfl)) rfl) (rv_al (rv_t1 (List.mem_of_getElem? (i := 1) rfl)) rfl) (rv_al (rv_t5 (List.mem_of_getElem? (i := 191) rfl)) rfl)
