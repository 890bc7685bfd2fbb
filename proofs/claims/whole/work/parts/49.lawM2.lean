abbrev rmL_find : Room := { frames := 10, cells := 7, slots := 132, locals := 247 }
abbrev wsL_find : List Cond := Cond.codeWith yL_find cL_find 9 (some .int) [(0, 18, 21, 13), (0, 18, 25, 23), (0, 18, 29, 25)] :: rv_AL
theorem wL_find {l : Launch} {D : va_G} {cI cZ cO cJ : ClassId} {ad : Nat → Nat} {gh : rC_gh} {mi de o sz : Nat} {w : Int64} (hfl : l.stackTraces = false) (hI : rC_I ad gh) {M : rv_Mem} {p1 : Int32} {p2 : Int32} {p3 : Int32} {p4 : Int32} {p5 : Int32} {p6 : Int32} {r : Int32} {gh' : rC_gh} {M1 : rv_Mem} (h : f11_find gh M p1 p2 p3 p4 p5 p6 = some (.inl (r, gh', M1))) : Met l yL_find wsL_find rmL_find (va_Pc [.ref (ad 0), .int p1, .int p2, .int p3, .int p4, .int p5, .int p6, .ref o] (rL_P D cI cZ cO cJ ad gh mi de o sz M w)) (rL_qo D cI cZ cO cJ ad gh de o sz gh' M1 r.toInt64) 7 132 (rL_A ad gh sz o) := by
  refine rL_met rfl (Nat.le_of_ble_eq_true rfl) (fun p e s m args below meth c ls S htab hret hlk hP hl => ?_)
  have hsz := hP.2.1
  subst hsz
  have E : rL_E D cI cZ cO cJ ad gh mi de o M w cL_find 9 [(0, 18, 21, 13), (0, 18, 25, 23), (0, 18, 29, 25)] p l s m args meth c := ⟨S, hP, hI, hfl, htab, hret, hlk⟩
  change rv_has ls [some (.ref (ad 0)), some (.int p1), some (.int p2), some (.int p3), some (.int p4), some (.int p5), some (.int p6), some (.ref o), none] at hl
  refine lv_aload E.1.1 E.1.2.1 dL_find_0 (hl.2.2 7 _ rfl) ?_
  refine lv_iconst (v := 0) E.1.1 E.1.2.1 dL_find_2 (by decide) ?_
  refine lv_aload_n E.1.1 E.1.2.1 dL_find_3 rfl (hl.2.2 0 _ rfl) ?_
  refine lv_iload_n E.1.1 E.1.2.1 dL_find_4 rfl (hl.2.2 1 _ rfl) ?_
  refine lv_iload_n E.1.1 E.1.2.1 dL_find_5 rfl (hl.2.2 2 _ rfl) ?_
  refine lv_iload_n E.1.1 E.1.2.1 dL_find_6 rfl (hl.2.2 3 _ rfl) ?_
  refine lv_iload E.1.1 E.1.2.1 dL_find_7 (hl.2.2 4 _ rfl) ?_
  refine lv_iload E.1.1 E.1.2.1 dL_find_9 (hl.2.2 5 _ rfl) ?_
  refine lv_iload E.1.1 E.1.2.1 dL_find_11 (hl.2.2 6 _ rfl) ?_
  refine rL_okM (v := r) E (fun _ => c11_find hfl hI h) gL_104 hX11_find ⟨rfl, rfl⟩ ⟨Nat.le_of_ble_eq_true rfl, Nat.le_of_ble_eq_true rfl⟩ ⟨Nat.le_of_ble_eq_true rfl, Nat.le_of_ble_eq_true rfl⟩ rfl (lv := [some (.ref (ad 0)), some (.int p1), some (.int p2), some (.int p3), some (.int p4), some (.int p5), some (.int p6), some (.ref o), none]) hl rfl (As := [.int p1, .int p2, .int p3, .int p4, .int p5, .int p6]) (rest := [.int 0, .ref o]) rfl (Nat.le_of_ble_eq_true rfl) dL_find_13 (fun u H1 locs1 h0 hI' hs hG ho hS => ?_)
  refine lv_i2l E.1.1 E.1.2.1 dL_find_16 rfl ?_
  exact rL_end E h0 hI' hs hG ho hS dL_find_17 dL_find_18 (pc2 := 33) (by decide) dL_find_33 dL_find_34
theorem wL_find_x1 {l : Launch} {D : va_G} {cI cZ cO cJ : ClassId} {ad : Nat → Nat} {gh : rC_gh} {mi de o sz : Nat} {w : Int64} (hfl : l.stackTraces = false) (hI : rC_I ad gh) {M : rv_Mem} {p1 : Int32} {p2 : Int32} {p3 : Int32} {p4 : Int32} {p5 : Int32} {p6 : Int32} (h : f11_find gh M p1 p2 p3 p4 p5 p6 = some (.inr 1)) : Met l yL_find wsL_find rmL_find (va_Pc [.ref (ad 0), .int p1, .int p2, .int p3, .int p4, .int p5, .int p6, .ref o] (rL_P D cI cZ cO cJ ad gh mi de o sz M w)) (rL_qx D cI cZ cO cJ ad gh de o sz 1 M w) 7 132 (rL_A ad gh sz o) := by
  refine rL_met rfl (Nat.le_of_ble_eq_true rfl) (fun p e s m args below meth c ls S htab hret hlk hP hl => ?_)
  have hsz := hP.2.1
  subst hsz
  have E : rL_E D cI cZ cO cJ ad gh mi de o M w cL_find 9 [(0, 18, 21, 13), (0, 18, 25, 23), (0, 18, 29, 25)] p l s m args meth c := ⟨S, hP, hI, hfl, htab, hret, hlk⟩
  change rv_has ls [some (.ref (ad 0)), some (.int p1), some (.int p2), some (.int p3), some (.int p4), some (.int p5), some (.int p6), some (.ref o), none] at hl
  refine lv_aload E.1.1 E.1.2.1 dL_find_0 (hl.2.2 7 _ rfl) ?_
  refine lv_iconst (v := 0) E.1.1 E.1.2.1 dL_find_2 (by decide) ?_
  refine lv_aload_n E.1.1 E.1.2.1 dL_find_3 rfl (hl.2.2 0 _ rfl) ?_
  refine lv_iload_n E.1.1 E.1.2.1 dL_find_4 rfl (hl.2.2 1 _ rfl) ?_
  refine lv_iload_n E.1.1 E.1.2.1 dL_find_5 rfl (hl.2.2 2 _ rfl) ?_
  refine lv_iload_n E.1.1 E.1.2.1 dL_find_6 rfl (hl.2.2 3 _ rfl) ?_
  refine lv_iload E.1.1 E.1.2.1 dL_find_7 (hl.2.2 4 _ rfl) ?_
  refine lv_iload E.1.1 E.1.2.1 dL_find_9 (hl.2.2 5 _ rfl) ?_
  refine lv_iload E.1.1 E.1.2.1 dL_find_11 (hl.2.2 6 _ rfl) ?_
  refine rL_ex (mk := true) (x := 1) E (fun _ => c11_find_x hfl hI h) (Or.inr rfl) gL_104 hX11_find ⟨rfl, rfl⟩ ⟨Nat.le_of_ble_eq_true rfl, Nat.le_of_ble_eq_true rfl⟩ ⟨Nat.le_of_ble_eq_true rfl, Nat.le_of_ble_eq_true rfl⟩ rfl (lv := [some (.ref (ad 0)), some (.int p1), some (.int p2), some (.int p3), some (.int p4), some (.int p5), some (.int p6), some (.ref o), none]) hl rfl (As := [.int p1, .int p2, .int p3, .int p4, .int p5, .int p6]) (rest := [.int 0, .ref o]) rfl (Nat.le_of_ble_eq_true rfl) dL_find_13 [] ⟨0, 18, 21, 13⟩ [⟨0, 18, 25, 23⟩, ⟨0, 18, 29, 25⟩] rfl (fun z hz => nomatch hz) rfl (by decide) (rv_al (rv_t2 (List.mem_of_getElem? (i := 87) rfl)) rfl) E.2.1.2.2.2.2.1.2.2.2.1 (fun q9 H1 locs1 hG ho hS => ?_)
  refine lv_astore E.1.1 E.1.2.1 dL_find_21 (rv_has_k hl) (Nat.le_of_ble_eq_true rfl) rfl (fun ls' hl' => ?_)
  exact rL_endx E hG ho hS (by decide) dL_find_23 dL_find_24
theorem wL_find_x2 {l : Launch} {D : va_G} {cI cZ cO cJ : ClassId} {ad : Nat → Nat} {gh : rC_gh} {mi de o sz : Nat} {w : Int64} (hfl : l.stackTraces = false) (hI : rC_I ad gh) {M : rv_Mem} {p1 : Int32} {p2 : Int32} {p3 : Int32} {p4 : Int32} {p5 : Int32} {p6 : Int32} (h : f11_find gh M p1 p2 p3 p4 p5 p6 = some (.inr 2)) : Met l yL_find wsL_find rmL_find (va_Pc [.ref (ad 0), .int p1, .int p2, .int p3, .int p4, .int p5, .int p6, .ref o] (rL_P D cI cZ cO cJ ad gh mi de o sz M w)) (rL_qx D cI cZ cO cJ ad gh de o sz 2 M w) 7 132 (rL_A ad gh sz o) := by
  refine rL_met rfl (Nat.le_of_ble_eq_true rfl) (fun p e s m args below meth c ls S htab hret hlk hP hl => ?_)
  have hsz := hP.2.1
  subst hsz
  have E : rL_E D cI cZ cO cJ ad gh mi de o M w cL_find 9 [(0, 18, 21, 13), (0, 18, 25, 23), (0, 18, 29, 25)] p l s m args meth c := ⟨S, hP, hI, hfl, htab, hret, hlk⟩
  change rv_has ls [some (.ref (ad 0)), some (.int p1), some (.int p2), some (.int p3), some (.int p4), some (.int p5), some (.int p6), some (.ref o), none] at hl
  refine lv_aload E.1.1 E.1.2.1 dL_find_0 (hl.2.2 7 _ rfl) ?_
  refine lv_iconst (v := 0) E.1.1 E.1.2.1 dL_find_2 (by decide) ?_
  refine lv_aload_n E.1.1 E.1.2.1 dL_find_3 rfl (hl.2.2 0 _ rfl) ?_
  refine lv_iload_n E.1.1 E.1.2.1 dL_find_4 rfl (hl.2.2 1 _ rfl) ?_
  refine lv_iload_n E.1.1 E.1.2.1 dL_find_5 rfl (hl.2.2 2 _ rfl) ?_
  refine lv_iload_n E.1.1 E.1.2.1 dL_find_6 rfl (hl.2.2 3 _ rfl) ?_
  refine lv_iload E.1.1 E.1.2.1 dL_find_7 (hl.2.2 4 _ rfl) ?_
  refine lv_iload E.1.1 E.1.2.1 dL_find_9 (hl.2.2 5 _ rfl) ?_
  refine lv_iload E.1.1 E.1.2.1 dL_find_11 (hl.2.2 6 _ rfl) ?_
  refine rL_ex (mk := true) (x := 2) E (fun _ => c11_find_x hfl hI h) (Or.inr rfl) gL_104 hX11_find ⟨rfl, rfl⟩ ⟨Nat.le_of_ble_eq_true rfl, Nat.le_of_ble_eq_true rfl⟩ ⟨Nat.le_of_ble_eq_true rfl, Nat.le_of_ble_eq_true rfl⟩ rfl (lv := [some (.ref (ad 0)), some (.int p1), some (.int p2), some (.int p3), some (.int p4), some (.int p5), some (.int p6), some (.ref o), none]) hl rfl (As := [.int p1, .int p2, .int p3, .int p4, .int p5, .int p6]) (rest := [.int 0, .ref o]) rfl (Nat.le_of_ble_eq_true rfl) dL_find_13 [⟨0, 18, 21, 13⟩] ⟨0, 18, 25, 23⟩ [⟨0, 18, 29, 25⟩] rfl (fun z hz => by cases List.mem_singleton.mp hz; exact ⟨by decide, _, rv_al (rv_t2 (List.mem_of_getElem? (i := 87) rfl)) rfl, E.2.1.2.2.2.2.2.2.2.2.1.1⟩) rfl (by decide) (rv_al (rv_t3 (List.mem_of_getElem? (i := 0) rfl)) rfl) E.2.1.2.2.2.2.1.2.2.2.2.1 (fun q9 H1 locs1 hG ho hS => ?_)
  refine lv_astore E.1.1 E.1.2.1 dL_find_25 (rv_has_k hl) (Nat.le_of_ble_eq_true rfl) rfl (fun ls' hl' => ?_)
  exact rL_endx E hG ho hS (by decide) dL_find_27 dL_find_28
theorem wL_find_x3 {l : Launch} {D : va_G} {cI cZ cO cJ : ClassId} {ad : Nat → Nat} {gh : rC_gh} {mi de o sz : Nat} {w : Int64} (hfl : l.stackTraces = false) (hI : rC_I ad gh) {M : rv_Mem} {p1 : Int32} {p2 : Int32} {p3 : Int32} {p4 : Int32} {p5 : Int32} {p6 : Int32} (h : f11_find gh M p1 p2 p3 p4 p5 p6 = some (.inr 3)) : Met l yL_find wsL_find rmL_find (va_Pc [.ref (ad 0), .int p1, .int p2, .int p3, .int p4, .int p5, .int p6, .ref o] (rL_P D cI cZ cO cJ ad gh mi de o sz M w)) (rL_qx D cI cZ cO cJ ad gh de o sz 3 M w) 7 132 (rL_A ad gh sz o) := by
  refine rL_met rfl (Nat.le_of_ble_eq_true rfl) (fun p e s m args below meth c ls S htab hret hlk hP hl => ?_)
  have hsz := hP.2.1
  subst hsz
  have E : rL_E D cI cZ cO cJ ad gh mi de o M w cL_find 9 [(0, 18, 21, 13), (0, 18, 25, 23), (0, 18, 29, 25)] p l s m args meth c := ⟨S, hP, hI, hfl, htab, hret, hlk⟩
  change rv_has ls [some (.ref (ad 0)), some (.int p1), some (.int p2), some (.int p3), some (.int p4), some (.int p5), some (.int p6), some (.ref o), none] at hl
  refine lv_aload E.1.1 E.1.2.1 dL_find_0 (hl.2.2 7 _ rfl) ?_
  refine lv_iconst (v := 0) E.1.1 E.1.2.1 dL_find_2 (by decide) ?_
  refine lv_aload_n E.1.1 E.1.2.1 dL_find_3 rfl (hl.2.2 0 _ rfl) ?_
  refine lv_iload_n E.1.1 E.1.2.1 dL_find_4 rfl (hl.2.2 1 _ rfl) ?_
  refine lv_iload_n E.1.1 E.1.2.1 dL_find_5 rfl (hl.2.2 2 _ rfl) ?_
  refine lv_iload_n E.1.1 E.1.2.1 dL_find_6 rfl (hl.2.2 3 _ rfl) ?_
  refine lv_iload E.1.1 E.1.2.1 dL_find_7 (hl.2.2 4 _ rfl) ?_
  refine lv_iload E.1.1 E.1.2.1 dL_find_9 (hl.2.2 5 _ rfl) ?_
  refine lv_iload E.1.1 E.1.2.1 dL_find_11 (hl.2.2 6 _ rfl) ?_
  refine rL_ex (mk := true) (x := 3) E (fun _ => c11_find_x hfl hI h) (Or.inr rfl) gL_104 hX11_find ⟨rfl, rfl⟩ ⟨Nat.le_of_ble_eq_true rfl, Nat.le_of_ble_eq_true rfl⟩ ⟨Nat.le_of_ble_eq_true rfl, Nat.le_of_ble_eq_true rfl⟩ rfl (lv := [some (.ref (ad 0)), some (.int p1), some (.int p2), some (.int p3), some (.int p4), some (.int p5), some (.int p6), some (.ref o), none]) hl rfl (As := [.int p1, .int p2, .int p3, .int p4, .int p5, .int p6]) (rest := [.int 0, .ref o]) rfl (Nat.le_of_ble_eq_true rfl) dL_find_13 [⟨0, 18, 21, 13⟩, ⟨0, 18, 25, 23⟩] ⟨0, 18, 29, 25⟩ [] rfl (fun z hz => by rcases List.mem_cons.mp hz with rfl | hz; exact ⟨by decide, _, rv_al (rv_t2 (List.mem_of_getElem? (i := 87) rfl)) rfl, E.2.1.2.2.2.2.2.2.2.2.1.2.1⟩; cases List.mem_singleton.mp hz; exact ⟨by decide, _, rv_al (rv_t3 (List.mem_of_getElem? (i := 0) rfl)) rfl, E.2.1.2.2.2.2.2.2.2.2.1.2.2⟩) rfl (by decide) (rv_al (rv_t3 (List.mem_of_getElem? (i := 1) rfl)) rfl) E.2.1.2.2.2.2.1.2.2.2.2.2.1 (fun q9 H1 locs1 hG ho hS => ?_)
  refine lv_astore E.1.1 E.1.2.1 dL_find_29 (rv_has_k hl) (Nat.le_of_ble_eq_true rfl) rfl (fun ls' hl' => ?_)
  exact rL_endx E hG ho hS (by decide) dL_find_31 dL_find_32
theorem gL_108 : GoodIn rv_AL (wsV RL 108 RX11 yX11_takeFixes (rv_ws yX11_takeFixes cX11_takeFixes 7 (some .int))) := rv_gV (rv_al (rv_t5 (List.mem_of_getElem? (i := 215) rfl)) rfl) (rv_al (rv_t5 (List.mem_of_getElem? (i := 216) rfl)) rfl) (rv_al (rv_t5 (List.mem_of_getElem? (i := 217) rfl)) rfl) (rv_al (rv_t1 (List.mem_of_getElem? (i := 1) rfl)) rfl) (rv_al (rv_t5 (List.mem_of_getElem? (i := 218) rfl)) rfl)
abbrev rmL_takeFixes : Room := { frames := 8, cells := 3, slots := 18, locals := 182 }
abbrev wsL_takeFixes : List Cond := Cond.codeWith yL_takeFixes cL_takeFixes 5 (some .int) [(0, 10, 13, 13), (0, 10, 17, 23), (0, 10, 21, 25)] :: rv_AL
theorem wL_takeFixes {l : Launch} {D : va_G} {cI cZ cO cJ : ClassId} {ad : Nat → Nat} {gh : rC_gh} {mi de o sz : Nat} {w : Int64} (hfl : l.stackTraces = false) (hI : rC_I ad gh) {M : rv_Mem} {p1 : Int32} {p2 : Int32} {r : Int32} {M1 : rv_Mem} (h : f11_takeFixes gh M p1 p2 = some (.inl (r, M1))) : Met l yL_takeFixes wsL_takeFixes rmL_takeFixes (va_Pc [.ref (ad 0), .int p1, .int p2, .ref o] (rL_P D cI cZ cO cJ ad gh mi de o sz M w)) (rL_qo D cI cZ cO cJ ad gh de o sz gh M1 r.toInt64) 3 18 (rL_A ad gh sz o) := by
  refine rL_met rfl (Nat.le_of_ble_eq_true rfl) (fun p e s m args below meth c ls S htab hret hlk hP hl => ?_)
  have hsz := hP.2.1
  subst hsz
  have E : rL_E D cI cZ cO cJ ad gh mi de o M w cL_takeFixes 5 [(0, 10, 13, 13), (0, 10, 17, 23), (0, 10, 21, 25)] p l s m args meth c := ⟨S, hP, hI, hfl, htab, hret, hlk⟩
  change rv_has ls [some (.ref (ad 0)), some (.int p1), some (.int p2), some (.ref o), none] at hl
  refine lv_aload_n E.1.1 E.1.2.1 dL_takeFixes_0 rfl (hl.2.2 3 _ rfl) ?_
  refine lv_iconst (v := 0) E.1.1 E.1.2.1 dL_takeFixes_1 (by decide) ?_
  refine lv_aload_n E.1.1 E.1.2.1 dL_takeFixes_2 rfl (hl.2.2 0 _ rfl) ?_
  refine lv_iload_n E.1.1 E.1.2.1 dL_takeFixes_3 rfl (hl.2.2 1 _ rfl) ?_
  refine lv_iload_n E.1.1 E.1.2.1 dL_takeFixes_4 rfl (hl.2.2 2 _ rfl) ?_
  refine rL_ok (v := r) E (fun _ => c11_takeFixes hfl hI h) gL_108 hX11_takeFixes ⟨rfl, rfl⟩ ⟨Nat.le_of_ble_eq_true rfl, Nat.le_of_ble_eq_true rfl⟩ ⟨Nat.le_of_ble_eq_true rfl, Nat.le_of_ble_eq_true rfl⟩ rfl (lv := [some (.ref (ad 0)), some (.int p1), some (.int p2), some (.ref o), none]) hl rfl (As := [.int p1, .int p2]) (rest := [.int 0, .ref o]) rfl (Nat.le_of_ble_eq_true rfl) dL_takeFixes_5 (fun u H1 locs1 h0 hI' hs hG ho hS => ?_)
  refine lv_i2l E.1.1 E.1.2.1 dL_takeFixes_8 rfl ?_
  exact rL_end E h0 hI' hs hG ho hS dL_takeFixes_9 dL_takeFixes_10 (pc2 := 25) (by decide) dL_takeFixes_25 dL_takeFixes_26
theorem wL_takeFixes_x1 {l : Launch} {D : va_G} {cI cZ cO cJ : ClassId} {ad : Nat → Nat} {gh : rC_gh} {mi de o sz : Nat} {w : Int64} (hfl : l.stackTraces = false) (hI : rC_I ad gh) {M : rv_Mem} {p1 : Int32} {p2 : Int32} {M1 : rv_Mem} (h : f11_takeFixes gh M p1 p2 = some (.inr (1, M1))) : Met l yL_takeFixes wsL_takeFixes rmL_takeFixes (va_Pc [.ref (ad 0), .int p1, .int p2, .ref o] (rL_P D cI cZ cO cJ ad gh mi de o sz M w)) (rL_qx D cI cZ cO cJ ad gh de o sz 1 M1 w) 3 18 (rL_A ad gh sz o) := by
  refine rL_met rfl (Nat.le_of_ble_eq_true rfl) (fun p e s m args below meth c ls S htab hret hlk hP hl => ?_)
  have hsz := hP.2.1
  subst hsz
  have E : rL_E D cI cZ cO cJ ad gh mi de o M w cL_takeFixes 5 [(0, 10, 13, 13), (0, 10, 17, 23), (0, 10, 21, 25)] p l s m args meth c := ⟨S, hP, hI, hfl, htab, hret, hlk⟩
  change rv_has ls [some (.ref (ad 0)), some (.int p1), some (.int p2), some (.ref o), none] at hl
  refine lv_aload_n E.1.1 E.1.2.1 dL_takeFixes_0 rfl (hl.2.2 3 _ rfl) ?_
  refine lv_iconst (v := 0) E.1.1 E.1.2.1 dL_takeFixes_1 (by decide) ?_
  refine lv_aload_n E.1.1 E.1.2.1 dL_takeFixes_2 rfl (hl.2.2 0 _ rfl) ?_
  refine lv_iload_n E.1.1 E.1.2.1 dL_takeFixes_3 rfl (hl.2.2 1 _ rfl) ?_
  refine lv_iload_n E.1.1 E.1.2.1 dL_takeFixes_4 rfl (hl.2.2 2 _ rfl) ?_
  refine rL_ex (mk := true) (x := 1) E (fun _ => c11_takeFixes_x hfl hI h) (Or.inl rfl) gL_108 hX11_takeFixes ⟨rfl, rfl⟩ ⟨Nat.le_of_ble_eq_true rfl, Nat.le_of_ble_eq_true rfl⟩ ⟨Nat.le_of_ble_eq_true rfl, Nat.le_of_ble_eq_true rfl⟩ rfl (lv := [some (.ref (ad 0)), some (.int p1), some (.int p2), some (.ref o), none]) hl rfl (As := [.int p1, .int p2]) (rest := [.int 0, .ref o]) rfl (Nat.le_of_ble_eq_true rfl) dL_takeFixes_5 [] ⟨0, 10, 13, 13⟩ [⟨0, 10, 17, 23⟩, ⟨0, 10, 21, 25⟩] rfl (fun z hz => nomatch hz) rfl (by decide) (rv_al (rv_t2 (List.mem_of_getElem? (i := 87) rfl)) rfl) E.2.1.2.2.2.2.1.2.2.2.1 (fun q9 H1 locs1 hG ho hS => ?_)
  refine lv_astore E.1.1 E.1.2.1 dL_takeFixes_13 (rv_has_k hl) (Nat.le_of_ble_eq_true rfl) rfl (fun ls' hl' => ?_)
  exact rL_endx E hG ho hS (by decide) dL_takeFixes_15 dL_takeFixes_16
theorem wL_takeFixes_x2 {l : Launch} {D : va_G} {cI cZ cO cJ : ClassId} {ad : Nat → Nat} {gh : rC_gh} {mi de o sz : Nat} {w : Int64} (hfl : l.stackTraces = false) (hI : rC_I ad gh) {M : rv_Mem} {p1 : Int32} {p2 : Int32} {M1 : rv_Mem} (h : f11_takeFixes gh M p1 p2 = some (.inr (2, M1))) : Met l yL_takeFixes wsL_takeFixes rmL_takeFixes (va_Pc [.ref (ad 0), .int p1, .int p2, .ref o] (rL_P D cI cZ cO cJ ad gh mi de o sz M w)) (rL_qx D cI cZ cO cJ ad gh de o sz 2 M1 w) 3 18 (rL_A ad gh sz o) := by
  refine rL_met rfl (Nat.le_of_ble_eq_true rfl) (fun p e s m args below meth c ls S htab hret hlk hP hl => ?_)
  have hsz := hP.2.1
  subst hsz
  have E : rL_E D cI cZ cO cJ ad gh mi de o M w cL_takeFixes 5 [(0, 10, 13, 13), (0, 10, 17, 23), (0, 10, 21, 25)] p l s m args meth c := ⟨S, hP, hI, hfl, htab, hret, hlk⟩
  change rv_has ls [some (.ref (ad 0)), some (.int p1), some (.int p2), some (.ref o), none] at hl
  refine lv_aload_n E.1.1 E.1.2.1 dL_takeFixes_0 rfl (hl.2.2 3 _ rfl) ?_
  refine lv_iconst (v := 0) E.1.1 E.1.2.1 dL_takeFixes_1 (by decide) ?_
  refine lv_aload_n E.1.1 E.1.2.1 dL_takeFixes_2 rfl (hl.2.2 0 _ rfl) ?_
  refine lv_iload_n E.1.1 E.1.2.1 dL_takeFixes_3 rfl (hl.2.2 1 _ rfl) ?_
  refine lv_iload_n E.1.1 E.1.2.1 dL_takeFixes_4 rfl (hl.2.2 2 _ rfl) ?_
  refine rL_ex (mk := true) (x := 2) E (fun _ => c11_takeFixes_x hfl hI h) (Or.inl rfl) gL_108 hX11_takeFixes ⟨rfl, rfl⟩ ⟨Nat.le_of_ble_eq_true rfl, Nat.le_of_ble_eq_true rfl⟩ ⟨Nat.le_of_ble_eq_true rfl, Nat.le_of_ble_eq_true rfl⟩ rfl (lv := [some (.ref (ad 0)), some (.int p1), some (.int p2), some (.ref o), none]) hl rfl (As := [.int p1, .int p2]) (rest := [.int 0, .ref o]) rfl (Nat.le_of_ble_eq_true rfl) dL_takeFixes_5 [⟨0, 10, 13, 13⟩] ⟨0, 10, 17, 23⟩ [⟨0, 10, 21, 25⟩] rfl (fun z hz => by cases List.mem_singleton.mp hz; exact ⟨by decide, _, rv_al (rv_t2 (List.mem_of_getElem? (i := 87) rfl)) rfl, E.2.1.2.2.2.2.2.2.2.2.1.1⟩) rfl (by decide) (rv_al (rv_t3 (List.mem_of_getElem? (i := 0) rfl)) rfl) E.2.1.2.2.2.2.1.2.2.2.2.1 (fun q9 H1 locs1 hG ho hS => ?_)
  refine lv_astore E.1.1 E.1.2.1 dL_takeFixes_17 (rv_has_k hl) (Nat.le_of_ble_eq_true rfl) rfl (fun ls' hl' => ?_)
  exact rL_endx E hG ho hS (by decide) dL_takeFixes_19 dL_takeFixes_20
theorem wL_takeFixes_x3 {l : Launch} {D : va_G} {cI cZ cO cJ : ClassId} {ad : Nat → Nat} {gh : rC_gh} {mi de o sz : Nat} {w : Int64} (hfl : l.stackTraces = false) (hI : rC_I ad gh) {M : rv_Mem} {p1 : Int32} {p2 : Int32} {M1 : rv_Mem} (h : f11_takeFixes gh M p1 p2 = some (.inr (3, M1))) : Met l yL_takeFixes wsL_takeFixes rmL_takeFixes (va_Pc [.ref (ad 0), .int p1, .int p2, .ref o] (rL_P D cI cZ cO cJ ad gh mi de o sz M w)) (rL_qx D cI cZ cO cJ ad gh de o sz 3 M1 w) 3 18 (rL_A ad gh sz o) := by
  refine rL_met rfl (Nat.le_of_ble_eq_true rfl) (fun p e s m args below meth c ls S htab hret hlk hP hl => ?_)
  have hsz := hP.2.1
  subst hsz
  have E : rL_E D cI cZ cO cJ ad gh mi de o M w cL_takeFixes 5 [(0, 10, 13, 13), (0, 10, 17, 23), (0, 10, 21, 25)] p l s m args meth c := ⟨S, hP, hI, hfl, htab, hret, hlk⟩
  change rv_has ls [some (.ref (ad 0)), some (.int p1), some (.int p2), some (.ref o), none] at hl
  refine lv_aload_n E.1.1 E.1.2.1 dL_takeFixes_0 rfl (hl.2.2 3 _ rfl) ?_
  refine lv_iconst (v := 0) E.1.1 E.1.2.1 dL_takeFixes_1 (by decide) ?_
  refine lv_aload_n E.1.1 E.1.2.1 dL_takeFixes_2 rfl (hl.2.2 0 _ rfl) ?_
  refine lv_iload_n E.1.1 E.1.2.1 dL_takeFixes_3 rfl (hl.2.2 1 _ rfl) ?_
  refine lv_iload_n E.1.1 E.1.2.1 dL_takeFixes_4 rfl (hl.2.2 2 _ rfl) ?_
  refine rL_ex (mk := true) (x := 3) E (fun _ => c11_takeFixes_x hfl hI h) (Or.inl rfl) gL_108 hX11_takeFixes ⟨rfl, rfl⟩ ⟨Nat.le_of_ble_eq_true rfl, Nat.le_of_ble_eq_true rfl⟩ ⟨Nat.le_of_ble_eq_true rfl, Nat.le_of_ble_eq_true rfl⟩ rfl (lv := [some (.ref (ad 0)), some (.int p1), some (.int p2), some (.ref o), none]) hl rfl (As := [.int p1, .int p2]) (rest := [.int 0, .ref o]) rfl (Nat.le_of_ble_eq_true rfl) dL_takeFixes_5 [⟨0, 10, 13, 13⟩, ⟨0, 10, 17, 23⟩] ⟨0, 10, 21, 25⟩ [] rfl (fun z hz => by rcases List.mem_cons.mp hz with rfl | hz; exact ⟨by decide, _, rv_al (rv_t2 (List.mem_of_getElem? (i := 87) rfl)) rfl, E.2.1.2.2.2.2.2.2.2.2.1.2.1⟩; cases List.mem_singleton.mp hz; exact ⟨by decide, _, rv_al (rv_t3 (List.mem_of_getElem? (i := 0) rfl)) rfl, E.2.1.2.2.2.2.2.2.2.2.1.2.2⟩) rfl (by decide) (rv_al (rv_t3 (List.mem_of_getElem? (i := 1) rfl)) rfl) E.2.1.2.2.2.2.1.2.2.2.2.2.1 (fun q9 H1 locs1 hG ho hS => ?_)
  refine lv_astore E.1.1 E.1.2.1 dL_takeFixes_21 (rv_has_k hl) (Nat.le_of_ble_eq_true rfl) rfl (fun ls' hl' => ?_)
  exact rL_endx E hG ho hS (by decide) dL_takeFixes_23 dL_takeFixes_24
theorem gL_111 : GoodIn rv_AL (wsV RL 111 RX11 yX11_setOwners (rv_ws yX11_setOwners cX11_setOwners 5 (some .int))) := rv_gV (rv_al (rv_t6 (List.mem_of_getElem? (i := 13) rfl)) rfl) (rv_al (rv_t6 (List.mem_of_getElem? (i := 14) rfl)) rfl) (rv_al (rv_t6 (List.mem_of_getElem? (i := 15) rfl)) rfl) (rv_al (rv_t1 (List.mem_of_getElem? (i := 1) rfl)) rfl) (rv_al (rv_t6 (List.mem_of_getElem? (i := 16) rfl)) rfl)
abbrev rmL_setOwners : Room := { frames := 8, cells := 2, slots := 12, locals := 144 }
abbrev wsL_setOwners : List Cond := Cond.codeWith yL_setOwners cL_setOwners 7 (some .int) [(0, 14, 17, 13), (0, 14, 21, 23)] :: rv_AL
theorem wL_setOwners {l : Launch} {D : va_G} {cI cZ cO cJ : ClassId} {ad : Nat → Nat} {gh : rC_gh} {mi de o sz : Nat} {w : Int64} (hfl : l.stackTraces = false) (hI : rC_I ad gh) {M : rv_Mem} {p1 : Int32} {p2 : Int32} {p3 : Int32} {p4 : Bool} {r : Int32} {M1 : rv_Mem} (h : f11_setOwners gh M p1 p2 p3 p4 = some (.inl (r, M1))) : Met l yL_setOwners wsL_setOwners rmL_setOwners (va_Pc [.ref (ad 0), .int p1, .int p2, .int p3, .int (rv_i p4), .ref o] (rL_P D cI cZ cO cJ ad gh mi de o sz M w)) (rL_qo D cI cZ cO cJ ad gh de o sz gh M1 r.toInt64) 2 12 (rL_A ad gh sz o) := by
  refine rL_met rfl (Nat.le_of_ble_eq_true rfl) (fun p e s m args below meth c ls S htab hret hlk hP hl => ?_)
  have hsz := hP.2.1
  subst hsz
  have E : rL_E D cI cZ cO cJ ad gh mi de o M w cL_setOwners 7 [(0, 14, 17, 13), (0, 14, 21, 23)] p l s m args meth c := ⟨S, hP, hI, hfl, htab, hret, hlk⟩
  change rv_has ls [some (.ref (ad 0)), some (.int p1), some (.int p2), some (.int p3), some (.int (rv_i p4)), some (.ref o), none] at hl
  refine lv_aload E.1.1 E.1.2.1 dL_setOwners_0 (hl.2.2 5 _ rfl) ?_
  refine lv_iconst (v := 0) E.1.1 E.1.2.1 dL_setOwners_2 (by decide) ?_
  refine lv_aload_n E.1.1 E.1.2.1 dL_setOwners_3 rfl (hl.2.2 0 _ rfl) ?_
  refine lv_iload_n E.1.1 E.1.2.1 dL_setOwners_4 rfl (hl.2.2 1 _ rfl) ?_
  refine lv_iload_n E.1.1 E.1.2.1 dL_setOwners_5 rfl (hl.2.2 2 _ rfl) ?_
  refine lv_iload_n E.1.1 E.1.2.1 dL_setOwners_6 rfl (hl.2.2 3 _ rfl) ?_
  refine lv_iload E.1.1 E.1.2.1 dL_setOwners_7 (hl.2.2 4 _ rfl) ?_
  refine rL_ok (v := r) E (fun _ => c11_setOwners hfl hI h) gL_111 hX11_setOwners ⟨rfl, rfl⟩ ⟨Nat.le_of_ble_eq_true rfl, Nat.le_of_ble_eq_true rfl⟩ ⟨Nat.le_of_ble_eq_true rfl, Nat.le_of_ble_eq_true rfl⟩ rfl (lv := [some (.ref (ad 0)), some (.int p1), some (.int p2), some (.int p3), some (.int (rv_i p4)), some (.ref o), none]) hl rfl (As := [.int p1, .int p2, .int p3, .int (rv_i p4)]) (rest := [.int 0, .ref o]) rfl (Nat.le_of_ble_eq_true rfl) dL_setOwners_9 (fun u H1 locs1 h0 hI' hs hG ho hS => ?_)
  refine lv_i2l E.1.1 E.1.2.1 dL_setOwners_12 rfl ?_
  exact rL_end E h0 hI' hs hG ho hS dL_setOwners_13 dL_setOwners_14 (pc2 := 25) (by decide) dL_setOwners_25 dL_setOwners_26
theorem wL_setOwners_x1 {l : Launch} {D : va_G} {cI cZ cO cJ : ClassId} {ad : Nat → Nat} {gh : rC_gh} {mi de o sz : Nat} {w : Int64} (hfl : l.stackTraces = false) (hI : rC_I ad gh) {M : rv_Mem} {p1 : Int32} {p2 : Int32} {p3 : Int32} {p4 : Bool} {M1 : rv_Mem} (h : f11_setOwners gh M p1 p2 p3 p4 = some (.inr (1, M1))) : Met l yL_setOwners wsL_setOwners rmL_setOwners (va_Pc [.ref (ad 0), .int p1, .int p2, .int p3, .int (rv_i p4), .ref o] (rL_P D cI cZ cO cJ ad gh mi de o sz M w)) (rL_qx D cI cZ cO cJ ad gh de o sz 1 M1 w) 2 12 (rL_A ad gh sz o) := by
  refine rL_met rfl (Nat.le_of_ble_eq_true rfl) (fun p e s m args below meth c ls S htab hret hlk hP hl => ?_)
  have hsz := hP.2.1
  subst hsz
  have E : rL_E D cI cZ cO cJ ad gh mi de o M w cL_setOwners 7 [(0, 14, 17, 13), (0, 14, 21, 23)] p l s m args meth c := ⟨S, hP, hI, hfl, htab, hret, hlk⟩
  change rv_has ls [some (.ref (ad 0)), some (.int p1), some (.int p2), some (.int p3), some (.int (rv_i p4)), some (.ref o), none] at hl
  refine lv_aload E.1.1 E.1.2.1 dL_setOwners_0 (hl.2.2 5 _ rfl) ?_
  refine lv_iconst (v := 0) E.1.1 E.1.2.1 dL_setOwners_2 (by decide) ?_
  refine lv_aload_n E.1.1 E.1.2.1 dL_setOwners_3 rfl (hl.2.2 0 _ rfl) ?_
  refine lv_iload_n E.1.1 E.1.2.1 dL_setOwners_4 rfl (hl.2.2 1 _ rfl) ?_
  refine lv_iload_n E.1.1 E.1.2.1 dL_setOwners_5 rfl (hl.2.2 2 _ rfl) ?_
  refine lv_iload_n E.1.1 E.1.2.1 dL_setOwners_6 rfl (hl.2.2 3 _ rfl) ?_
  refine lv_iload E.1.1 E.1.2.1 dL_setOwners_7 (hl.2.2 4 _ rfl) ?_
  refine rL_ex (mk := true) (x := 1) E (fun _ => c11_setOwners_x hfl hI h) (Or.inl rfl) gL_111 hX11_setOwners ⟨rfl, rfl⟩ ⟨Nat.le_of_ble_eq_true rfl, Nat.le_of_ble_eq_true rfl⟩ ⟨Nat.le_of_ble_eq_true rfl, Nat.le_of_ble_eq_true rfl⟩ rfl (lv := [some (.ref (ad 0)), some (.int p1), some (.int p2), some (.int p3), some (.int (rv_i p4)), some (.ref o), none]) hl rfl (As := [.int p1, .int p2, .int p3, .int (rv_i p4)]) (rest := [.int 0, .ref o]) rfl (Nat.le_of_ble_eq_true rfl) dL_setOwners_9 [] ⟨0, 14, 17, 13⟩ [⟨0, 14, 21, 23⟩] rfl (fun z hz => nomatch hz) rfl (by decide) (rv_al (rv_t2 (List.mem_of_getElem? (i := 87) rfl)) rfl) E.2.1.2.2.2.2.1.2.2.2.1 (fun q9 H1 locs1 hG ho hS => ?_)
  refine lv_astore E.1.1 E.1.2.1 dL_setOwners_17 (rv_has_k hl) (Nat.le_of_ble_eq_true rfl) rfl (fun ls' hl' => ?_)
  exact rL_endx E hG ho hS (by decide) dL_setOwners_19 dL_setOwners_20
theorem wL_setOwners_x2 {l : Launch} {D : va_G} {cI cZ cO cJ : ClassId} {ad : Nat → Nat} {gh : rC_gh} {mi de o sz : Nat} {w : Int64} (hfl : l.stackTraces = false) (hI : rC_I ad gh) {M : rv_Mem} {p1 : Int32} {p2 : Int32} {p3 : Int32} {p4 : Bool} {M1 : rv_Mem} (h : f11_setOwners gh M p1 p2 p3 p4 = some (.inr (2, M1))) : Met l yL_setOwners wsL_setOwners rmL_setOwners (va_Pc [.ref (ad 0), .int p1, .int p2, .int p3, .int (rv_i p4), .ref o] (rL_P D cI cZ cO cJ ad gh mi de o sz M w)) (rL_qx D cI cZ cO cJ ad gh de o sz 2 M1 w) 2 12 (rL_A ad gh sz o) := by
  refine rL_met rfl (Nat.le_of_ble_eq_true rfl) (fun p e s m args below meth c ls S htab hret hlk hP hl => ?_)
  have hsz := hP.2.1
  subst hsz
  have E : rL_E D cI cZ cO cJ ad gh mi de o M w cL_setOwners 7 [(0, 14, 17, 13), (0, 14, 21, 23)] p l s m args meth c := ⟨S, hP, hI, hfl, htab, hret, hlk⟩
  change rv_has ls [some (.ref (ad 0)), some (.int p1), some (.int p2), some (.int p3), some (.int (rv_i p4)), some (.ref o), none] at hl
  refine lv_aload E.1.1 E.1.2.1 dL_setOwners_0 (hl.2.2 5 _ rfl) ?_
  refine lv_iconst (v := 0) E.1.1 E.1.2.1 dL_setOwners_2 (by decide) ?_
  refine lv_aload_n E.1.1 E.1.2.1 dL_setOwners_3 rfl (hl.2.2 0 _ rfl) ?_
  refine lv_iload_n E.1.1 E.1.2.1 dL_setOwners_4 rfl (hl.2.2 1 _ rfl) ?_
  refine lv_iload_n E.1.1 E.1.2.1 dL_setOwners_5 rfl (hl.2.2 2 _ rfl) ?_
  refine lv_iload_n E.1.1 E.1.2.1 dL_setOwners_6 rfl (hl.2.2 3 _ rfl) ?_
  refine lv_iload E.1.1 E.1.2.1 dL_setOwners_7 (hl.2.2 4 _ rfl) ?_
  refine rL_ex (mk := true) (x := 2) E (fun _ => c11_setOwners_x hfl hI h) (Or.inl rfl) gL_111 hX11_setOwners ⟨rfl, rfl⟩ ⟨Nat.le_of_ble_eq_true rfl, Nat.le_of_ble_eq_true rfl⟩ ⟨Nat.le_of_ble_eq_true rfl, Nat.le_of_ble_eq_true rfl⟩ rfl (lv := [some (.ref (ad 0)), some (.int p1), some (.int p2), some (.int p3), some (.int (rv_i p4)), some (.ref o), none]) hl rfl (As := [.int p1, .int p2, .int p3, .int (rv_i p4)]) (rest := [.int 0, .ref o]) rfl (Nat.le_of_ble_eq_true rfl) dL_setOwners_9 [⟨0, 14, 17, 13⟩] ⟨0, 14, 21, 23⟩ [] rfl (fun z hz => by cases List.mem_singleton.mp hz; exact ⟨by decide, _, rv_al (rv_t2 (List.mem_of_getElem? (i := 87) rfl)) rfl, E.2.1.2.2.2.2.2.2.2.2.1.1⟩) rfl (by decide) (rv_al (rv_t3 (List.mem_of_getElem? (i := 0) rfl)) rfl) E.2.1.2.2.2.2.1.2.2.2.2.1 (fun q9 H1 locs1 hG ho hS => ?_)
  refine lv_astore E.1.1 E.1.2.1 dL_setOwners_21 (rv_has_k hl) (Nat.le_of_ble_eq_true rfl) rfl (fun ls' hl' => ?_)
  exact rL_endx E hG ho hS (by decide) dL_setOwners_23 dL_setOwners_24
theorem gL_115 : GoodIn rv_AL (wsV RL 115 RX11 yX11_setInclude (rv_ws yX11_setInclude cX11_setInclude 4 (some .boolean))) := rv_gV (rv_al (rv_t6 (List.mem_of_getElem? (i := 27) rfl)) rfl) (rv_al (rv_t6 (List.mem_of_getElem? (i := 28) rfl)) rfl) (rv_al (rv_t6 (List.mem_of_getElem? (i := 29) rfl)) rfl) (rv_al (rv_t1 (List.mem_of_getElem? (i := 1) rfl)) rfl) (rv_al (rv_t6 (List.mem_of_getElem? (i := 30) rfl)) rfl)
abbrev rmL_setInclude : Room := { frames := 8, cells := 2, slots := 12, locals := 143 }
abbrev wsL_setInclude : List Cond := Cond.codeWith yL_setInclude cL_setInclude 6 (some .int) [(0, 19, 22, 13)] :: rv_AL
theorem wL_setInclude {l : Launch} {D : va_G} {cI cZ cO cJ : ClassId} {ad : Nat → Nat} {gh : rC_gh} {mi de o sz : Nat} {w : Int64} (hfl : l.stackTraces = false) (hI : rC_I ad gh) {M : rv_Mem} {p1 : Int32} {p2 : Int32} {p3 : Bool} {r : Bool} {M1 : rv_Mem} (h : f11_setInclude gh M p1 p2 p3 = some (.inl (r, M1))) : Met l yL_setInclude wsL_setInclude rmL_setInclude (va_Pc [.ref (ad 0), .int p1, .int p2, .int (rv_i p3), .ref o] (rL_P D cI cZ cO cJ ad gh mi de o sz M w)) (rL_qo D cI cZ cO cJ ad gh de o sz gh M1 (if r = true then 1 else 0)) 2 12 (rL_A ad gh sz o) := by
  refine rL_met rfl (Nat.le_of_ble_eq_true rfl) (fun p e s m args below meth c ls S htab hret hlk hP hl => ?_)
  have hsz := hP.2.1
  subst hsz
  have E : rL_E D cI cZ cO cJ ad gh mi de o M w cL_setInclude 6 [(0, 19, 22, 13)] p l s m args meth c := ⟨S, hP, hI, hfl, htab, hret, hlk⟩
  change rv_has ls [some (.ref (ad 0)), some (.int p1), some (.int p2), some (.int (rv_i p3)), some (.ref o), none] at hl
  refine lv_aload E.1.1 E.1.2.1 dL_setInclude_0 (hl.2.2 4 _ rfl) ?_
  refine lv_iconst (v := 0) E.1.1 E.1.2.1 dL_setInclude_2 (by decide) ?_
  refine lv_aload_n E.1.1 E.1.2.1 dL_setInclude_3 rfl (hl.2.2 0 _ rfl) ?_
  refine lv_iload_n E.1.1 E.1.2.1 dL_setInclude_4 rfl (hl.2.2 1 _ rfl) ?_
  refine lv_iload_n E.1.1 E.1.2.1 dL_setInclude_5 rfl (hl.2.2 2 _ rfl) ?_
  refine lv_iload_n E.1.1 E.1.2.1 dL_setInclude_6 rfl (hl.2.2 3 _ rfl) ?_
  refine rL_ok (v := rv_i r) E (fun _ => c11_setInclude hfl hI h) gL_115 hX11_setInclude ⟨rfl, rfl⟩ ⟨Nat.le_of_ble_eq_true rfl, Nat.le_of_ble_eq_true rfl⟩ ⟨Nat.le_of_ble_eq_true rfl, Nat.le_of_ble_eq_true rfl⟩ rfl (lv := [some (.ref (ad 0)), some (.int p1), some (.int p2), some (.int (rv_i p3)), some (.ref o), none]) hl rfl (As := [.int p1, .int p2, .int (rv_i p3)]) (rest := [.int 0, .ref o]) rfl (Nat.le_of_ble_eq_true rfl) dL_setInclude_7 (fun u H1 locs1 h0 hI' hs hG ho hS => ?_)
  cases r with
  | true =>
    refine lv_if_eq (tgt := 17) E.1.1 E.1.2.1 dL_setInclude_10 (by decide) (fun z => absurd z (by decide)) (fun _ => ?_)
    refine lv_lconst (v := 1) E.1.1 E.1.2.1 dL_setInclude_13 (by decide) ?_
    refine lv_goto (tgt := 18) E.1.1 E.1.2.1 dL_setInclude_14 (by decide) ?_
    exact rL_end E h0 hI' hs hG ho hS dL_setInclude_18 dL_setInclude_19 (pc2 := 26) (by decide) dL_setInclude_26 dL_setInclude_27
  | false =>
    refine lv_if_eq (tgt := 17) E.1.1 E.1.2.1 dL_setInclude_10 (by decide) (fun _ => ?_) (fun z => absurd rfl z)
    refine lv_lconst (v := 0) E.1.1 E.1.2.1 dL_setInclude_17 (by decide) ?_
    exact rL_end E h0 hI' hs hG ho hS dL_setInclude_18 dL_setInclude_19 (pc2 := 26) (by decide) dL_setInclude_26 dL_setInclude_27
theorem wL_setInclude_x1 {l : Launch} {D : va_G} {cI cZ cO cJ : ClassId} {ad : Nat → Nat} {gh : rC_gh} {mi de o sz : Nat} {w : Int64} (hfl : l.stackTraces = false) (hI : rC_I ad gh) {M : rv_Mem} {p1 : Int32} {p2 : Int32} {p3 : Bool} {M1 : rv_Mem} (h : f11_setInclude gh M p1 p2 p3 = some (.inr (1, M1))) : Met l yL_setInclude wsL_setInclude rmL_setInclude (va_Pc [.ref (ad 0), .int p1, .int p2, .int (rv_i p3), .ref o] (rL_P D cI cZ cO cJ ad gh mi de o sz M w)) (rL_qx D cI cZ cO cJ ad gh de o sz 1 M1 w) 2 12 (rL_A ad gh sz o) := by
  refine rL_met rfl (Nat.le_of_ble_eq_true rfl) (fun p e s m args below meth c ls S htab hret hlk hP hl => ?_)
  have hsz := hP.2.1
  subst hsz
  have E : rL_E D cI cZ cO cJ ad gh mi de o M w cL_setInclude 6 [(0, 19, 22, 13)] p l s m args meth c := ⟨S, hP, hI, hfl, htab, hret, hlk⟩
  change rv_has ls [some (.ref (ad 0)), some (.int p1), some (.int p2), some (.int (rv_i p3)), some (.ref o), none] at hl
  refine lv_aload E.1.1 E.1.2.1 dL_setInclude_0 (hl.2.2 4 _ rfl) ?_
  refine lv_iconst (v := 0) E.1.1 E.1.2.1 dL_setInclude_2 (by decide) ?_
  refine lv_aload_n E.1.1 E.1.2.1 dL_setInclude_3 rfl (hl.2.2 0 _ rfl) ?_
  refine lv_iload_n E.1.1 E.1.2.1 dL_setInclude_4 rfl (hl.2.2 1 _ rfl) ?_
  refine lv_iload_n E.1.1 E.1.2.1 dL_setInclude_5 rfl (hl.2.2 2 _ rfl) ?_
  refine lv_iload_n E.1.1 E.1.2.1 dL_setInclude_6 rfl (hl.2.2 3 _ rfl) ?_
  refine rL_ex (mk := true) (x := 1) E (fun _ => c11_setInclude_x hfl hI h) (Or.inl rfl) gL_115 hX11_setInclude ⟨rfl, rfl⟩ ⟨Nat.le_of_ble_eq_true rfl, Nat.le_of_ble_eq_true rfl⟩ ⟨Nat.le_of_ble_eq_true rfl, Nat.le_of_ble_eq_true rfl⟩ rfl (lv := [some (.ref (ad 0)), some (.int p1), some (.int p2), some (.int (rv_i p3)), some (.ref o), none]) hl rfl (As := [.int p1, .int p2, .int (rv_i p3)]) (rest := [.int 0, .ref o]) rfl (Nat.le_of_ble_eq_true rfl) dL_setInclude_7 [] ⟨0, 19, 22, 13⟩ [] rfl (fun z hz => nomatch hz) rfl (by decide) (rv_al (rv_t2 (List.mem_of_getElem? (i := 87) rfl)) rfl) E.2.1.2.2.2.2.1.2.2.2.1 (fun q9 H1 locs1 hG ho hS => ?_)
  refine lv_astore E.1.1 E.1.2.1 dL_setInclude_22 (rv_has_k hl) (Nat.le_of_ble_eq_true rfl) rfl (fun ls' hl' => ?_)
  exact rL_endx E hG ho hS (by decide) dL_setInclude_24 dL_setInclude_25
theorem gL_119 : GoodIn rv_AL (wsV RL 119 RX11 yX11_setLastResort (rv_ws yX11_setLastResort cX11_setLastResort 3 (some .int))) := rv_gV (rv_al (rv_t6 (List.mem_of_getElem? (i := 39) rfl)) rfl) (rv_al (rv_t6 (List.mem_of_getElem? (i := 40) rfl)) rfl) (rv_al (rv_t6 (List.mem_of_getElem? (i := 41) rfl)) rfl) (rv_al (rv_t1 (List.mem_of_getElem? (i := 1) rfl)) rfl) (rv_al (rv_t6 (List.mem_of_getElem? (i := 42) rfl)) rfl)
abbrev rmL_setLastResort : Room := { frames := 8, cells := 1, slots := 6, locals := 142 }
abbrev wsL_setLastResort : List Cond := Cond.codeWith yL_setLastResort cL_setLastResort 4 (some .int) [(0, 9, 12, 13)] :: rv_AL
theorem wL_setLastResort {l : Launch} {D : va_G} {cI cZ cO cJ : ClassId} {ad : Nat → Nat} {gh : rC_gh} {mi de o sz : Nat} {w : Int64} (hfl : l.stackTraces = false) (hI : rC_I ad gh) {M : rv_Mem} {p1 : Int32} {r : Int32} {M1 : rv_Mem} (h : f11_setLastResort gh M p1 = some (.inl (r, M1))) : Met l yL_setLastResort wsL_setLastResort rmL_setLastResort (va_Pc [.ref (ad 0), .int p1, .ref o] (rL_P D cI cZ cO cJ ad gh mi de o sz M w)) (rL_qo D cI cZ cO cJ ad gh de o sz gh M1 r.toInt64) 1 6 (rL_A ad gh sz o) := by
  refine rL_met rfl (Nat.le_of_ble_eq_true rfl) (fun p e s m args below meth c ls S htab hret hlk hP hl => ?_)
  have hsz := hP.2.1
  subst hsz
  have E : rL_E D cI cZ cO cJ ad gh mi de o M w cL_setLastResort 4 [(0, 9, 12, 13)] p l s m args meth c := ⟨S, hP, hI, hfl, htab, hret, hlk⟩
  change rv_has ls [some (.ref (ad 0)), some (.int p1), some (.ref o), none] at hl
  refine lv_aload_n E.1.1 E.1.2.1 dL_setLastResort_0 rfl (hl.2.2 2 _ rfl) ?_
  refine lv_iconst (v := 0) E.1.1 E.1.2.1 dL_setLastResort_1 (by decide) ?_
  refine lv_aload_n E.1.1 E.1.2.1 dL_setLastResort_2 rfl (hl.2.2 0 _ rfl) ?_
  refine lv_iload_n E.1.1 E.1.2.1 dL_setLastResort_3 rfl (hl.2.2 1 _ rfl) ?_
  refine rL_ok (v := r) E (fun _ => c11_setLastResort hfl hI h) gL_119 hX11_setLastResort ⟨rfl, rfl⟩ ⟨Nat.le_of_ble_eq_true rfl, Nat.le_of_ble_eq_true rfl⟩ ⟨Nat.le_of_ble_eq_true rfl, Nat.le_of_ble_eq_true rfl⟩ rfl (lv := [some (.ref (ad 0)), some (.int p1), some (.ref o), none]) hl rfl (As := [.int p1]) (rest := [.int 0, .ref o]) rfl (Nat.le_of_ble_eq_true rfl) dL_setLastResort_4 (fun u H1 locs1 h0 hI' hs hG ho hS => ?_)
  refine lv_i2l E.1.1 E.1.2.1 dL_setLastResort_7 rfl ?_
  exact rL_end E h0 hI' hs hG ho hS dL_setLastResort_8 dL_setLastResort_9 (pc2 := 15) (by decide) dL_setLastResort_15 dL_setLastResort_16
theorem wL_setLastResort_x1 {l : Launch} {D : va_G} {cI cZ cO cJ : ClassId} {ad : Nat → Nat} {gh : rC_gh} {mi de o sz : Nat} {w : Int64} (hfl : l.stackTraces = false) (hI : rC_I ad gh) {M : rv_Mem} {p1 : Int32} {M1 : rv_Mem} (h : f11_setLastResort gh M p1 = some (.inr (1, M1))) : Met l yL_setLastResort wsL_setLastResort rmL_setLastResort (va_Pc [.ref (ad 0), .int p1, .ref o] (rL_P D cI cZ cO cJ ad gh mi de o sz M w)) (rL_qx D cI cZ cO cJ ad gh de o sz 1 M1 w) 1 6 (rL_A ad gh sz o) := by
  refine rL_met rfl (Nat.le_of_ble_eq_true rfl) (fun p e s m args below meth c ls S htab hret hlk hP hl => ?_)
  have hsz := hP.2.1
  subst hsz
  have E : rL_E D cI cZ cO cJ ad gh mi de o M w cL_setLastResort 4 [(0, 9, 12, 13)] p l s m args meth c := ⟨S, hP, hI, hfl, htab, hret, hlk⟩
  change rv_has ls [some (.ref (ad 0)), some (.int p1), some (.ref o), none] at hl
  refine lv_aload_n E.1.1 E.1.2.1 dL_setLastResort_0 rfl (hl.2.2 2 _ rfl) ?_
  refine lv_iconst (v := 0) E.1.1 E.1.2.1 dL_setLastResort_1 (by decide) ?_
  refine lv_aload_n E.1.1 E.1.2.1 dL_setLastResort_2 rfl (hl.2.2 0 _ rfl) ?_
  refine lv_iload_n E.1.1 E.1.2.1 dL_setLastResort_3 rfl (hl.2.2 1 _ rfl) ?_
  refine rL_ex (mk := true) (x := 1) E (fun _ => c11_setLastResort_x hfl hI h) (Or.inl rfl) gL_119 hX11_setLastResort ⟨rfl, rfl⟩ ⟨Nat.le_of_ble_eq_true rfl, Nat.le_of_ble_eq_true rfl⟩ ⟨Nat.le_of_ble_eq_true rfl, Nat.le_of_ble_eq_true rfl⟩ rfl (lv := [some (.ref (ad 0)), some (.int p1), some (.ref o), none]) hl rfl (As := [.int p1]) (rest := [.int 0, .ref o]) rfl (Nat.le_of_ble_eq_true rfl) dL_setLastResort_4 [] ⟨0, 9, 12, 13⟩ [] rfl (fun z hz => nomatch hz) rfl (by decide) (rv_al (rv_t2 (List.mem_of_getElem? (i := 87) rfl)) rfl) E.2.1.2.2.2.2.1.2.2.2.1 (fun q9 H1 locs1 hG ho hS => ?_)
  refine lv_astore_n E.1.1 E.1.2.1 dL_setLastResort_12 rfl (rv_has_k hl) (Nat.le_of_ble_eq_true rfl) rfl (fun ls' hl' => ?_)
  exact rL_endx E hG ho hS (by decide) dL_setLastResort_13 dL_setLastResort_14
theorem gL_122 : GoodIn rv_AL (wsV RL 122 RX11 yX11_owners (rv_ws yX11_owners cX11_owners 3 (some .int))) := rv_gV (rv_al (rv_t6 (List.mem_of_getElem? (i := 46) rfl)) rfl) (rv_al (rv_t6 (List.mem_of_getElem? (i := 47) rfl)) rfl) (rv_al (rv_t6 (List.mem_of_getElem? (i := 48) rfl)) rfl) (rv_al (rv_t1 (List.mem_of_getElem? (i := 1) rfl)) rfl) (rv_al (rv_t6 (List.mem_of_getElem? (i := 49) rfl)) rfl)
abbrev rmL_owners : Room := { frames := 8, cells := 2, slots := 12, locals := 142 }
abbrev wsL_owners : List Cond := Cond.codeWith yL_owners cL_owners 5 (some .int) [(0, 10, 13, 13)] :: rv_AL
theorem wL_owners {l : Launch} {D : va_G} {cI cZ cO cJ : ClassId} {ad : Nat → Nat} {gh : rC_gh} {mi de o sz : Nat} {w : Int64} (hfl : l.stackTraces = false) (hI : rC_I ad gh) {M : rv_Mem} {p1 : Int32} {p2 : Int32} {r : Int32} (h : f11_owners gh M p1 p2 = some (.inl r)) : Met l yL_owners wsL_owners rmL_owners (va_Pc [.ref (ad 0), .int p1, .int p2, .ref o] (rL_P D cI cZ cO cJ ad gh mi de o sz M w)) (rL_qo D cI cZ cO cJ ad gh de o sz gh M r.toInt64) 2 12 (rL_A ad gh sz o) := by
  refine rL_met rfl (Nat.le_of_ble_eq_true rfl) (fun p e s m args below meth c ls S htab hret hlk hP hl => ?_)
  have hsz := hP.2.1
  subst hsz
  have E : rL_E D cI cZ cO cJ ad gh mi de o M w cL_owners 5 [(0, 10, 13, 13)] p l s m args meth c := ⟨S, hP, hI, hfl, htab, hret, hlk⟩
  change rv_has ls [some (.ref (ad 0)), some (.int p1), some (.int p2), some (.ref o), none] at hl
  refine lv_aload_n E.1.1 E.1.2.1 dL_owners_0 rfl (hl.2.2 3 _ rfl) ?_
  refine lv_iconst (v := 0) E.1.1 E.1.2.1 dL_owners_1 (by decide) ?_
  refine lv_aload_n E.1.1 E.1.2.1 dL_owners_2 rfl (hl.2.2 0 _ rfl) ?_
  refine lv_iload_n E.1.1 E.1.2.1 dL_owners_3 rfl (hl.2.2 1 _ rfl) ?_
  refine lv_iload_n E.1.1 E.1.2.1 dL_owners_4 rfl (hl.2.2 2 _ rfl) ?_
  refine rL_ok (v := r) E (fun _ => c11_owners hfl hI h) gL_122 hX11_owners ⟨rfl, rfl⟩ ⟨Nat.le_of_ble_eq_true rfl, Nat.le_of_ble_eq_true rfl⟩ ⟨Nat.le_of_ble_eq_true rfl, Nat.le_of_ble_eq_true rfl⟩ rfl (lv := [some (.ref (ad 0)), some (.int p1), some (.int p2), some (.ref o), none]) hl rfl (As := [.int p1, .int p2]) (rest := [.int 0, .ref o]) rfl (Nat.le_of_ble_eq_true rfl) dL_owners_5 (fun u H1 locs1 h0 hI' hs hG ho hS => ?_)
  refine lv_i2l E.1.1 E.1.2.1 dL_owners_8 rfl ?_
  exact rL_end E h0 hI' hs hG ho hS dL_owners_9 dL_owners_10 (pc2 := 17) (by decide) dL_owners_17 dL_owners_18
theorem wL_owners_x1 {l : Launch} {D : va_G} {cI cZ cO cJ : ClassId} {ad : Nat → Nat} {gh : rC_gh} {mi de o sz : Nat} {w : Int64} (hfl : l.stackTraces = false) (hI : rC_I ad gh) {M : rv_Mem} {p1 : Int32} {p2 : Int32} (h : f11_owners gh M p1 p2 = some (.inr 1)) : Met l yL_owners wsL_owners rmL_owners (va_Pc [.ref (ad 0), .int p1, .int p2, .ref o] (rL_P D cI cZ cO cJ ad gh mi de o sz M w)) (rL_qx D cI cZ cO cJ ad gh de o sz 1 M w) 2 12 (rL_A ad gh sz o) := by
  refine rL_met rfl (Nat.le_of_ble_eq_true rfl) (fun p e s m args below meth c ls S htab hret hlk hP hl => ?_)
  have hsz := hP.2.1
  subst hsz
  have E : rL_E D cI cZ cO cJ ad gh mi de o M w cL_owners 5 [(0, 10, 13, 13)] p l s m args meth c := ⟨S, hP, hI, hfl, htab, hret, hlk⟩
  change rv_has ls [some (.ref (ad 0)), some (.int p1), some (.int p2), some (.ref o), none] at hl
  refine lv_aload_n E.1.1 E.1.2.1 dL_owners_0 rfl (hl.2.2 3 _ rfl) ?_
  refine lv_iconst (v := 0) E.1.1 E.1.2.1 dL_owners_1 (by decide) ?_
  refine lv_aload_n E.1.1 E.1.2.1 dL_owners_2 rfl (hl.2.2 0 _ rfl) ?_
  refine lv_iload_n E.1.1 E.1.2.1 dL_owners_3 rfl (hl.2.2 1 _ rfl) ?_
  refine lv_iload_n E.1.1 E.1.2.1 dL_owners_4 rfl (hl.2.2 2 _ rfl) ?_
  refine rL_ex (mk := true) (x := 1) E (fun _ => c11_owners_x hfl hI h) (Or.inl rfl) gL_122 hX11_owners ⟨rfl, rfl⟩ ⟨Nat.le_of_ble_eq_true rfl, Nat.le_of_ble_eq_true rfl⟩ ⟨Nat.le_of_ble_eq_true rfl, Nat.le_of_ble_eq_true rfl⟩ rfl (lv := [some (.ref (ad 0)), some (.int p1), some (.int p2), some (.ref o), none]) hl rfl (As := [.int p1, .int p2]) (rest := [.int 0, .ref o]) rfl (Nat.le_of_ble_eq_true rfl) dL_owners_5 [] ⟨0, 10, 13, 13⟩ [] rfl (fun z hz => nomatch hz) rfl (by decide) (rv_al (rv_t2 (List.mem_of_getElem? (i := 87) rfl)) rfl) E.2.1.2.2.2.2.1.2.2.2.1 (fun q9 H1 locs1 hG ho hS => ?_)
  refine lv_astore E.1.1 E.1.2.1 dL_owners_13 (rv_has_k hl) (Nat.le_of_ble_eq_true rfl) rfl (fun ls' hl' => ?_)
  exact rL_endx E hG ho hS (by decide) dL_owners_15 dL_owners_16
theorem gL_125 : GoodIn rv_AL (wsV RL 125 RX11 yX11_fewest (rv_ws yX11_fewest cX11_fewest 5 (some .int))) := rv_gV (rv_al (rv_t6 (List.mem_of_getElem? (i := 57) rfl)) rfl) (rv_al (rv_t6 (List.mem_of_getElem? (i := 58) rfl)) rfl) (rv_al (rv_t6 (List.mem_of_getElem? (i := 59) rfl)) rfl) (rv_al (rv_t1 (List.mem_of_getElem? (i := 1) rfl)) rfl) (rv_al (rv_t6 (List.mem_of_getElem? (i := 60) rfl)) rfl)
abbrev rmL_fewest : Room := { frames := 8, cells := 1, slots := 6, locals := 146 }
abbrev wsL_fewest : List Cond := Cond.codeWith yL_fewest cL_fewest 4 (some .int) [(0, 9, 12, 13)] :: rv_AL
theorem wL_fewest {l : Launch} {D : va_G} {cI cZ cO cJ : ClassId} {ad : Nat → Nat} {gh : rC_gh} {mi de o sz : Nat} {w : Int64} (hfl : l.stackTraces = false) (hI : rC_I ad gh) {M : rv_Mem} {p1 : Int32} {r : Int32} (h : f11_fewest gh M p1 = some (.inl r)) : Met l yL_fewest wsL_fewest rmL_fewest (va_Pc [.ref (ad 0), .int p1, .ref o] (rL_P D cI cZ cO cJ ad gh mi de o sz M w)) (rL_qo D cI cZ cO cJ ad gh de o sz gh M r.toInt64) 1 6 (rL_A ad gh sz o) := by
  refine rL_met rfl (Nat.le_of_ble_eq_true rfl) (fun p e s m args below meth c ls S htab hret hlk hP hl => ?_)
  have hsz := hP.2.1
  subst hsz
  have E : rL_E D cI cZ cO cJ ad gh mi de o M w cL_fewest 4 [(0, 9, 12, 13)] p l s m args meth c := ⟨S, hP, hI, hfl, htab, hret, hlk⟩
  change rv_has ls [some (.ref (ad 0)), some (.int p1), some (.ref o), none] at hl
  refine lv_aload_n E.1.1 E.1.2.1 dL_fewest_0 rfl (hl.2.2 2 _ rfl) ?_
  refine lv_iconst (v := 0) E.1.1 E.1.2.1 dL_fewest_1 (by decide) ?_
  refine lv_aload_n E.1.1 E.1.2.1 dL_fewest_2 rfl (hl.2.2 0 _ rfl) ?_
  refine lv_iload_n E.1.1 E.1.2.1 dL_fewest_3 rfl (hl.2.2 1 _ rfl) ?_
  refine rL_ok (v := r) E (fun _ => c11_fewest hfl hI h) gL_125 hX11_fewest ⟨rfl, rfl⟩ ⟨Nat.le_of_ble_eq_true rfl, Nat.le_of_ble_eq_true rfl⟩ ⟨Nat.le_of_ble_eq_true rfl, Nat.le_of_ble_eq_true rfl⟩ rfl (lv := [some (.ref (ad 0)), some (.int p1), some (.ref o), none]) hl rfl (As := [.int p1]) (rest := [.int 0, .ref o]) rfl (Nat.le_of_ble_eq_true rfl) dL_fewest_4 (fun u H1 locs1 h0 hI' hs hG ho hS => ?_)
  refine lv_i2l E.1.1 E.1.2.1 dL_fewest_7 rfl ?_
  exact rL_end E h0 hI' hs hG ho hS dL_fewest_8 dL_fewest_9 (pc2 := 15) (by decide) dL_fewest_15 dL_fewest_16
theorem wL_fewest_x1 {l : Launch} {D : va_G} {cI cZ cO cJ : ClassId} {ad : Nat → Nat} {gh : rC_gh} {mi de o sz : Nat} {w : Int64} (hfl : l.stackTraces = false) (hI : rC_I ad gh) {M : rv_Mem} {p1 : Int32} (h : f11_fewest gh M p1 = some (.inr 1)) : Met l yL_fewest wsL_fewest rmL_fewest (va_Pc [.ref (ad 0), .int p1, .ref o] (rL_P D cI cZ cO cJ ad gh mi de o sz M w)) (rL_qx D cI cZ cO cJ ad gh de o sz 1 M w) 1 6 (rL_A ad gh sz o) := by
  refine rL_met rfl (Nat.le_of_ble_eq_true rfl) (fun p e s m args below meth c ls S htab hret hlk hP hl => ?_)
  have hsz := hP.2.1
  subst hsz
  have E : rL_E D cI cZ cO cJ ad gh mi de o M w cL_fewest 4 [(0, 9, 12, 13)] p l s m args meth c := ⟨S, hP, hI, hfl, htab, hret, hlk⟩
  change rv_has ls [some (.ref (ad 0)), some (.int p1), some (.ref o), none] at hl
  refine lv_aload_n E.1.1 E.1.2.1 dL_fewest_0 rfl (hl.2.2 2 _ rfl) ?_
  refine lv_iconst (v := 0) E.1.1 E.1.2.1 dL_fewest_1 (by decide) ?_
  refine lv_aload_n E.1.1 E.1.2.1 dL_fewest_2 rfl (hl.2.2 0 _ rfl) ?_
  refine lv_iload_n E.1.1 E.1.2.1 dL_fewest_3 rfl (hl.2.2 1 _ rfl) ?_
  refine rL_ex (mk := true) (x := 1) E (fun _ => c11_fewest_x hfl hI h) (Or.inl rfl) gL_125 hX11_fewest ⟨rfl, rfl⟩ ⟨Nat.le_of_ble_eq_true rfl, Nat.le_of_ble_eq_true rfl⟩ ⟨Nat.le_of_ble_eq_true rfl, Nat.le_of_ble_eq_true rfl⟩ rfl (lv := [some (.ref (ad 0)), some (.int p1), some (.ref o), none]) hl rfl (As := [.int p1]) (rest := [.int 0, .ref o]) rfl (Nat.le_of_ble_eq_true rfl) dL_fewest_4 [] ⟨0, 9, 12, 13⟩ [] rfl (fun z hz => nomatch hz) rfl (by decide) (rv_al (rv_t2 (List.mem_of_getElem? (i := 87) rfl)) rfl) E.2.1.2.2.2.2.1.2.2.2.1 (fun q9 H1 locs1 hG ho hS => ?_)
  refine lv_astore_n E.1.1 E.1.2.1 dL_fewest_12 rfl (rv_has_k hl) (Nat.le_of_ble_eq_true rfl) rfl (fun ls' hl' => ?_)
  exact rL_endx E hG ho hS (by decide) dL_fewest_13 dL_fewest_14
theorem gL_128 : GoodIn rv_AL (wsV RL 128 RX11 yX11_vote (rv_ws yX11_vote cX11_vote 9 (some .int))) := rv_gV (rv_al (rv_t6 (List.mem_of_getElem? (i := 73) rfl)) rfl) (rv_al (rv_t6 (List.mem_of_getElem? (i := 74) rfl)) rfl) (rv_al (rv_t6 (List.mem_of_getElem? (i := 75) rfl)) rfl) (rv_al (rv_t1 (List.mem_of_getElem? (i := 1) rfl)) rfl) (rv_al (rv_t6 (List.mem_of_getElem? (i := 76) rfl)) rfl)
abbrev rmL_vote : Room := { frames := 9, cells := 5, slots := 30, locals := 170 }
abbrev wsL_vote : List Cond := Cond.codeWith yL_vote cL_vote 8 (some .int) [(0, 16, 19, 13), (0, 16, 23, 23), (0, 16, 27, 25)] :: rv_AL
theorem wL_vote {l : Launch} {D : va_G} {cI cZ cO cJ : ClassId} {ad : Nat → Nat} {gh : rC_gh} {mi de o sz : Nat} {w : Int64} (hfl : l.stackTraces = false) (hI : rC_I ad gh) {M : rv_Mem} {p1 : Int32} {p2 : Int32} {p3 : Int32} {p4 : Int32} {p5 : Int32} {r : Int32} {M1 : rv_Mem} (h : f11_vote gh M p1 p2 p3 p4 p5 = some (.inl (r, M1))) : Met l yL_vote wsL_vote rmL_vote (va_Pc [.ref (ad 0), .int p1, .int p2, .int p3, .int p4, .int p5, .ref o] (rL_P D cI cZ cO cJ ad gh mi de o sz M w)) (rL_qo D cI cZ cO cJ ad gh de o sz gh M1 r.toInt64) 5 30 (rL_A ad gh sz o) := by
  refine rL_met rfl (Nat.le_of_ble_eq_true rfl) (fun p e s m args below meth c ls S htab hret hlk hP hl => ?_)
  have hsz := hP.2.1
  subst hsz
  have E : rL_E D cI cZ cO cJ ad gh mi de o M w cL_vote 8 [(0, 16, 19, 13), (0, 16, 23, 23), (0, 16, 27, 25)] p l s m args meth c := ⟨S, hP, hI, hfl, htab, hret, hlk⟩
  change rv_has ls [some (.ref (ad 0)), some (.int p1), some (.int p2), some (.int p3), some (.int p4), some (.int p5), some (.ref o), none] at hl
  refine lv_aload E.1.1 E.1.2.1 dL_vote_0 (hl.2.2 6 _ rfl) ?_
  refine lv_iconst (v := 0) E.1.1 E.1.2.1 dL_vote_2 (by decide) ?_
  refine lv_aload_n E.1.1 E.1.2.1 dL_vote_3 rfl (hl.2.2 0 _ rfl) ?_
  refine lv_iload_n E.1.1 E.1.2.1 dL_vote_4 rfl (hl.2.2 1 _ rfl) ?_
  refine lv_iload_n E.1.1 E.1.2.1 dL_vote_5 rfl (hl.2.2 2 _ rfl) ?_
  refine lv_iload_n E.1.1 E.1.2.1 dL_vote_6 rfl (hl.2.2 3 _ rfl) ?_
  refine lv_iload E.1.1 E.1.2.1 dL_vote_7 (hl.2.2 4 _ rfl) ?_
  refine lv_iload E.1.1 E.1.2.1 dL_vote_9 (hl.2.2 5 _ rfl) ?_
  refine rL_ok (v := r) E (fun _ => c11_vote hfl hI h) gL_128 hX11_vote ⟨rfl, rfl⟩ ⟨Nat.le_of_ble_eq_true rfl, Nat.le_of_ble_eq_true rfl⟩ ⟨Nat.le_of_ble_eq_true rfl, Nat.le_of_ble_eq_true rfl⟩ rfl (lv := [some (.ref (ad 0)), some (.int p1), some (.int p2), some (.int p3), some (.int p4), some (.int p5), some (.ref o), none]) hl rfl (As := [.int p1, .int p2, .int p3, .int p4, .int p5]) (rest := [.int 0, .ref o]) rfl (Nat.le_of_ble_eq_true rfl) dL_vote_11 (fun u H1 locs1 h0 hI' hs hG ho hS => ?_)
  refine lv_i2l E.1.1 E.1.2.1 dL_vote_14 rfl ?_
  exact rL_end E h0 hI' hs hG ho hS dL_vote_15 dL_vote_16 (pc2 := 31) (by decide) dL_vote_31 dL_vote_32
theorem wL_vote_x1 {l : Launch} {D : va_G} {cI cZ cO cJ : ClassId} {ad : Nat → Nat} {gh : rC_gh} {mi de o sz : Nat} {w : Int64} (hfl : l.stackTraces = false) (hI : rC_I ad gh) {M : rv_Mem} {p1 : Int32} {p2 : Int32} {p3 : Int32} {p4 : Int32} {p5 : Int32} {M1 : rv_Mem} (h : f11_vote gh M p1 p2 p3 p4 p5 = some (.inr (1, M1))) : Met l yL_vote wsL_vote rmL_vote (va_Pc [.ref (ad 0), .int p1, .int p2, .int p3, .int p4, .int p5, .ref o] (rL_P D cI cZ cO cJ ad gh mi de o sz M w)) (rL_qx D cI cZ cO cJ ad gh de o sz 1 M1 w) 5 30 (rL_A ad gh sz o) := by
  refine rL_met rfl (Nat.le_of_ble_eq_true rfl) (fun p e s m args below meth c ls S htab hret hlk hP hl => ?_)
  have hsz := hP.2.1
  subst hsz
  have E : rL_E D cI cZ cO cJ ad gh mi de o M w cL_vote 8 [(0, 16, 19, 13), (0, 16, 23, 23), (0, 16, 27, 25)] p l s m args meth c := ⟨S, hP, hI, hfl, htab, hret, hlk⟩
  change rv_has ls [some (.ref (ad 0)), some (.int p1), some (.int p2), some (.int p3), some (.int p4), some (.int p5), some (.ref o), none] at hl
  refine lv_aload E.1.1 E.1.2.1 dL_vote_0 (hl.2.2 6 _ rfl) ?_
  refine lv_iconst (v := 0) E.1.1 E.1.2.1 dL_vote_2 (by decide) ?_
  refine lv_aload_n E.1.1 E.1.2.1 dL_vote_3 rfl (hl.2.2 0 _ rfl) ?_
  refine lv_iload_n E.1.1 E.1.2.1 dL_vote_4 rfl (hl.2.2 1 _ rfl) ?_
  refine lv_iload_n E.1.1 E.1.2.1 dL_vote_5 rfl (hl.2.2 2 _ rfl) ?_
  refine lv_iload_n E.1.1 E.1.2.1 dL_vote_6 rfl (hl.2.2 3 _ rfl) ?_
  refine lv_iload E.1.1 E.1.2.1 dL_vote_7 (hl.2.2 4 _ rfl) ?_
  refine lv_iload E.1.1 E.1.2.1 dL_vote_9 (hl.2.2 5 _ rfl) ?_
  refine rL_ex (mk := true) (x := 1) E (fun _ => c11_vote_x hfl hI h) (Or.inl rfl) gL_128 hX11_vote ⟨rfl, rfl⟩ ⟨Nat.le_of_ble_eq_true rfl, Nat.le_of_ble_eq_true rfl⟩ ⟨Nat.le_of_ble_eq_true rfl, Nat.le_of_ble_eq_true rfl⟩ rfl (lv := [some (.ref (ad 0)), some (.int p1), some (.int p2), some (.int p3), some (.int p4), some (.int p5), some (.ref o), none]) hl rfl (As := [.int p1, .int p2, .int p3, .int p4, .int p5]) (rest := [.int 0, .ref o]) rfl (Nat.le_of_ble_eq_true rfl) dL_vote_11 [] ⟨0, 16, 19, 13⟩ [⟨0, 16, 23, 23⟩, ⟨0, 16, 27, 25⟩] rfl (fun z hz => nomatch hz) rfl (by decide) (rv_al (rv_t2 (List.mem_of_getElem? (i := 87) rfl)) rfl) E.2.1.2.2.2.2.1.2.2.2.1 (fun q9 H1 locs1 hG ho hS => ?_)
  refine lv_astore E.1.1 E.1.2.1 dL_vote_19 (rv_has_k hl) (Nat.le_of_ble_eq_true rfl) rfl (fun ls' hl' => ?_)
  exact rL_endx E hG ho hS (by decide) dL_vote_21 dL_vote_22
theorem wL_vote_x2 {l : Launch} {D : va_G} {cI cZ cO cJ : ClassId} {ad : Nat → Nat} {gh : rC_gh} {mi de o sz : Nat} {w : Int64} (hfl : l.stackTraces = false) (hI : rC_I ad gh) {M : rv_Mem} {p1 : Int32} {p2 : Int32} {p3 : Int32} {p4 : Int32} {p5 : Int32} {M1 : rv_Mem} (h : f11_vote gh M p1 p2 p3 p4 p5 = some (.inr (2, M1))) : Met l yL_vote wsL_vote rmL_vote (va_Pc [.ref (ad 0), .int p1, .int p2, .int p3, .int p4, .int p5, .ref o] (rL_P D cI cZ cO cJ ad gh mi de o sz M w)) (rL_qx D cI cZ cO cJ ad gh de o sz 2 M1 w) 5 30 (rL_A ad gh sz o) := by
  refine rL_met rfl (Nat.le_of_ble_eq_true rfl) (fun p e s m args below meth c ls S htab hret hlk hP hl => ?_)
  have hsz := hP.2.1
  subst hsz
  have E : rL_E D cI cZ cO cJ ad gh mi de o M w cL_vote 8 [(0, 16, 19, 13), (0, 16, 23, 23), (0, 16, 27, 25)] p l s m args meth c := ⟨S, hP, hI, hfl, htab, hret, hlk⟩
  change rv_has ls [some (.ref (ad 0)), some (.int p1), some (.int p2), some (.int p3), some (.int p4), some (.int p5), some (.ref o), none] at hl
  refine lv_aload E.1.1 E.1.2.1 dL_vote_0 (hl.2.2 6 _ rfl) ?_
  refine lv_iconst (v := 0) E.1.1 E.1.2.1 dL_vote_2 (by decide) ?_
  refine lv_aload_n E.1.1 E.1.2.1 dL_vote_3 rfl (hl.2.2 0 _ rfl) ?_
  refine lv_iload_n E.1.1 E.1.2.1 dL_vote_4 rfl (hl.2.2 1 _ rfl) ?_
  refine lv_iload_n E.1.1 E.1.2.1 dL_vote_5 rfl (hl.2.2 2 _ rfl) ?_
  refine lv_iload_n E.1.1 E.1.2.1 dL_vote_6 rfl (hl.2.2 3 _ rfl) ?_
  refine lv_iload E.1.1 E.1.2.1 dL_vote_7 (hl.2.2 4 _ rfl) ?_
  refine lv_iload E.1.1 E.1.2.1 dL_vote_9 (hl.2.2 5 _ rfl) ?_
  refine rL_ex (mk := true) (x := 2) E (fun _ => c11_vote_x hfl hI h) (Or.inl rfl) gL_128 hX11_vote ⟨rfl, rfl⟩ ⟨Nat.le_of_ble_eq_true rfl, Nat.le_of_ble_eq_true rfl⟩ ⟨Nat.le_of_ble_eq_true rfl, Nat.le_of_ble_eq_true rfl⟩ rfl (lv := [some (.ref (ad 0)), some (.int p1), some (.int p2), some (.int p3), some (.int p4), some (.int p5), some (.ref o), none]) hl rfl (As := [.int p1, .int p2, .int p3, .int p4, .int p5]) (rest := [.int 0, .ref o]) rfl (Nat.le_of_ble_eq_true rfl) dL_vote_11 [⟨0, 16, 19, 13⟩] ⟨0, 16, 23, 23⟩ [⟨0, 16, 27, 25⟩] rfl (fun z hz => by cases List.mem_singleton.mp hz; exact ⟨by decide, _, rv_al (rv_t2 (List.mem_of_getElem? (i := 87) rfl)) rfl, E.2.1.2.2.2.2.2.2.2.2.1.1⟩) rfl (by decide) (rv_al (rv_t3 (List.mem_of_getElem? (i := 0) rfl)) rfl) E.2.1.2.2.2.2.1.2.2.2.2.1 (fun q9 H1 locs1 hG ho hS => ?_)
  refine lv_astore E.1.1 E.1.2.1 dL_vote_23 (rv_has_k hl) (Nat.le_of_ble_eq_true rfl) rfl (fun ls' hl' => ?_)
  exact rL_endx E hG ho hS (by decide) dL_vote_25 dL_vote_26
theorem wL_vote_x3 {l : Launch} {D : va_G} {cI cZ cO cJ : ClassId} {ad : Nat → Nat} {gh : rC_gh} {mi de o sz : Nat} {w : Int64} (hfl : l.stackTraces = false) (hI : rC_I ad gh) {M : rv_Mem} {p1 : Int32} {p2 : Int32} {p3 : Int32} {p4 : Int32} {p5 : Int32} {M1 : rv_Mem} (h : f11_vote gh M p1 p2 p3 p4 p5 = some (.inr (3, M1))) : Met l yL_vote wsL_vote rmL_vote (va_Pc [.ref (ad 0), .int p1, .int p2, .int p3, .int p4, .int p5, .ref o] (rL_P D cI cZ cO cJ ad gh mi de o sz M w)) (rL_qx D cI cZ cO cJ ad gh de o sz 3 M1 w) 5 30 (rL_A ad gh sz o) := by
  refine rL_met rfl (Nat.le_of_ble_eq_true rfl) (fun p e s m args below meth c ls S htab hret hlk hP hl => ?_)
  have hsz := hP.2.1
  subst hsz
  have E : rL_E D cI cZ cO cJ ad gh mi de o M w cL_vote 8 [(0, 16, 19, 13), (0, 16, 23, 23), (0, 16, 27, 25)] p l s m args meth c := ⟨S, hP, hI, hfl, htab, hret, hlk⟩
  change rv_has ls [some (.ref (ad 0)), some (.int p1), some (.int p2), some (.int p3), some (.int p4), some (.int p5), some (.ref o), none] at hl
  refine lv_aload E.1.1 E.1.2.1 dL_vote_0 (hl.2.2 6 _ rfl) ?_
  refine lv_iconst (v := 0) E.1.1 E.1.2.1 dL_vote_2 (by decide) ?_
  refine lv_aload_n E.1.1 E.1.2.1 dL_vote_3 rfl (hl.2.2 0 _ rfl) ?_
  refine lv_iload_n E.1.1 E.1.2.1 dL_vote_4 rfl (hl.2.2 1 _ rfl) ?_
  refine lv_iload_n E.1.1 E.1.2.1 dL_vote_5 rfl (hl.2.2 2 _ rfl) ?_
  refine lv_iload_n E.1.1 E.1.2.1 dL_vote_6 rfl (hl.2.2 3 _ rfl) ?_
  refine lv_iload E.1.1 E.1.2.1 dL_vote_7 (hl.2.2 4 _ rfl) ?_
  refine lv_iload E.1.1 E.1.2.1 dL_vote_9 (hl.2.2 5 _ rfl) ?_
  refine rL_ex (mk := true) (x := 3) E (fun _ => c11_vote_x hfl hI h) (Or.inl rfl) gL_128 hX11_vote ⟨rfl, rfl⟩ ⟨Nat.le_of_ble_eq_true rfl, Nat.le_of_ble_eq_true rfl⟩ ⟨Nat.le_of_ble_eq_true rfl, Nat.le_of_ble_eq_true rfl⟩ rfl (lv := [some (.ref (ad 0)), some (.int p1), some (.int p2), some (.int p3), some (.int p4), some (.int p5), some (.ref o), none]) hl rfl (As := [.int p1, .int p2, .int p3, .int p4, .int p5]) (rest := [.int 0, .ref o]) rfl (Nat.le_of_ble_eq_true rfl) dL_vote_11 [⟨0, 16, 19, 13⟩, ⟨0, 16, 23, 23⟩] ⟨0, 16, 27, 25⟩ [] rfl (fun z hz => by rcases List.mem_cons.mp hz with rfl | hz; exact ⟨by decide, _, rv_al (rv_t2 (List.mem_of_getElem? (i := 87) rfl)) rfl, E.2.1.2.2.2.2.2.2.2.2.1.2.1⟩; cases List.mem_singleton.mp hz; exact ⟨by decide, _, rv_al (rv_t3 (List.mem_of_getElem? (i := 0) rfl)) rfl, E.2.1.2.2.2.2.2.2.2.2.1.2.2⟩) rfl (by decide) (rv_al (rv_t3 (List.mem_of_getElem? (i := 1) rfl)) rfl) E.2.1.2.2.2.2.1.2.2.2.2.2.1 (fun q9 H1 locs1 hG ho hS => ?_)
  refine lv_astore E.1.1 E.1.2.1 dL_vote_27 (rv_has_k hl) (Nat.le_of_ble_eq_true rfl) rfl (fun ls' hl' => ?_)
  exact rL_endx E hG ho hS (by decide) dL_vote_29 dL_vote_30
theorem gL_132 : GoodIn rv_AL (wsV RL 132 RX11 yX11_worth (rv_ws yX11_worth cX11_worth 6 (some .int))) := rv_gV (rv_al (rv_t6 (List.mem_of_getElem? (i := 91) rfl)) rfl) (rv_al (rv_t6 (List.mem_of_getElem? (i := 92) rfl)) rfl) (rv_al (rv_t6 (List.mem_of_getElem? (i := 93) rfl)) rfl) (rv_al (rv_t1 (List.mem_of_getElem? (i := 1) rfl)) rfl) (rv_al (rv_t6 (List.mem_of_getElem? (i := 94) rfl)) rfl)
abbrev rmL_worth : Room := { frames := 8, cells := 4, slots := 24, locals := 147 }
abbrev wsL_worth : List Cond := Cond.codeWith yL_worth cL_worth 7 (some .int) [(0, 14, 17, 13), (0, 14, 21, 23)] :: rv_AL
theorem wL_worth {l : Launch} {D : va_G} {cI cZ cO cJ : ClassId} {ad : Nat → Nat} {gh : rC_gh} {mi de o sz : Nat} {w : Int64} (hfl : l.stackTraces = false) (hI : rC_I ad gh) {M : rv_Mem} {p1 : Int32} {p2 : Int32} {p3 : Int32} {p4 : Int32} {r : Int32} (h : f11_worth gh M p1 p2 p3 p4 = some (.inl r)) : Met l yL_worth wsL_worth rmL_worth (va_Pc [.ref (ad 0), .int p1, .int p2, .int p3, .int p4, .ref o] (rL_P D cI cZ cO cJ ad gh mi de o sz M w)) (rL_qo D cI cZ cO cJ ad gh de o sz gh M r.toInt64) 4 24 (rL_A ad gh sz o) := by
  refine rL_met rfl (Nat.le_of_ble_eq_true rfl) (fun p e s m args below meth c ls S htab hret hlk hP hl => ?_)
  have hsz := hP.2.1
  subst hsz
  have E : rL_E D cI cZ cO cJ ad gh mi de o M w cL_worth 7 [(0, 14, 17, 13), (0, 14, 21, 23)] p l s m args meth c := ⟨S, hP, hI, hfl, htab, hret, hlk⟩
  change rv_has ls [some (.ref (ad 0)), some (.int p1), some (.int p2), some (.int p3), some (.int p4), some (.ref o), none] at hl
  refine lv_aload E.1.1 E.1.2.1 dL_worth_0 (hl.2.2 5 _ rfl) ?_
  refine lv_iconst (v := 0) E.1.1 E.1.2.1 dL_worth_2 (by decide) ?_
  refine lv_aload_n E.1.1 E.1.2.1 dL_worth_3 rfl (hl.2.2 0 _ rfl) ?_
  refine lv_iload_n E.1.1 E.1.2.1 dL_worth_4 rfl (hl.2.2 1 _ rfl) ?_
  refine lv_iload_n E.1.1 E.1.2.1 dL_worth_5 rfl (hl.2.2 2 _ rfl) ?_
  refine lv_iload_n E.1.1 E.1.2.1 dL_worth_6 rfl (hl.2.2 3 _ rfl) ?_
  refine lv_iload E.1.1 E.1.2.1 dL_worth_7 (hl.2.2 4 _ rfl) ?_
  refine rL_ok (v := r) E (fun _ => c11_worth hfl hI h) gL_132 hX11_worth ⟨rfl, rfl⟩ ⟨Nat.le_of_ble_eq_true rfl, Nat.le_of_ble_eq_true rfl⟩ ⟨Nat.le_of_ble_eq_true rfl, Nat.le_of_ble_eq_true rfl⟩ rfl (lv := [some (.ref (ad 0)), some (.int p1), some (.int p2), some (.int p3), some (.int p4), some (.ref o), none]) hl rfl (As := [.int p1, .int p2, .int p3, .int p4]) (rest := [.int 0, .ref o]) rfl (Nat.le_of_ble_eq_true rfl) dL_worth_9 (fun u H1 locs1 h0 hI' hs hG ho hS => ?_)
  refine lv_i2l E.1.1 E.1.2.1 dL_worth_12 rfl ?_
  exact rL_end E h0 hI' hs hG ho hS dL_worth_13 dL_worth_14 (pc2 := 25) (by decide) dL_worth_25 dL_worth_26
theorem wL_worth_x1 {l : Launch} {D : va_G} {cI cZ cO cJ : ClassId} {ad : Nat → Nat} {gh : rC_gh} {mi de o sz : Nat} {w : Int64} (hfl : l.stackTraces = false) (hI : rC_I ad gh) {M : rv_Mem} {p1 : Int32} {p2 : Int32} {p3 : Int32} {p4 : Int32} (h : f11_worth gh M p1 p2 p3 p4 = some (.inr 1)) : Met l yL_worth wsL_worth rmL_worth (va_Pc [.ref (ad 0), .int p1, .int p2, .int p3, .int p4, .ref o] (rL_P D cI cZ cO cJ ad gh mi de o sz M w)) (rL_qx D cI cZ cO cJ ad gh de o sz 1 M w) 4 24 (rL_A ad gh sz o) := by
  refine rL_met rfl (Nat.le_of_ble_eq_true rfl) (fun p e s m args below meth c ls S htab hret hlk hP hl => ?_)
  have hsz := hP.2.1
  subst hsz
  have E : rL_E D cI cZ cO cJ ad gh mi de o M w cL_worth 7 [(0, 14, 17, 13), (0, 14, 21, 23)] p l s m args meth c := ⟨S, hP, hI, hfl, htab, hret, hlk⟩
  change rv_has ls [some (.ref (ad 0)), some (.int p1), some (.int p2), some (.int p3), some (.int p4), some (.ref o), none] at hl
  refine lv_aload E.1.1 E.1.2.1 dL_worth_0 (hl.2.2 5 _ rfl) ?_
  refine lv_iconst (v := 0) E.1.1 E.1.2.1 dL_worth_2 (by decide) ?_
  refine lv_aload_n E.1.1 E.1.2.1 dL_worth_3 rfl (hl.2.2 0 _ rfl) ?_
  refine lv_iload_n E.1.1 E.1.2.1 dL_worth_4 rfl (hl.2.2 1 _ rfl) ?_
  refine lv_iload_n E.1.1 E.1.2.1 dL_worth_5 rfl (hl.2.2 2 _ rfl) ?_
  refine lv_iload_n E.1.1 E.1.2.1 dL_worth_6 rfl (hl.2.2 3 _ rfl) ?_
  refine lv_iload E.1.1 E.1.2.1 dL_worth_7 (hl.2.2 4 _ rfl) ?_
  refine rL_ex (mk := true) (x := 1) E (fun _ => c11_worth_x hfl hI h) (Or.inl rfl) gL_132 hX11_worth ⟨rfl, rfl⟩ ⟨Nat.le_of_ble_eq_true rfl, Nat.le_of_ble_eq_true rfl⟩ ⟨Nat.le_of_ble_eq_true rfl, Nat.le_of_ble_eq_true rfl⟩ rfl (lv := [some (.ref (ad 0)), some (.int p1), some (.int p2), some (.int p3), some (.int p4), some (.ref o), none]) hl rfl (As := [.int p1, .int p2, .int p3, .int p4]) (rest := [.int 0, .ref o]) rfl (Nat.le_of_ble_eq_true rfl) dL_worth_9 [] ⟨0, 14, 17, 13⟩ [⟨0, 14, 21, 23⟩] rfl (fun z hz => nomatch hz) rfl (by decide) (rv_al (rv_t2 (List.mem_of_getElem? (i := 87) rfl)) rfl) E.2.1.2.2.2.2.1.2.2.2.1 (fun q9 H1 locs1 hG ho hS => ?_)
  refine lv_astore E.1.1 E.1.2.1 dL_worth_17 (rv_has_k hl) (Nat.le_of_ble_eq_true rfl) rfl (fun ls' hl' => ?_)
  exact rL_endx E hG ho hS (by decide) dL_worth_19 dL_worth_20
theorem wL_worth_x2 {l : Launch} {D : va_G} {cI cZ cO cJ : ClassId} {ad : Nat → Nat} {gh : rC_gh} {mi de o sz : Nat} {w : Int64} (hfl : l.stackTraces = false) (hI : rC_I ad gh) {M : rv_Mem} {p1 : Int32} {p2 : Int32} {p3 : Int32} {p4 : Int32} (h : f11_worth gh M p1 p2 p3 p4 = some (.inr 2)) : Met l yL_worth wsL_worth rmL_worth (va_Pc [.ref (ad 0), .int p1, .int p2, .int p3, .int p4, .ref o] (rL_P D cI cZ cO cJ ad gh mi de o sz M w)) (rL_qx D cI cZ cO cJ ad gh de o sz 2 M w) 4 24 (rL_A ad gh sz o) := by
  refine rL_met rfl (Nat.le_of_ble_eq_true rfl) (fun p e s m args below meth c ls S htab hret hlk hP hl => ?_)
  have hsz := hP.2.1
  subst hsz
  have E : rL_E D cI cZ cO cJ ad gh mi de o M w cL_worth 7 [(0, 14, 17, 13), (0, 14, 21, 23)] p l s m args meth c := ⟨S, hP, hI, hfl, htab, hret, hlk⟩
  change rv_has ls [some (.ref (ad 0)), some (.int p1), some (.int p2), some (.int p3), some (.int p4), some (.ref o), none] at hl
  refine lv_aload E.1.1 E.1.2.1 dL_worth_0 (hl.2.2 5 _ rfl) ?_
  refine lv_iconst (v := 0) E.1.1 E.1.2.1 dL_worth_2 (by decide) ?_
  refine lv_aload_n E.1.1 E.1.2.1 dL_worth_3 rfl (hl.2.2 0 _ rfl) ?_
  refine lv_iload_n E.1.1 E.1.2.1 dL_worth_4 rfl (hl.2.2 1 _ rfl) ?_
  refine lv_iload_n E.1.1 E.1.2.1 dL_worth_5 rfl (hl.2.2 2 _ rfl) ?_
  refine lv_iload_n E.1.1 E.1.2.1 dL_worth_6 rfl (hl.2.2 3 _ rfl) ?_
  refine lv_iload E.1.1 E.1.2.1 dL_worth_7 (hl.2.2 4 _ rfl) ?_
  refine rL_ex (mk := true) (x := 2) E (fun _ => c11_worth_x hfl hI h) (Or.inl rfl) gL_132 hX11_worth ⟨rfl, rfl⟩ ⟨Nat.le_of_ble_eq_true rfl, Nat.le_of_ble_eq_true rfl⟩ ⟨Nat.le_of_ble_eq_true rfl, Nat.le_of_ble_eq_true rfl⟩ rfl (lv := [some (.ref (ad 0)), some (.int p1), some (.int p2), some (.int p3), some (.int p4), some (.ref o), none]) hl rfl (As := [.int p1, .int p2, .int p3, .int p4]) (rest := [.int 0, .ref o]) rfl (Nat.le_of_ble_eq_true rfl) dL_worth_9 [⟨0, 14, 17, 13⟩] ⟨0, 14, 21, 23⟩ [] rfl (fun z hz => by cases List.mem_singleton.mp hz; exact ⟨by decide, _, rv_al (rv_t2 (List.mem_of_getElem? (i := 87) rfl)) rfl, E.2.1.2.2.2.2.2.2.2.2.1.1⟩) rfl (by decide) (rv_al (rv_t3 (List.mem_of_getElem? (i := 0) rfl)) rfl) E.2.1.2.2.2.2.1.2.2.2.2.1 (fun q9 H1 locs1 hG ho hS => ?_)
  refine lv_astore E.1.1 E.1.2.1 dL_worth_21 (rv_has_k hl) (Nat.le_of_ble_eq_true rfl) rfl (fun ls' hl' => ?_)
  exact rL_endx E hG ho hS (by decide) dL_worth_23 dL_worth_24
theorem gL_136 : GoodIn rv_AL (wsV RL 136 RX11 yX11_setCopied (rv_ws yX11_setCopied cX11_setCopied 4 (some .int))) := rv_gV (rv_al (rv_t6 (List.mem_of_getElem? (i := 98) rfl)) rfl) (rv_al (rv_t6 (List.mem_of_getElem? (i := 99) rfl)) rfl) (rv_al (rv_t6 (List.mem_of_getElem? (i := 100) rfl)) rfl) (rv_al (rv_t1 (List.mem_of_getElem? (i := 1) rfl)) rfl) (rv_al (rv_t6 (List.mem_of_getElem? (i := 101) rfl)) rfl)
abbrev rmL_setCopied : Room := { frames := 8, cells := 2, slots := 12, locals := 143 }
abbrev wsL_setCopied : List Cond := Cond.codeWith yL_setCopied cL_setCopied 6 (some .int) [(0, 12, 15, 23)] :: rv_AL
theorem wL_setCopied {l : Launch} {D : va_G} {cI cZ cO cJ : ClassId} {ad : Nat → Nat} {gh : rC_gh} {mi de o sz : Nat} {w : Int64} (hfl : l.stackTraces = false) (hI : rC_I ad gh) {M : rv_Mem} {p1 : Int32} {p2 : Int32} {p3 : Int32} {r : Int32} {M1 : rv_Mem} (h : f11_setCopied gh M p1 p2 p3 = some (.inl (r, M1))) : Met l yL_setCopied wsL_setCopied rmL_setCopied (va_Pc [.ref (ad 0), .int p1, .int p2, .int p3, .ref o] (rL_P D cI cZ cO cJ ad gh mi de o sz M w)) (rL_qo D cI cZ cO cJ ad gh de o sz gh M1 r.toInt64) 2 12 (rL_A ad gh sz o) := by
  refine rL_met rfl (Nat.le_of_ble_eq_true rfl) (fun p e s m args below meth c ls S htab hret hlk hP hl => ?_)
  have hsz := hP.2.1
  subst hsz
  have E : rL_E D cI cZ cO cJ ad gh mi de o M w cL_setCopied 6 [(0, 12, 15, 23)] p l s m args meth c := ⟨S, hP, hI, hfl, htab, hret, hlk⟩
  change rv_has ls [some (.ref (ad 0)), some (.int p1), some (.int p2), some (.int p3), some (.ref o), none] at hl
  refine lv_aload E.1.1 E.1.2.1 dL_setCopied_0 (hl.2.2 4 _ rfl) ?_
  refine lv_iconst (v := 0) E.1.1 E.1.2.1 dL_setCopied_2 (by decide) ?_
  refine lv_aload_n E.1.1 E.1.2.1 dL_setCopied_3 rfl (hl.2.2 0 _ rfl) ?_
  refine lv_iload_n E.1.1 E.1.2.1 dL_setCopied_4 rfl (hl.2.2 1 _ rfl) ?_
  refine lv_iload_n E.1.1 E.1.2.1 dL_setCopied_5 rfl (hl.2.2 2 _ rfl) ?_
  refine lv_iload_n E.1.1 E.1.2.1 dL_setCopied_6 rfl (hl.2.2 3 _ rfl) ?_
  refine rL_ok (v := r) E (fun _ => c11_setCopied hfl hI h) gL_136 hX11_setCopied ⟨rfl, rfl⟩ ⟨Nat.le_of_ble_eq_true rfl, Nat.le_of_ble_eq_true rfl⟩ ⟨Nat.le_of_ble_eq_true rfl, Nat.le_of_ble_eq_true rfl⟩ rfl (lv := [some (.ref (ad 0)), some (.int p1), some (.int p2), some (.int p3), some (.ref o), none]) hl rfl (As := [.int p1, .int p2, .int p3]) (rest := [.int 0, .ref o]) rfl (Nat.le_of_ble_eq_true rfl) dL_setCopied_7 (fun u H1 locs1 h0 hI' hs hG ho hS => ?_)
  refine lv_i2l E.1.1 E.1.2.1 dL_setCopied_10 rfl ?_
  exact rL_end E h0 hI' hs hG ho hS dL_setCopied_11 dL_setCopied_12 (pc2 := 19) (by decide) dL_setCopied_19 dL_setCopied_20
theorem wL_setCopied_x2 {l : Launch} {D : va_G} {cI cZ cO cJ : ClassId} {ad : Nat → Nat} {gh : rC_gh} {mi de o sz : Nat} {w : Int64} (hfl : l.stackTraces = false) (hI : rC_I ad gh) {M : rv_Mem} {p1 : Int32} {p2 : Int32} {p3 : Int32} {M1 : rv_Mem} (h : f11_setCopied gh M p1 p2 p3 = some (.inr (2, M1))) : Met l yL_setCopied wsL_setCopied rmL_setCopied (va_Pc [.ref (ad 0), .int p1, .int p2, .int p3, .ref o] (rL_P D cI cZ cO cJ ad gh mi de o sz M w)) (rL_qx D cI cZ cO cJ ad gh de o sz 1 M1 w) 2 12 (rL_A ad gh sz o) := by
  refine rL_met rfl (Nat.le_of_ble_eq_true rfl) (fun p e s m args below meth c ls S htab hret hlk hP hl => ?_)
  have hsz := hP.2.1
  subst hsz
  have E : rL_E D cI cZ cO cJ ad gh mi de o M w cL_setCopied 6 [(0, 12, 15, 23)] p l s m args meth c := ⟨S, hP, hI, hfl, htab, hret, hlk⟩
  change rv_has ls [some (.ref (ad 0)), some (.int p1), some (.int p2), some (.int p3), some (.ref o), none] at hl
  refine lv_aload E.1.1 E.1.2.1 dL_setCopied_0 (hl.2.2 4 _ rfl) ?_
  refine lv_iconst (v := 0) E.1.1 E.1.2.1 dL_setCopied_2 (by decide) ?_
  refine lv_aload_n E.1.1 E.1.2.1 dL_setCopied_3 rfl (hl.2.2 0 _ rfl) ?_
  refine lv_iload_n E.1.1 E.1.2.1 dL_setCopied_4 rfl (hl.2.2 1 _ rfl) ?_
  refine lv_iload_n E.1.1 E.1.2.1 dL_setCopied_5 rfl (hl.2.2 2 _ rfl) ?_
  refine lv_iload_n E.1.1 E.1.2.1 dL_setCopied_6 rfl (hl.2.2 3 _ rfl) ?_
  refine rL_ex (mk := true) (x := 2) E (fun _ => c11_setCopied_x hfl hI h) (Or.inl rfl) gL_136 hX11_setCopied ⟨rfl, rfl⟩ ⟨Nat.le_of_ble_eq_true rfl, Nat.le_of_ble_eq_true rfl⟩ ⟨Nat.le_of_ble_eq_true rfl, Nat.le_of_ble_eq_true rfl⟩ rfl (lv := [some (.ref (ad 0)), some (.int p1), some (.int p2), some (.int p3), some (.ref o), none]) hl rfl (As := [.int p1, .int p2, .int p3]) (rest := [.int 0, .ref o]) rfl (Nat.le_of_ble_eq_true rfl) dL_setCopied_7 [] ⟨0, 12, 15, 23⟩ [] rfl (fun z hz => nomatch hz) rfl (by decide) (rv_al (rv_t3 (List.mem_of_getElem? (i := 0) rfl)) rfl) E.2.1.2.2.2.2.1.2.2.2.2.1 (fun q9 H1 locs1 hG ho hS => ?_)
  refine lv_astore E.1.1 E.1.2.1 dL_setCopied_15 (rv_has_k hl) (Nat.le_of_ble_eq_true rfl) rfl (fun ls' hl' => ?_)
  exact rL_endx E hG ho hS (by decide) dL_setCopied_17 dL_setCopied_18
theorem gL_139 : GoodIn rv_AL (wsV RL 139 RX11 yX11_addRule (rv_ws yX11_addRule cX11_addRule 5 (some .int))) := rv_gV (rv_al (rv_t6 (List.mem_of_getElem? (i := 111) rfl)) rfl) (rv_al (rv_t6 (List.mem_of_getElem? (i := 112) rfl)) rfl) (rv_al (rv_t6 (List.mem_of_getElem? (i := 113) rfl)) rfl) (rv_al (rv_t1 (List.mem_of_getElem? (i := 1) rfl)) rfl) (rv_al (rv_t6 (List.mem_of_getElem? (i := 114) rfl)) rfl)
abbrev rmL_addRule : Room := { frames := 7, cells := 1, slots := 6, locals := 125 }
abbrev wsL_addRule : List Cond := Cond.codeWith yL_addRule cL_addRule 6 (some .int) [(0, 12, 15, 23), (0, 12, 19, 25)] :: rv_AL
theorem wL_addRule {l : Launch} {D : va_G} {cI cZ cO cJ : ClassId} {ad : Nat → Nat} {gh : rC_gh} {mi de o sz : Nat} {w : Int64} (hfl : l.stackTraces = false) (hI : rC_I ad gh) {M : rv_Mem} {p1 : Int32} {p2 : Int32} {p3 : Int32} {r : Int32} {M1 : rv_Mem} (h : f11_addRule gh M p1 p2 p3 = some (.inl (r, M1))) : Met l yL_addRule wsL_addRule rmL_addRule (va_Pc [.ref (ad 0), .int p1, .int p2, .int p3, .ref o] (rL_P D cI cZ cO cJ ad gh mi de o sz M w)) (rL_qo D cI cZ cO cJ ad gh de o sz gh M1 r.toInt64) 1 6 (rL_A ad gh sz o) := by
  refine rL_met rfl (Nat.le_of_ble_eq_true rfl) (fun p e s m args below meth c ls S htab hret hlk hP hl => ?_)
  have hsz := hP.2.1
  subst hsz
  have E : rL_E D cI cZ cO cJ ad gh mi de o M w cL_addRule 6 [(0, 12, 15, 23), (0, 12, 19, 25)] p l s m args meth c := ⟨S, hP, hI, hfl, htab, hret, hlk⟩
  change rv_has ls [some (.ref (ad 0)), some (.int p1), some (.int p2), some (.int p3), some (.ref o), none] at hl
  refine lv_aload E.1.1 E.1.2.1 dL_addRule_0 (hl.2.2 4 _ rfl) ?_
  refine lv_iconst (v := 0) E.1.1 E.1.2.1 dL_addRule_2 (by decide) ?_
  refine lv_aload_n E.1.1 E.1.2.1 dL_addRule_3 rfl (hl.2.2 0 _ rfl) ?_
  refine lv_iload_n E.1.1 E.1.2.1 dL_addRule_4 rfl (hl.2.2 1 _ rfl) ?_
  refine lv_iload_n E.1.1 E.1.2.1 dL_addRule_5 rfl (hl.2.2 2 _ rfl) ?_
  refine lv_iload_n E.1.1 E.1.2.1 dL_addRule_6 rfl (hl.2.2 3 _ rfl) ?_
  refine rL_ok (v := r) E (fun _ => c11_addRule hfl hI h) gL_139 hX11_addRule ⟨rfl, rfl⟩ ⟨Nat.le_of_ble_eq_true rfl, Nat.le_of_ble_eq_true rfl⟩ ⟨Nat.le_of_ble_eq_true rfl, Nat.le_of_ble_eq_true rfl⟩ rfl (lv := [some (.ref (ad 0)), some (.int p1), some (.int p2), some (.int p3), some (.ref o), none]) hl rfl (As := [.int p1, .int p2, .int p3]) (rest := [.int 0, .ref o]) rfl (Nat.le_of_ble_eq_true rfl) dL_addRule_7 (fun u H1 locs1 h0 hI' hs hG ho hS => ?_)
  refine lv_i2l E.1.1 E.1.2.1 dL_addRule_10 rfl ?_
  exact rL_end E h0 hI' hs hG ho hS dL_addRule_11 dL_addRule_12 (pc2 := 23) (by decide) dL_addRule_23 dL_addRule_24
theorem wL_addRule_x2 {l : Launch} {D : va_G} {cI cZ cO cJ : ClassId} {ad : Nat → Nat} {gh : rC_gh} {mi de o sz : Nat} {w : Int64} (hfl : l.stackTraces = false) (hI : rC_I ad gh) {M : rv_Mem} {p1 : Int32} {p2 : Int32} {p3 : Int32} {M1 : rv_Mem} (h : f11_addRule gh M p1 p2 p3 = some (.inr (2, M1))) : Met l yL_addRule wsL_addRule rmL_addRule (va_Pc [.ref (ad 0), .int p1, .int p2, .int p3, .ref o] (rL_P D cI cZ cO cJ ad gh mi de o sz M w)) (rL_qx D cI cZ cO cJ ad gh de o sz 1 M1 w) 1 6 (rL_A ad gh sz o) := by
  refine rL_met rfl (Nat.le_of_ble_eq_true rfl) (fun p e s m args below meth c ls S htab hret hlk hP hl => ?_)
  have hsz := hP.2.1
  subst hsz
  have E : rL_E D cI cZ cO cJ ad gh mi de o M w cL_addRule 6 [(0, 12, 15, 23), (0, 12, 19, 25)] p l s m args meth c := ⟨S, hP, hI, hfl, htab, hret, hlk⟩
  change rv_has ls [some (.ref (ad 0)), some (.int p1), some (.int p2), some (.int p3), some (.ref o), none] at hl
  refine lv_aload E.1.1 E.1.2.1 dL_addRule_0 (hl.2.2 4 _ rfl) ?_
  refine lv_iconst (v := 0) E.1.1 E.1.2.1 dL_addRule_2 (by decide) ?_
  refine lv_aload_n E.1.1 E.1.2.1 dL_addRule_3 rfl (hl.2.2 0 _ rfl) ?_
  refine lv_iload_n E.1.1 E.1.2.1 dL_addRule_4 rfl (hl.2.2 1 _ rfl) ?_
  refine lv_iload_n E.1.1 E.1.2.1 dL_addRule_5 rfl (hl.2.2 2 _ rfl) ?_
  refine lv_iload_n E.1.1 E.1.2.1 dL_addRule_6 rfl (hl.2.2 3 _ rfl) ?_
  refine rL_ex (mk := true) (x := 2) E (fun _ => c11_addRule_x hfl hI h) (Or.inl rfl) gL_139 hX11_addRule ⟨rfl, rfl⟩ ⟨Nat.le_of_ble_eq_true rfl, Nat.le_of_ble_eq_true rfl⟩ ⟨Nat.le_of_ble_eq_true rfl, Nat.le_of_ble_eq_true rfl⟩ rfl (lv := [some (.ref (ad 0)), some (.int p1), some (.int p2), some (.int p3), some (.ref o), none]) hl rfl (As := [.int p1, .int p2, .int p3]) (rest := [.int 0, .ref o]) rfl (Nat.le_of_ble_eq_true rfl) dL_addRule_7 [] ⟨0, 12, 15, 23⟩ [⟨0, 12, 19, 25⟩] rfl (fun z hz => nomatch hz) rfl (by decide) (rv_al (rv_t3 (List.mem_of_getElem? (i := 0) rfl)) rfl) E.2.1.2.2.2.2.1.2.2.2.2.1 (fun q9 H1 locs1 hG ho hS => ?_)
  refine lv_astore E.1.1 E.1.2.1 dL_addRule_15 (rv_has_k hl) (Nat.le_of_ble_eq_true rfl) rfl (fun ls' hl' => ?_)
  exact rL_endx E hG ho hS (by decide) dL_addRule_17 dL_addRule_18
theorem wL_addRule_x3 {l : Launch} {D : va_G} {cI cZ cO cJ : ClassId} {ad : Nat → Nat} {gh : rC_gh} {mi de o sz : Nat} {w : Int64} (hfl : l.stackTraces = false) (hI : rC_I ad gh) {M : rv_Mem} {p1 : Int32} {p2 : Int32} {p3 : Int32} {M1 : rv_Mem} (h : f11_addRule gh M p1 p2 p3 = some (.inr (3, M1))) : Met l yL_addRule wsL_addRule rmL_addRule (va_Pc [.ref (ad 0), .int p1, .int p2, .int p3, .ref o] (rL_P D cI cZ cO cJ ad gh mi de o sz M w)) (rL_qx D cI cZ cO cJ ad gh de o sz 2 M1 w) 1 6 (rL_A ad gh sz o) := by
  refine rL_met rfl (Nat.le_of_ble_eq_true rfl) (fun p e s m args below meth c ls S htab hret hlk hP hl => ?_)
  have hsz := hP.2.1
  subst hsz
  have E : rL_E D cI cZ cO cJ ad gh mi de o M w cL_addRule 6 [(0, 12, 15, 23), (0, 12, 19, 25)] p l s m args meth c := ⟨S, hP, hI, hfl, htab, hret, hlk⟩
  change rv_has ls [some (.ref (ad 0)), some (.int p1), some (.int p2), some (.int p3), some (.ref o), none] at hl
  refine lv_aload E.1.1 E.1.2.1 dL_addRule_0 (hl.2.2 4 _ rfl) ?_
  refine lv_iconst (v := 0) E.1.1 E.1.2.1 dL_addRule_2 (by decide) ?_
  refine lv_aload_n E.1.1 E.1.2.1 dL_addRule_3 rfl (hl.2.2 0 _ rfl) ?_
  refine lv_iload_n E.1.1 E.1.2.1 dL_addRule_4 rfl (hl.2.2 1 _ rfl) ?_
  refine lv_iload_n E.1.1 E.1.2.1 dL_addRule_5 rfl (hl.2.2 2 _ rfl) ?_
  refine lv_iload_n E.1.1 E.1.2.1 dL_addRule_6 rfl (hl.2.2 3 _ rfl) ?_
  refine rL_ex (mk := true) (x := 3) E (fun _ => c11_addRule_x hfl hI h) (Or.inl rfl) gL_139 hX11_addRule ⟨rfl, rfl⟩ ⟨Nat.le_of_ble_eq_true rfl, Nat.le_of_ble_eq_true rfl⟩ ⟨Nat.le_of_ble_eq_true rfl, Nat.le_of_ble_eq_true rfl⟩ rfl (lv := [some (.ref (ad 0)), some (.int p1), some (.int p2), some (.int p3), some (.ref o), none]) hl rfl (As := [.int p1, .int p2, .int p3]) (rest := [.int 0, .ref o]) rfl (Nat.le_of_ble_eq_true rfl) dL_addRule_7 [⟨0, 12, 15, 23⟩] ⟨0, 12, 19, 25⟩ [] rfl (fun z hz => by cases List.mem_singleton.mp hz; exact ⟨by decide, _, rv_al (rv_t3 (List.mem_of_getElem? (i := 0) rfl)) rfl, E.2.1.2.2.2.2.2.2.2.2.1.2.2⟩) rfl (by decide) (rv_al (rv_t3 (List.mem_of_getElem? (i := 1) rfl)) rfl) E.2.1.2.2.2.2.1.2.2.2.2.2.1 (fun q9 H1 locs1 hG ho hS => ?_)
  refine lv_astore E.1.1 E.1.2.1 dL_addRule_19 (rv_has_k hl) (Nat.le_of_ble_eq_true rfl) rfl (fun ls' hl' => ?_)
  exact rL_endx E hG ho hS (by decide) dL_addRule_21 dL_addRule_22
theorem gL_142 : GoodIn rv_AL (wsV RL 142 RX11 yX11_dropRule (rv_ws yX11_dropRule cX11_dropRule 3 (some .int))) := rv_gV (rv_al (rv_t6 (List.mem_of_getElem? (i := 137) rfl)) rfl) (rv_al (rv_t6 (List.mem_of_getElem? (i := 138) rfl)) rfl) (rv_al (rv_t6 (List.mem_of_getElem? (i := 139) rfl)) rfl) (rv_al (rv_t1 (List.mem_of_getElem? (i := 1) rfl)) rfl) (rv_al (rv_t6 (List.mem_of_getElem? (i := 140) rfl)) rfl)
abbrev rmL_dropRule : Room := { frames := 7, cells := 1, slots := 6, locals := 122 }
abbrev wsL_dropRule : List Cond := Cond.codeWith yL_dropRule cL_dropRule 4 (some .int) [(0, 9, 12, 13)] :: rv_AL
theorem wL_dropRule {l : Launch} {D : va_G} {cI cZ cO cJ : ClassId} {ad : Nat → Nat} {gh : rC_gh} {mi de o sz : Nat} {w : Int64} (hfl : l.stackTraces = false) (hI : rC_I ad gh) {M : rv_Mem} {p1 : Int32} {r : Int32} {M1 : rv_Mem} (h : f11_dropRule gh M p1 = some (.inl (r, M1))) : Met l yL_dropRule wsL_dropRule rmL_dropRule (va_Pc [.ref (ad 0), .int p1, .ref o] (rL_P D cI cZ cO cJ ad gh mi de o sz M w)) (rL_qo D cI cZ cO cJ ad gh de o sz gh M1 r.toInt64) 1 6 (rL_A ad gh sz o) := by
  refine rL_met rfl (Nat.le_of_ble_eq_true rfl) (fun p e s m args below meth c ls S htab hret hlk hP hl => ?_)
  have hsz := hP.2.1
  subst hsz
  have E : rL_E D cI cZ cO cJ ad gh mi de o M w cL_dropRule 4 [(0, 9, 12, 13)] p l s m args meth c := ⟨S, hP, hI, hfl, htab, hret, hlk⟩
  change rv_has ls [some (.ref (ad 0)), some (.int p1), some (.ref o), none] at hl
  refine lv_aload_n E.1.1 E.1.2.1 dL_dropRule_0 rfl (hl.2.2 2 _ rfl) ?_
  refine lv_iconst (v := 0) E.1.1 E.1.2.1 dL_dropRule_1 (by decide) ?_
  refine lv_aload_n E.1.1 E.1.2.1 dL_dropRule_2 rfl (hl.2.2 0 _ rfl) ?_
  refine lv_iload_n E.1.1 E.1.2.1 dL_dropRule_3 rfl (hl.2.2 1 _ rfl) ?_
  refine rL_ok (v := r) E (fun _ => c11_dropRule hfl hI h) gL_142 hX11_dropRule ⟨rfl, rfl⟩ ⟨Nat.le_of_ble_eq_true rfl, Nat.le_of_ble_eq_true rfl⟩ ⟨Nat.le_of_ble_eq_true rfl, Nat.le_of_ble_eq_true rfl⟩ rfl (lv := [some (.ref (ad 0)), some (.int p1), some (.ref o), none]) hl rfl (As := [.int p1]) (rest := [.int 0, .ref o]) rfl (Nat.le_of_ble_eq_true rfl) dL_dropRule_4 (fun u H1 locs1 h0 hI' hs hG ho hS => ?_)
  refine lv_i2l E.1.1 E.1.2.1 dL_dropRule_7 rfl ?_
  exact rL_end E h0 hI' hs hG ho hS dL_dropRule_8 dL_dropRule_9 (pc2 := 15) (by decide) dL_dropRule_15 dL_dropRule_16
theorem wL_dropRule_x1 {l : Launch} {D : va_G} {cI cZ cO cJ : ClassId} {ad : Nat → Nat} {gh : rC_gh} {mi de o sz : Nat} {w : Int64} (hfl : l.stackTraces = false) (hI : rC_I ad gh) {M : rv_Mem} {p1 : Int32} {M1 : rv_Mem} (h : f11_dropRule gh M p1 = some (.inr (1, M1))) : Met l yL_dropRule wsL_dropRule rmL_dropRule (va_Pc [.ref (ad 0), .int p1, .ref o] (rL_P D cI cZ cO cJ ad gh mi de o sz M w)) (rL_qx D cI cZ cO cJ ad gh de o sz 1 M1 w) 1 6 (rL_A ad gh sz o) := by
  refine rL_met rfl (Nat.le_of_ble_eq_true rfl) (fun p e s m args below meth c ls S htab hret hlk hP hl => ?_)
  have hsz := hP.2.1
  subst hsz
  have E : rL_E D cI cZ cO cJ ad gh mi de o M w cL_dropRule 4 [(0, 9, 12, 13)] p l s m args meth c := ⟨S, hP, hI, hfl, htab, hret, hlk⟩
  change rv_has ls [some (.ref (ad 0)), some (.int p1), some (.ref o), none] at hl
  refine lv_aload_n E.1.1 E.1.2.1 dL_dropRule_0 rfl (hl.2.2 2 _ rfl) ?_
  refine lv_iconst (v := 0) E.1.1 E.1.2.1 dL_dropRule_1 (by decide) ?_
  refine lv_aload_n E.1.1 E.1.2.1 dL_dropRule_2 rfl (hl.2.2 0 _ rfl) ?_
  refine lv_iload_n E.1.1 E.1.2.1 dL_dropRule_3 rfl (hl.2.2 1 _ rfl) ?_
  refine rL_ex (mk := true) (x := 1) E (fun _ => c11_dropRule_x hfl hI h) (Or.inl rfl) gL_142 hX11_dropRule ⟨rfl, rfl⟩ ⟨Nat.le_of_ble_eq_true rfl, Nat.le_of_ble_eq_true rfl⟩ ⟨Nat.le_of_ble_eq_true rfl, Nat.le_of_ble_eq_true rfl⟩ rfl (lv := [some (.ref (ad 0)), some (.int p1), some (.ref o), none]) hl rfl (As := [.int p1]) (rest := [.int 0, .ref o]) rfl (Nat.le_of_ble_eq_true rfl) dL_dropRule_4 [] ⟨0, 9, 12, 13⟩ [] rfl (fun z hz => nomatch hz) rfl (by decide) (rv_al (rv_t2 (List.mem_of_getElem? (i := 87) rfl)) rfl) E.2.1.2.2.2.2.1.2.2.2.1 (fun q9 H1 locs1 hG ho hS => ?_)
  refine lv_astore_n E.1.1 E.1.2.1 dL_dropRule_12 rfl (rv_has_k hl) (Nat.le_of_ble_eq_true rfl) rfl (fun ls' hl' => ?_)
  exact rL_endx E hG ho hS (by decide) dL_dropRule_13 dL_dropRule_14
theorem gL_145 : GoodIn rv_AL (wsV RL 145 RX11 yX11_statements (rv_ws yX11_statements cX11_statements 2 (some .int))) := rv_gV (rv_al (rv_t6 (List.mem_of_getElem? (i := 149) rfl)) rfl) (rv_al (rv_t6 (List.mem_of_getElem? (i := 150) rfl)) rfl) (rv_al (rv_t6 (List.mem_of_getElem? (i := 151) rfl)) rfl) (rv_al (rv_t1 (List.mem_of_getElem? (i := 1) rfl)) rfl) (rv_al (rv_t6 (List.mem_of_getElem? (i := 152) rfl)) rfl)
abbrev rmL_statements : Room := { frames := 8, cells := 1, slots := 6, locals := 194 }
abbrev wsL_statements : List Cond := Cond.codeWith yL_statements cL_statements 4 (some .int) [(0, 9, 12, 13)] :: rv_AL
theorem wL_statements {l : Launch} {D : va_G} {cI cZ cO cJ : ClassId} {ad : Nat → Nat} {gh : rC_gh} {mi de o sz : Nat} {w : Int64} (hfl : l.stackTraces = false) (hI : rC_I ad gh) {M : rv_Mem} {p1 : Int32} {r : Int32} (h : f11_statements gh M p1 = some (.inl r)) : Met l yL_statements wsL_statements rmL_statements (va_Pc [.ref (ad 0), .int p1, .ref o] (rL_P D cI cZ cO cJ ad gh mi de o sz M w)) (rL_qo D cI cZ cO cJ ad gh de o sz gh M r.toInt64) 1 6 (rL_A ad gh sz o) := by
  refine rL_met rfl (Nat.le_of_ble_eq_true rfl) (fun p e s m args below meth c ls S htab hret hlk hP hl => ?_)
  have hsz := hP.2.1
  subst hsz
  have E : rL_E D cI cZ cO cJ ad gh mi de o M w cL_statements 4 [(0, 9, 12, 13)] p l s m args meth c := ⟨S, hP, hI, hfl, htab, hret, hlk⟩
  change rv_has ls [some (.ref (ad 0)), some (.int p1), some (.ref o), none] at hl
  refine lv_aload_n E.1.1 E.1.2.1 dL_statements_0 rfl (hl.2.2 2 _ rfl) ?_
  refine lv_iconst (v := 0) E.1.1 E.1.2.1 dL_statements_1 (by decide) ?_
  refine lv_aload_n E.1.1 E.1.2.1 dL_statements_2 rfl (hl.2.2 0 _ rfl) ?_
  refine lv_iload_n E.1.1 E.1.2.1 dL_statements_3 rfl (hl.2.2 1 _ rfl) ?_
  refine rL_ok (v := r) E (fun _ => c11_statements hfl hI h) gL_145 hX11_statements ⟨rfl, rfl⟩ ⟨Nat.le_of_ble_eq_true rfl, Nat.le_of_ble_eq_true rfl⟩ ⟨Nat.le_of_ble_eq_true rfl, Nat.le_of_ble_eq_true rfl⟩ rfl (lv := [some (.ref (ad 0)), some (.int p1), some (.ref o), none]) hl rfl (As := [.int p1]) (rest := [.int 0, .ref o]) rfl (Nat.le_of_ble_eq_true rfl) dL_statements_4 (fun u H1 locs1 h0 hI' hs hG ho hS => ?_)
  refine lv_i2l E.1.1 E.1.2.1 dL_statements_7 rfl ?_
  exact rL_end E h0 hI' hs hG ho hS dL_statements_8 dL_statements_9 (pc2 := 15) (by decide) dL_statements_15 dL_statements_16
theorem wL_statements_x1 {l : Launch} {D : va_G} {cI cZ cO cJ : ClassId} {ad : Nat → Nat} {gh : rC_gh} {mi de o sz : Nat} {w : Int64} (hfl : l.stackTraces = false) (hI : rC_I ad gh) {M : rv_Mem} {p1 : Int32} (h : f11_statements gh M p1 = some (.inr 1)) : Met l yL_statements wsL_statements rmL_statements (va_Pc [.ref (ad 0), .int p1, .ref o] (rL_P D cI cZ cO cJ ad gh mi de o sz M w)) (rL_qx D cI cZ cO cJ ad gh de o sz 1 M w) 1 6 (rL_A ad gh sz o) := by
  refine rL_met rfl (Nat.le_of_ble_eq_true rfl) (fun p e s m args below meth c ls S htab hret hlk hP hl => ?_)
  have hsz := hP.2.1
  subst hsz
  have E : rL_E D cI cZ cO cJ ad gh mi de o M w cL_statements 4 [(0, 9, 12, 13)] p l s m args meth c := ⟨S, hP, hI, hfl, htab, hret, hlk⟩
  change rv_has ls [some (.ref (ad 0)), some (.int p1), some (.ref o), none] at hl
  refine lv_aload_n E.1.1 E.1.2.1 dL_statements_0 rfl (hl.2.2 2 _ rfl) ?_
  refine lv_iconst (v := 0) E.1.1 E.1.2.1 dL_statements_1 (by decide) ?_
  refine lv_aload_n E.1.1 E.1.2.1 dL_statements_2 rfl (hl.2.2 0 _ rfl) ?_
  refine lv_iload_n E.1.1 E.1.2.1 dL_statements_3 rfl (hl.2.2 1 _ rfl) ?_
  refine rL_ex (mk := true) (x := 1) E (fun _ => c11_statements_x hfl hI h) (Or.inl rfl) gL_145 hX11_statements ⟨rfl, rfl⟩ ⟨Nat.le_of_ble_eq_true rfl, Nat.le_of_ble_eq_true rfl⟩ ⟨Nat.le_of_ble_eq_true rfl, Nat.le_of_ble_eq_true rfl⟩ rfl (lv := [some (.ref (ad 0)), some (.int p1), some (.ref o), none]) hl rfl (As := [.int p1]) (rest := [.int 0, .ref o]) rfl (Nat.le_of_ble_eq_true rfl) dL_statements_4 [] ⟨0, 9, 12, 13⟩ [] rfl (fun z hz => nomatch hz) rfl (by decide) (rv_al (rv_t2 (List.mem_of_getElem? (i := 87) rfl)) rfl) E.2.1.2.2.2.2.1.2.2.2.1 (fun q9 H1 locs1 hG ho hS => ?_)
  refine lv_astore_n E.1.1 E.1.2.1 dL_statements_12 rfl (rv_has_k hl) (Nat.le_of_ble_eq_true rfl) rfl (fun ls' hl' => ?_)
  exact rL_endx E hG ho hS (by decide) dL_statements_13 dL_statements_14
theorem gL_148 : GoodIn rv_AL (wsV RL 148 RX11 yX11_lacks (rv_ws yX11_lacks cX11_lacks 2 (some .int))) := rv_gV (rv_al (rv_t6 (List.mem_of_getElem? (i := 176) rfl)) rfl) (rv_al (rv_t6 (List.mem_of_getElem? (i := 177) rfl)) rfl) (rv_al (rv_t6 (List.mem_of_getElem? (i := 178) rfl)) rfl) (rv_al (rv_t1 (List.mem_of_getElem? (i := 1) rfl)) rfl) (rv_al (rv_t6 (List.mem_of_getElem? (i := 179) rfl)) rfl)
abbrev rmL_lacks : Room := { frames := 8, cells := 1, slots := 6, locals := 194 }
abbrev wsL_lacks : List Cond := Cond.codeWith yL_lacks cL_lacks 4 (some .int) [(0, 9, 12, 13)] :: rv_AL
theorem wL_lacks {l : Launch} {D : va_G} {cI cZ cO cJ : ClassId} {ad : Nat → Nat} {gh : rC_gh} {mi de o sz : Nat} {w : Int64} (hfl : l.stackTraces = false) (hI : rC_I ad gh) {M : rv_Mem} {p1 : Int32} {r : Int32} (h : f11_lacks gh M p1 = some (.inl r)) : Met l yL_lacks wsL_lacks rmL_lacks (va_Pc [.ref (ad 0), .int p1, .ref o] (rL_P D cI cZ cO cJ ad gh mi de o sz M w)) (rL_qo D cI cZ cO cJ ad gh de o sz gh M r.toInt64) 1 6 (rL_A ad gh sz o) := by
  refine rL_met rfl (Nat.le_of_ble_eq_true rfl) (fun p e s m args below meth c ls S htab hret hlk hP hl => ?_)
  have hsz := hP.2.1
  subst hsz
  have E : rL_E D cI cZ cO cJ ad gh mi de o M w cL_lacks 4 [(0, 9, 12, 13)] p l s m args meth c := ⟨S, hP, hI, hfl, htab, hret, hlk⟩
  change rv_has ls [some (.ref (ad 0)), some (.int p1), some (.ref o), none] at hl
  refine lv_aload_n E.1.1 E.1.2.1 dL_lacks_0 rfl (hl.2.2 2 _ rfl) ?_
  refine lv_iconst (v := 0) E.1.1 E.1.2.1 dL_lacks_1 (by decide) ?_
  refine lv_aload_n E.1.1 E.1.2.1 dL_lacks_2 rfl (hl.2.2 0 _ rfl) ?_
  refine lv_iload_n E.1.1 E.1.2.1 dL_lacks_3 rfl (hl.2.2 1 _ rfl) ?_
  refine rL_ok (v := r) E (fun _ => c11_lacks hfl hI h) gL_148 hX11_lacks ⟨rfl, rfl⟩ ⟨Nat.le_of_ble_eq_true rfl, Nat.le_of_ble_eq_true rfl⟩ ⟨Nat.le_of_ble_eq_true rfl, Nat.le_of_ble_eq_true rfl⟩ rfl (lv := [some (.ref (ad 0)), some (.int p1), some (.ref o), none]) hl rfl (As := [.int p1]) (rest := [.int 0, .ref o]) rfl (Nat.le_of_ble_eq_true rfl) dL_lacks_4 (fun u H1 locs1 h0 hI' hs hG ho hS => ?_)
  refine lv_i2l E.1.1 E.1.2.1 dL_lacks_7 rfl ?_
  exact rL_end E h0 hI' hs hG ho hS dL_lacks_8 dL_lacks_9 (pc2 := 15) (by decide) dL_lacks_15 dL_lacks_16
theorem wL_lacks_x1 {l : Launch} {D : va_G} {cI cZ cO cJ : ClassId} {ad : Nat → Nat} {gh : rC_gh} {mi de o sz : Nat} {w : Int64} (hfl : l.stackTraces = false) (hI : rC_I ad gh) {M : rv_Mem} {p1 : Int32} (h : f11_lacks gh M p1 = some (.inr 1)) : Met l yL_lacks wsL_lacks rmL_lacks (va_Pc [.ref (ad 0), .int p1, .ref o] (rL_P D cI cZ cO cJ ad gh mi de o sz M w)) (rL_qx D cI cZ cO cJ ad gh de o sz 1 M w) 1 6 (rL_A ad gh sz o) := by
  refine rL_met rfl (Nat.le_of_ble_eq_true rfl) (fun p e s m args below meth c ls S htab hret hlk hP hl => ?_)
  have hsz := hP.2.1
  subst hsz
  have E : rL_E D cI cZ cO cJ ad gh mi de o M w cL_lacks 4 [(0, 9, 12, 13)] p l s m args meth c := ⟨S, hP, hI, hfl, htab, hret, hlk⟩
  change rv_has ls [some (.ref (ad 0)), some (.int p1), some (.ref o), none] at hl
  refine lv_aload_n E.1.1 E.1.2.1 dL_lacks_0 rfl (hl.2.2 2 _ rfl) ?_
  refine lv_iconst (v := 0) E.1.1 E.1.2.1 dL_lacks_1 (by decide) ?_
  refine lv_aload_n E.1.1 E.1.2.1 dL_lacks_2 rfl (hl.2.2 0 _ rfl) ?_
  refine lv_iload_n E.1.1 E.1.2.1 dL_lacks_3 rfl (hl.2.2 1 _ rfl) ?_
  refine rL_ex (mk := true) (x := 1) E (fun _ => c11_lacks_x hfl hI h) (Or.inl rfl) gL_148 hX11_lacks ⟨rfl, rfl⟩ ⟨Nat.le_of_ble_eq_true rfl, Nat.le_of_ble_eq_true rfl⟩ ⟨Nat.le_of_ble_eq_true rfl, Nat.le_of_ble_eq_true rfl⟩ rfl (lv := [some (.ref (ad 0)), some (.int p1), some (.ref o), none]) hl rfl (As := [.int p1]) (rest := [.int 0, .ref o]) rfl (Nat.le_of_ble_eq_true rfl) dL_lacks_4 [] ⟨0, 9, 12, 13⟩ [] rfl (fun z hz => nomatch hz) rfl (by decide) (rv_al (rv_t2 (List.mem_of_getElem? (i := 87) rfl)) rfl) E.2.1.2.2.2.2.1.2.2.2.1 (fun q9 H1 locs1 hG ho hS => ?_)
  refine lv_astore_n E.1.1 E.1.2.1 dL_lacks_12 rfl (rv_has_k hl) (Nat.le_of_ble_eq_true rfl) rfl (fun ls' hl' => ?_)
  exact rL_endx E hG ho hS (by decide) dL_lacks_13 dL_lacks_14
theorem gL_151 : GoodIn rv_AL (wsV RL 151 RX11 yX11_setWay (rv_ws yX11_setWay cX11_setWay 3 (some .int))) := rv_gV (rv_al (rv_t6 (List.mem_of_getElem? (i := 189) rfl)) rfl) (rv_al (rv_t6 (List.mem_of_getElem? (i := 190) rfl)) rfl) (rv_al (rv_t6 (List.mem_of_getElem? (i := 191) rfl)) rfl) (rv_al (rv_t1 (List.mem_of_getElem? (i := 1) rfl)) rfl) (rv_al (rv_t6 (List.mem_of_getElem? (i := 192) rfl)) rfl)
abbrev rmL_setWay : Room := { frames := 8, cells := 2, slots := 12, locals := 142 }
abbrev wsL_setWay : List Cond := Cond.codeWith yL_setWay cL_setWay 5 (some .int) [(0, 10, 13, 13), (0, 10, 17, 23)] :: rv_AL
theorem wL_setWay {l : Launch} {D : va_G} {cI cZ cO cJ : ClassId} {ad : Nat → Nat} {gh : rC_gh} {mi de o sz : Nat} {w : Int64} (hfl : l.stackTraces = false) (hI : rC_I ad gh) {M : rv_Mem} {p1 : Int32} {p2 : Int32} {r : Int32} {M1 : rv_Mem} (h : f11_setWay gh M p1 p2 = some (.inl (r, M1))) : Met l yL_setWay wsL_setWay rmL_setWay (va_Pc [.ref (ad 0), .int p1, .int p2, .ref o] (rL_P D cI cZ cO cJ ad gh mi de o sz M w)) (rL_qo D cI cZ cO cJ ad gh de o sz gh M1 r.toInt64) 2 12 (rL_A ad gh sz o) := by
  refine rL_met rfl (Nat.le_of_ble_eq_true rfl) (fun p e s m args below meth c ls S htab hret hlk hP hl => ?_)
  have hsz := hP.2.1
  subst hsz
  have E : rL_E D cI cZ cO cJ ad gh mi de o M w cL_setWay 5 [(0, 10, 13, 13), (0, 10, 17, 23)] p l s m args meth c := ⟨S, hP, hI, hfl, htab, hret, hlk⟩
  change rv_has ls [some (.ref (ad 0)), some (.int p1), some (.int p2), some (.ref o), none] at hl
  refine lv_aload_n E.1.1 E.1.2.1 dL_setWay_0 rfl (hl.2.2 3 _ rfl) ?_
  refine lv_iconst (v := 0) E.1.1 E.1.2.1 dL_setWay_1 (by decide) ?_
  refine lv_aload_n E.1.1 E.1.2.1 dL_setWay_2 rfl (hl.2.2 0 _ rfl) ?_
  refine lv_iload_n E.1.1 E.1.2.1 dL_setWay_3 rfl (hl.2.2 1 _ rfl) ?_
  refine lv_iload_n E.1.1 E.1.2.1 dL_setWay_4 rfl (hl.2.2 2 _ rfl) ?_
  refine rL_ok (v := r) E (fun _ => c11_setWay hfl hI h) gL_151 hX11_setWay ⟨rfl, rfl⟩ ⟨Nat.le_of_ble_eq_true rfl, Nat.le_of_ble_eq_true rfl⟩ ⟨Nat.le_of_ble_eq_true rfl, Nat.le_of_ble_eq_true rfl⟩ rfl (lv := [some (.ref (ad 0)), some (.int p1), some (.int p2), some (.ref o), none]) hl rfl (As := [.int p1, .int p2]) (rest := [.int 0, .ref o]) rfl (Nat.le_of_ble_eq_true rfl) dL_setWay_5 (fun u H1 locs1 h0 hI' hs hG ho hS => ?_)
  refine lv_i2l E.1.1 E.1.2.1 dL_setWay_8 rfl ?_
  exact rL_end E h0 hI' hs hG ho hS dL_setWay_9 dL_setWay_10 (pc2 := 21) (by decide) dL_setWay_21 dL_setWay_22
theorem wL_setWay_x1 {l : Launch} {D : va_G} {cI cZ cO cJ : ClassId} {ad : Nat → Nat} {gh : rC_gh} {mi de o sz : Nat} {w : Int64} (hfl : l.stackTraces = false) (hI : rC_I ad gh) {M : rv_Mem} {p1 : Int32} {p2 : Int32} {M1 : rv_Mem} (h : f11_setWay gh M p1 p2 = some (.inr (1, M1))) : Met l yL_setWay wsL_setWay rmL_setWay (va_Pc [.ref (ad 0), .int p1, .int p2, .ref o] (rL_P D cI cZ cO cJ ad gh mi de o sz M w)) (rL_qx D cI cZ cO cJ ad gh de o sz 1 M1 w) 2 12 (rL_A ad gh sz o) := by
  refine rL_met rfl (Nat.le_of_ble_eq_true rfl) (fun p e s m args below meth c ls S htab hret hlk hP hl => ?_)
  have hsz := hP.2.1
  subst hsz
  have E : rL_E D cI cZ cO cJ ad gh mi de o M w cL_setWay 5 [(0, 10, 13, 13), (0, 10, 17, 23)] p l s m args meth c := ⟨S, hP, hI, hfl, htab, hret, hlk⟩
  change rv_has ls [some (.ref (ad 0)), some (.int p1), some (.int p2), some (.ref o), none] at hl
  refine lv_aload_n E.1.1 E.1.2.1 dL_setWay_0 rfl (hl.2.2 3 _ rfl) ?_
  refine lv_iconst (v := 0) E.1.1 E.1.2.1 dL_setWay_1 (by decide) ?_
  refine lv_aload_n E.1.1 E.1.2.1 dL_setWay_2 rfl (hl.2.2 0 _ rfl) ?_
  refine lv_iload_n E.1.1 E.1.2.1 dL_setWay_3 rfl (hl.2.2 1 _ rfl) ?_
  refine lv_iload_n E.1.1 E.1.2.1 dL_setWay_4 rfl (hl.2.2 2 _ rfl) ?_
  refine rL_ex (mk := true) (x := 1) E (fun _ => c11_setWay_x hfl hI h) (Or.inl rfl) gL_151 hX11_setWay ⟨rfl, rfl⟩ ⟨Nat.le_of_ble_eq_true rfl, Nat.le_of_ble_eq_true rfl⟩ ⟨Nat.le_of_ble_eq_true rfl, Nat.le_of_ble_eq_true rfl⟩ rfl (lv := [some (.ref (ad 0)), some (.int p1), some (.int p2), some (.ref o), none]) hl rfl (As := [.int p1, .int p2]) (rest := [.int 0, .ref o]) rfl (Nat.le_of_ble_eq_true rfl) dL_setWay_5 [] ⟨0, 10, 13, 13⟩ [⟨0, 10, 17, 23⟩] rfl (fun z hz => nomatch hz) rfl (by decide) (rv_al (rv_t2 (List.mem_of_getElem? (i := 87) rfl)) rfl) E.2.1.2.2.2.2.1.2.2.2.1 (fun q9 H1 locs1 hG ho hS => ?_)
  refine lv_astore E.1.1 E.1.2.1 dL_setWay_13 (rv_has_k hl) (Nat.le_of_ble_eq_true rfl) rfl (fun ls' hl' => ?_)
  exact rL_endx E hG ho hS (by decide) dL_setWay_15 dL_setWay_16
theorem wL_setWay_x2 {l : Launch} {D : va_G} {cI cZ cO cJ : ClassId} {ad : Nat → Nat} {gh : rC_gh} {mi de o sz : Nat} {w : Int64} (hfl : l.stackTraces = false) (hI : rC_I ad gh) {M : rv_Mem} {p1 : Int32} {p2 : Int32} {M1 : rv_Mem} (h : f11_setWay gh M p1 p2 = some (.inr (2, M1))) : Met l yL_setWay wsL_setWay rmL_setWay (va_Pc [.ref (ad 0), .int p1, .int p2, .ref o] (rL_P D cI cZ cO cJ ad gh mi de o sz M w)) (rL_qx D cI cZ cO cJ ad gh de o sz 2 M1 w) 2 12 (rL_A ad gh sz o) := by
  refine rL_met rfl (Nat.le_of_ble_eq_true rfl) (fun p e s m args below meth c ls S htab hret hlk hP hl => ?_)
  have hsz := hP.2.1
  subst hsz
  have E : rL_E D cI cZ cO cJ ad gh mi de o M w cL_setWay 5 [(0, 10, 13, 13), (0, 10, 17, 23)] p l s m args meth c := ⟨S, hP, hI, hfl, htab, hret, hlk⟩
  change rv_has ls [some (.ref (ad 0)), some (.int p1), some (.int p2), some (.ref o), none] at hl
  refine lv_aload_n E.1.1 E.1.2.1 dL_setWay_0 rfl (hl.2.2 3 _ rfl) ?_
  refine lv_iconst (v := 0) E.1.1 E.1.2.1 dL_setWay_1 (by decide) ?_
  refine lv_aload_n E.1.1 E.1.2.1 dL_setWay_2 rfl (hl.2.2 0 _ rfl) ?_
  refine lv_iload_n E.1.1 E.1.2.1 dL_setWay_3 rfl (hl.2.2 1 _ rfl) ?_
  refine lv_iload_n E.1.1 E.1.2.1 dL_setWay_4 rfl (hl.2.2 2 _ rfl) ?_
  refine rL_ex (mk := true) (x := 2) E (fun _ => c11_setWay_x hfl hI h) (Or.inl rfl) gL_151 hX11_setWay ⟨rfl, rfl⟩ ⟨Nat.le_of_ble_eq_true rfl, Nat.le_of_ble_eq_true rfl⟩ ⟨Nat.le_of_ble_eq_true rfl, Nat.le_of_ble_eq_true rfl⟩ rfl (lv := [some (.ref (ad 0)), some (.int p1), some (.int p2), some (.ref o), none]) hl rfl (As := [.int p1, .int p2]) (rest := [.int 0, .ref o]) rfl (Nat.le_of_ble_eq_true rfl) dL_setWay_5 [⟨0, 10, 13, 13⟩] ⟨0, 10, 17, 23⟩ [] rfl (fun z hz => by cases List.mem_singleton.mp hz; exact ⟨by decide, _, rv_al (rv_t2 (List.mem_of_getElem? (i := 87) rfl)) rfl, E.2.1.2.2.2.2.2.2.2.2.1.1⟩) rfl (by decide) (rv_al (rv_t3 (List.mem_of_getElem? (i := 0) rfl)) rfl) E.2.1.2.2.2.2.1.2.2.2.2.1 (fun q9 H1 locs1 hG ho hS => ?_)
  refine lv_astore E.1.1 E.1.2.1 dL_setWay_17 (rv_has_k hl) (Nat.le_of_ble_eq_true rfl) rfl (fun ls' hl' => ?_)
  exact rL_endx E hG ho hS (by decide) dL_setWay_19 dL_setWay_20
theorem gL_154 : GoodIn rv_AL (wsV RL 154 RX11 yX11_group (rv_ws yX11_group cX11_group 2 (some .int))) := rv_gV (rv_al (rv_t6 (List.mem_of_getElem? (i := 203) rfl)) rfl) (rv_al (rv_t6 (List.mem_of_getElem? (i := 204) rfl)) rfl) (rv_al (rv_t6 (List.mem_of_getElem? (i := 205) rfl)) rfl) (rv_al (rv_t1 (List.mem_of_getElem? (i := 1) rfl)) rfl) (rv_al (rv_t6 (List.mem_of_getElem? (i := 206) rfl)) rfl)
abbrev rmL_group : Room := { frames := 8, cells := 2, slots := 12, locals := 174 }
abbrev wsL_group : List Cond := Cond.codeWith yL_group cL_group 4 (some .int) [(0, 9, 12, 13), (0, 9, 15, 25)] :: rv_AL
theorem wL_group {l : Launch} {D : va_G} {cI cZ cO cJ : ClassId} {ad : Nat → Nat} {gh : rC_gh} {mi de o sz : Nat} {w : Int64} (hfl : l.stackTraces = false) (hI : rC_I ad gh) {M : rv_Mem} {p1 : Int32} {r : Int32} (h : f11_group gh M p1 = some (.inl r)) : Met l yL_group wsL_group rmL_group (va_Pc [.ref (ad 0), .int p1, .ref o] (rL_P D cI cZ cO cJ ad gh mi de o sz M w)) (rL_qo D cI cZ cO cJ ad gh de o sz gh M r.toInt64) 2 12 (rL_A ad gh sz o) := by
  refine rL_met rfl (Nat.le_of_ble_eq_true rfl) (fun p e s m args below meth c ls S htab hret hlk hP hl => ?_)
  have hsz := hP.2.1
  subst hsz
  have E : rL_E D cI cZ cO cJ ad gh mi de o M w cL_group 4 [(0, 9, 12, 13), (0, 9, 15, 25)] p l s m args meth c := ⟨S, hP, hI, hfl, htab, hret, hlk⟩
  change rv_has ls [some (.ref (ad 0)), some (.int p1), some (.ref o), none] at hl
  refine lv_aload_n E.1.1 E.1.2.1 dL_group_0 rfl (hl.2.2 2 _ rfl) ?_
  refine lv_iconst (v := 0) E.1.1 E.1.2.1 dL_group_1 (by decide) ?_
  refine lv_aload_n E.1.1 E.1.2.1 dL_group_2 rfl (hl.2.2 0 _ rfl) ?_
  refine lv_iload_n E.1.1 E.1.2.1 dL_group_3 rfl (hl.2.2 1 _ rfl) ?_
  refine rL_ok (v := r) E (fun _ => c11_group hfl hI h) gL_154 hX11_group ⟨rfl, rfl⟩ ⟨Nat.le_of_ble_eq_true rfl, Nat.le_of_ble_eq_true rfl⟩ ⟨Nat.le_of_ble_eq_true rfl, Nat.le_of_ble_eq_true rfl⟩ rfl (lv := [some (.ref (ad 0)), some (.int p1), some (.ref o), none]) hl rfl (As := [.int p1]) (rest := [.int 0, .ref o]) rfl (Nat.le_of_ble_eq_true rfl) dL_group_4 (fun u H1 locs1 h0 hI' hs hG ho hS => ?_)
  refine lv_i2l E.1.1 E.1.2.1 dL_group_7 rfl ?_
  exact rL_end E h0 hI' hs hG ho hS dL_group_8 dL_group_9 (pc2 := 18) (by decide) dL_group_18 dL_group_19
theorem wL_group_x1 {l : Launch} {D : va_G} {cI cZ cO cJ : ClassId} {ad : Nat → Nat} {gh : rC_gh} {mi de o sz : Nat} {w : Int64} (hfl : l.stackTraces = false) (hI : rC_I ad gh) {M : rv_Mem} {p1 : Int32} (h : f11_group gh M p1 = some (.inr 1)) : Met l yL_group wsL_group rmL_group (va_Pc [.ref (ad 0), .int p1, .ref o] (rL_P D cI cZ cO cJ ad gh mi de o sz M w)) (rL_qx D cI cZ cO cJ ad gh de o sz 1 M w) 2 12 (rL_A ad gh sz o) := by
  refine rL_met rfl (Nat.le_of_ble_eq_true rfl) (fun p e s m args below meth c ls S htab hret hlk hP hl => ?_)
  have hsz := hP.2.1
  subst hsz
  have E : rL_E D cI cZ cO cJ ad gh mi de o M w cL_group 4 [(0, 9, 12, 13), (0, 9, 15, 25)] p l s m args meth c := ⟨S, hP, hI, hfl, htab, hret, hlk⟩
  change rv_has ls [some (.ref (ad 0)), some (.int p1), some (.ref o), none] at hl
  refine lv_aload_n E.1.1 E.1.2.1 dL_group_0 rfl (hl.2.2 2 _ rfl) ?_
  refine lv_iconst (v := 0) E.1.1 E.1.2.1 dL_group_1 (by decide) ?_
  refine lv_aload_n E.1.1 E.1.2.1 dL_group_2 rfl (hl.2.2 0 _ rfl) ?_
  refine lv_iload_n E.1.1 E.1.2.1 dL_group_3 rfl (hl.2.2 1 _ rfl) ?_
  refine rL_ex (mk := true) (x := 1) E (fun _ => c11_group_x hfl hI h) (Or.inl rfl) gL_154 hX11_group ⟨rfl, rfl⟩ ⟨Nat.le_of_ble_eq_true rfl, Nat.le_of_ble_eq_true rfl⟩ ⟨Nat.le_of_ble_eq_true rfl, Nat.le_of_ble_eq_true rfl⟩ rfl (lv := [some (.ref (ad 0)), some (.int p1), some (.ref o), none]) hl rfl (As := [.int p1]) (rest := [.int 0, .ref o]) rfl (Nat.le_of_ble_eq_true rfl) dL_group_4 [] ⟨0, 9, 12, 13⟩ [⟨0, 9, 15, 25⟩] rfl (fun z hz => nomatch hz) rfl (by decide) (rv_al (rv_t2 (List.mem_of_getElem? (i := 87) rfl)) rfl) E.2.1.2.2.2.2.1.2.2.2.1 (fun q9 H1 locs1 hG ho hS => ?_)
  refine lv_astore_n E.1.1 E.1.2.1 dL_group_12 rfl (rv_has_k hl) (Nat.le_of_ble_eq_true rfl) rfl (fun ls' hl' => ?_)
  exact rL_endx E hG ho hS (by decide) dL_group_13 dL_group_14
theorem wL_group_x3 {l : Launch} {D : va_G} {cI cZ cO cJ : ClassId} {ad : Nat → Nat} {gh : rC_gh} {mi de o sz : Nat} {w : Int64} (hfl : l.stackTraces = false) (hI : rC_I ad gh) {M : rv_Mem} {p1 : Int32} (h : f11_group gh M p1 = some (.inr 3)) : Met l yL_group wsL_group rmL_group (va_Pc [.ref (ad 0), .int p1, .ref o] (rL_P D cI cZ cO cJ ad gh mi de o sz M w)) (rL_qx D cI cZ cO cJ ad gh de o sz 2 M w) 2 12 (rL_A ad gh sz o) := by
  refine rL_met rfl (Nat.le_of_ble_eq_true rfl) (fun p e s m args below meth c ls S htab hret hlk hP hl => ?_)
  have hsz := hP.2.1
  subst hsz
  have E : rL_E D cI cZ cO cJ ad gh mi de o M w cL_group 4 [(0, 9, 12, 13), (0, 9, 15, 25)] p l s m args meth c := ⟨S, hP, hI, hfl, htab, hret, hlk⟩
  change rv_has ls [some (.ref (ad 0)), some (.int p1), some (.ref o), none] at hl
  refine lv_aload_n E.1.1 E.1.2.1 dL_group_0 rfl (hl.2.2 2 _ rfl) ?_
  refine lv_iconst (v := 0) E.1.1 E.1.2.1 dL_group_1 (by decide) ?_
  refine lv_aload_n E.1.1 E.1.2.1 dL_group_2 rfl (hl.2.2 0 _ rfl) ?_
  refine lv_iload_n E.1.1 E.1.2.1 dL_group_3 rfl (hl.2.2 1 _ rfl) ?_
  refine rL_ex (mk := true) (x := 3) E (fun _ => c11_group_x hfl hI h) (Or.inl rfl) gL_154 hX11_group ⟨rfl, rfl⟩ ⟨Nat.le_of_ble_eq_true rfl, Nat.le_of_ble_eq_true rfl⟩ ⟨Nat.le_of_ble_eq_true rfl, Nat.le_of_ble_eq_true rfl⟩ rfl (lv := [some (.ref (ad 0)), some (.int p1), some (.ref o), none]) hl rfl (As := [.int p1]) (rest := [.int 0, .ref o]) rfl (Nat.le_of_ble_eq_true rfl) dL_group_4 [⟨0, 9, 12, 13⟩] ⟨0, 9, 15, 25⟩ [] rfl (fun z hz => by cases List.mem_singleton.mp hz; exact ⟨by decide, _, rv_al (rv_t2 (List.mem_of_getElem? (i := 87) rfl)) rfl, E.2.1.2.2.2.2.2.2.2.2.1.2.1⟩) rfl (by decide) (rv_al (rv_t3 (List.mem_of_getElem? (i := 1) rfl)) rfl) E.2.1.2.2.2.2.1.2.2.2.2.2.1 (fun q9 H1 locs1 hG ho hS => ?_)
  refine lv_astore_n E.1.1 E.1.2.1 dL_group_15 rfl (rv_has_k hl) (Nat.le_of_ble_eq_true rfl) rfl (fun ls' hl' => ?_)
  exact rL_endx E hG ho hS (by decide) dL_group_16 dL_group_17
theorem gL_157 : GoodIn rv_AL (wsV RL 157 RX11 yX11_land (rv_ws yX11_land cX11_land 5 (some .int))) := rv_gV (rv_al (rv_t6 (List.mem_of_getElem? (i := 223) rfl)) rfl) (rv_al (rv_t6 (List.mem_of_getElem? (i := 224) rfl)) rfl) (rv_al (rv_t6 (List.mem_of_getElem? (i := 225) rfl)) rfl) (rv_al (rv_t1 (List.mem_of_getElem? (i := 1) rfl)) rfl) (rv_al (rv_t6 (List.mem_of_getElem? (i := 226) rfl)) rfl)
abbrev rmL_land : Room := { frames := 9, cells := 3, slots := 18, locals := 219 }
abbrev wsL_land : List Cond := Cond.codeWith yL_land cL_land 5 (some .int) [(0, 10, 13, 13), (0, 10, 17, 25)] :: rv_AL
theorem wL_land {l : Launch} {D : va_G} {cI cZ cO cJ : ClassId} {ad : Nat → Nat} {gh : rC_gh} {mi de o sz : Nat} {w : Int64} (hfl : l.stackTraces = false) (hI : rC_I ad gh) {M : rv_Mem} {p1 : Int32} {p2 : Int32} {r : Int32} {M1 : rv_Mem} (h : f11_land gh M p1 p2 = some (.inl (r, M1))) : Met l yL_land wsL_land rmL_land (va_Pc [.ref (ad 0), .int p1, .int p2, .ref o] (rL_P D cI cZ cO cJ ad gh mi de o sz M w)) (rL_qo D cI cZ cO cJ ad gh de o sz gh M1 r.toInt64) 3 18 (rL_A ad gh sz o) := by
  refine rL_met rfl (Nat.le_of_ble_eq_true rfl) (fun p e s m args below meth c ls S htab hret hlk hP hl => ?_)
  have hsz := hP.2.1
  subst hsz
  have E : rL_E D cI cZ cO cJ ad gh mi de o M w cL_land 5 [(0, 10, 13, 13), (0, 10, 17, 25)] p l s m args meth c := ⟨S, hP, hI, hfl, htab, hret, hlk⟩
  change rv_has ls [some (.ref (ad 0)), some (.int p1), some (.int p2), some (.ref o), none] at hl
  refine lv_aload_n E.1.1 E.1.2.1 dL_land_0 rfl (hl.2.2 3 _ rfl) ?_
  refine lv_iconst (v := 0) E.1.1 E.1.2.1 dL_land_1 (by decide) ?_
  refine lv_aload_n E.1.1 E.1.2.1 dL_land_2 rfl (hl.2.2 0 _ rfl) ?_
  refine lv_iload_n E.1.1 E.1.2.1 dL_land_3 rfl (hl.2.2 1 _ rfl) ?_
  refine lv_iload_n E.1.1 E.1.2.1 dL_land_4 rfl (hl.2.2 2 _ rfl) ?_
  refine rL_ok (v := r) E (fun _ => c11_land hfl hI h) gL_157 hX11_land ⟨rfl, rfl⟩ ⟨Nat.le_of_ble_eq_true rfl, Nat.le_of_ble_eq_true rfl⟩ ⟨Nat.le_of_ble_eq_true rfl, Nat.le_of_ble_eq_true rfl⟩ rfl (lv := [some (.ref (ad 0)), some (.int p1), some (.int p2), some (.ref o), none]) hl rfl (As := [.int p1, .int p2]) (rest := [.int 0, .ref o]) rfl (Nat.le_of_ble_eq_true rfl) dL_land_5 (fun u H1 locs1 h0 hI' hs hG ho hS => ?_)
  refine lv_i2l E.1.1 E.1.2.1 dL_land_8 rfl ?_
  exact rL_end E h0 hI' hs hG ho hS dL_land_9 dL_land_10 (pc2 := 21) (by decide) dL_land_21 dL_land_22
theorem wL_land_x1 {l : Launch} {D : va_G} {cI cZ cO cJ : ClassId} {ad : Nat → Nat} {gh : rC_gh} {mi de o sz : Nat} {w : Int64} (hfl : l.stackTraces = false) (hI : rC_I ad gh) {M : rv_Mem} {p1 : Int32} {p2 : Int32} {M1 : rv_Mem} (h : f11_land gh M p1 p2 = some (.inr (1, M1))) : Met l yL_land wsL_land rmL_land (va_Pc [.ref (ad 0), .int p1, .int p2, .ref o] (rL_P D cI cZ cO cJ ad gh mi de o sz M w)) (rL_qx D cI cZ cO cJ ad gh de o sz 1 M1 w) 3 18 (rL_A ad gh sz o) := by
  refine rL_met rfl (Nat.le_of_ble_eq_true rfl) (fun p e s m args below meth c ls S htab hret hlk hP hl => ?_)
  have hsz := hP.2.1
  subst hsz
  have E : rL_E D cI cZ cO cJ ad gh mi de o M w cL_land 5 [(0, 10, 13, 13), (0, 10, 17, 25)] p l s m args meth c := ⟨S, hP, hI, hfl, htab, hret, hlk⟩
  change rv_has ls [some (.ref (ad 0)), some (.int p1), some (.int p2), some (.ref o), none] at hl
  refine lv_aload_n E.1.1 E.1.2.1 dL_land_0 rfl (hl.2.2 3 _ rfl) ?_
  refine lv_iconst (v := 0) E.1.1 E.1.2.1 dL_land_1 (by decide) ?_
  refine lv_aload_n E.1.1 E.1.2.1 dL_land_2 rfl (hl.2.2 0 _ rfl) ?_
  refine lv_iload_n E.1.1 E.1.2.1 dL_land_3 rfl (hl.2.2 1 _ rfl) ?_
  refine lv_iload_n E.1.1 E.1.2.1 dL_land_4 rfl (hl.2.2 2 _ rfl) ?_
  refine rL_ex (mk := true) (x := 1) E (fun _ => c11_land_x hfl hI h) (Or.inl rfl) gL_157 hX11_land ⟨rfl, rfl⟩ ⟨Nat.le_of_ble_eq_true rfl, Nat.le_of_ble_eq_true rfl⟩ ⟨Nat.le_of_ble_eq_true rfl, Nat.le_of_ble_eq_true rfl⟩ rfl (lv := [some (.ref (ad 0)), some (.int p1), some (.int p2), some (.ref o), none]) hl rfl (As := [.int p1, .int p2]) (rest := [.int 0, .ref o]) rfl (Nat.le_of_ble_eq_true rfl) dL_land_5 [] ⟨0, 10, 13, 13⟩ [⟨0, 10, 17, 25⟩] rfl (fun z hz => nomatch hz) rfl (by decide) (rv_al (rv_t2 (List.mem_of_getElem? (i := 87) rfl)) rfl) E.2.1.2.2.2.2.1.2.2.2.1 (fun q9 H1 locs1 hG ho hS => ?_)
  refine lv_astore E.1.1 E.1.2.1 dL_land_13 (rv_has_k hl) (Nat.le_of_ble_eq_true rfl) rfl (fun ls' hl' => ?_)
  exact rL_endx E hG ho hS (by decide) dL_land_15 dL_land_16
theorem wL_land_x3 {l : Launch} {D : va_G} {cI cZ cO cJ : ClassId} {ad : Nat → Nat} {gh : rC_gh} {mi de o sz : Nat} {w : Int64} (hfl : l.stackTraces = false) (hI : rC_I ad gh) {M : rv_Mem} {p1 : Int32} {p2 : Int32} {M1 : rv_Mem} (h : f11_land gh M p1 p2 = some (.inr (3, M1))) : Met l yL_land wsL_land rmL_land (va_Pc [.ref (ad 0), .int p1, .int p2, .ref o] (rL_P D cI cZ cO cJ ad gh mi de o sz M w)) (rL_qx D cI cZ cO cJ ad gh de o sz 2 M1 w) 3 18 (rL_A ad gh sz o) := by
  refine rL_met rfl (Nat.le_of_ble_eq_true rfl) (fun p e s m args below meth c ls S htab hret hlk hP hl => ?_)
  have hsz := hP.2.1
  subst hsz
  have E : rL_E D cI cZ cO cJ ad gh mi de o M w cL_land 5 [(0, 10, 13, 13), (0, 10, 17, 25)] p l s m args meth c := ⟨S, hP, hI, hfl, htab, hret, hlk⟩
  change rv_has ls [some (.ref (ad 0)), some (.int p1), some (.int p2), some (.ref o), none] at hl
  refine lv_aload_n E.1.1 E.1.2.1 dL_land_0 rfl (hl.2.2 3 _ rfl) ?_
  refine lv_iconst (v := 0) E.1.1 E.1.2.1 dL_land_1 (by decide) ?_
  refine lv_aload_n E.1.1 E.1.2.1 dL_land_2 rfl (hl.2.2 0 _ rfl) ?_
  refine lv_iload_n E.1.1 E.1.2.1 dL_land_3 rfl (hl.2.2 1 _ rfl) ?_
  refine lv_iload_n E.1.1 E.1.2.1 dL_land_4 rfl (hl.2.2 2 _ rfl) ?_
  refine rL_ex (mk := true) (x := 3) E (fun _ => c11_land_x hfl hI h) (Or.inl rfl) gL_157 hX11_land ⟨rfl, rfl⟩ ⟨Nat.le_of_ble_eq_true rfl, Nat.le_of_ble_eq_true rfl⟩ ⟨Nat.le_of_ble_eq_true rfl, Nat.le_of_ble_eq_true rfl⟩ rfl (lv := [some (.ref (ad 0)), some (.int p1), some (.int p2), some (.ref o), none]) hl rfl (As := [.int p1, .int p2]) (rest := [.int 0, .ref o]) rfl (Nat.le_of_ble_eq_true rfl) dL_land_5 [⟨0, 10, 13, 13⟩] ⟨0, 10, 17, 25⟩ [] rfl (fun z hz => by cases List.mem_singleton.mp hz; exact ⟨by decide, _, rv_al (rv_t2 (List.mem_of_getElem? (i := 87) rfl)) rfl, E.2.1.2.2.2.2.2.2.2.2.1.2.1⟩) rfl (by decide) (rv_al (rv_t3 (List.mem_of_getElem? (i := 1) rfl)) rfl) E.2.1.2.2.2.2.1.2.2.2.2.2.1 (fun q9 H1 locs1 hG ho hS => ?_)
  refine lv_astore E.1.1 E.1.2.1 dL_land_17 (rv_has_k hl) (Nat.le_of_ble_eq_true rfl) rfl (fun ls' hl' => ?_)
  exact rL_endx E hG ho hS (by decide) dL_land_19 dL_land_20
theorem gL_160 : GoodIn rv_AL (wsV RL 160 RX11 yX11_addReviewer (rv_ws yX11_addReviewer cX11_addReviewer 5 (some .boolean))) := rv_gV (rv_al (rv_t7 (List.mem_of_getElem? (i := 34) rfl)) rfl) (rv_al (rv_t7 (List.mem_of_getElem? (i := 35) rfl)) rfl) (rv_al (rv_t7 (List.mem_of_getElem? (i := 36) rfl)) rfl) (rv_al (rv_t1 (List.mem_of_getElem? (i := 1) rfl)) rfl) (rv_al (rv_t7 (List.mem_of_getElem? (i := 37) rfl)) rfl)
abbrev rmL_addReviewer : Room := { frames := 8, cells := 3, slots := 18, locals := 146 }
abbrev wsL_addReviewer : List Cond := Cond.codeWith yL_addReviewer cL_addReviewer 5 (some .int) [(0, 17, 20, 13), (0, 17, 24, 25)] :: rv_AL
theorem wL_addReviewer {l : Launch} {D : va_G} {cI cZ cO cJ : ClassId} {ad : Nat → Nat} {gh : rC_gh} {mi de o sz : Nat} {w : Int64} (hfl : l.stackTraces = false) (hI : rC_I ad gh) {M : rv_Mem} {p1 : Int32} {p2 : Int32} {r : Bool} {M1 : rv_Mem} (h : f11_addReviewer gh M p1 p2 = some (.inl (r, M1))) : Met l yL_addReviewer wsL_addReviewer rmL_addReviewer (va_Pc [.ref (ad 0), .int p1, .int p2, .ref o] (rL_P D cI cZ cO cJ ad gh mi de o sz M w)) (rL_qo D cI cZ cO cJ ad gh de o sz gh M1 (if r = true then 1 else 0)) 3 18 (rL_A ad gh sz o) := by
  refine rL_met rfl (Nat.le_of_ble_eq_true rfl) (fun p e s m args below meth c ls S htab hret hlk hP hl => ?_)
  have hsz := hP.2.1
  subst hsz
  have E : rL_E D cI cZ cO cJ ad gh mi de o M w cL_addReviewer 5 [(0, 17, 20, 13), (0, 17, 24, 25)] p l s m args meth c := ⟨S, hP, hI, hfl, htab, hret, hlk⟩
  change rv_has ls [some (.ref (ad 0)), some (.int p1), some (.int p2), some (.ref o), none] at hl
  refine lv_aload_n E.1.1 E.1.2.1 dL_addReviewer_0 rfl (hl.2.2 3 _ rfl) ?_
  refine lv_iconst (v := 0) E.1.1 E.1.2.1 dL_addReviewer_1 (by decide) ?_
  refine lv_aload_n E.1.1 E.1.2.1 dL_addReviewer_2 rfl (hl.2.2 0 _ rfl) ?_
  refine lv_iload_n E.1.1 E.1.2.1 dL_addReviewer_3 rfl (hl.2.2 1 _ rfl) ?_
  refine lv_iload_n E.1.1 E.1.2.1 dL_addReviewer_4 rfl (hl.2.2 2 _ rfl) ?_
  refine rL_ok (v := rv_i r) E (fun _ => c11_addReviewer hfl hI h) gL_160 hX11_addReviewer ⟨rfl, rfl⟩ ⟨Nat.le_of_ble_eq_true rfl, Nat.le_of_ble_eq_true rfl⟩ ⟨Nat.le_of_ble_eq_true rfl, Nat.le_of_ble_eq_true rfl⟩ rfl (lv := [some (.ref (ad 0)), some (.int p1), some (.int p2), some (.ref o), none]) hl rfl (As := [.int p1, .int p2]) (rest := [.int 0, .ref o]) rfl (Nat.le_of_ble_eq_true rfl) dL_addReviewer_5 (fun u H1 locs1 h0 hI' hs hG ho hS => ?_)
  cases r with
  | true =>
    refine lv_if_eq (tgt := 15) E.1.1 E.1.2.1 dL_addReviewer_8 (by decide) (fun z => absurd z (by decide)) (fun _ => ?_)
    refine lv_lconst (v := 1) E.1.1 E.1.2.1 dL_addReviewer_11 (by decide) ?_
    refine lv_goto (tgt := 16) E.1.1 E.1.2.1 dL_addReviewer_12 (by decide) ?_
    exact rL_end E h0 hI' hs hG ho hS dL_addReviewer_16 dL_addReviewer_17 (pc2 := 28) (by decide) dL_addReviewer_28 dL_addReviewer_29
  | false =>
    refine lv_if_eq (tgt := 15) E.1.1 E.1.2.1 dL_addReviewer_8 (by decide) (fun _ => ?_) (fun z => absurd rfl z)
    refine lv_lconst (v := 0) E.1.1 E.1.2.1 dL_addReviewer_15 (by decide) ?_
    exact rL_end E h0 hI' hs hG ho hS dL_addReviewer_16 dL_addReviewer_17 (pc2 := 28) (by decide) dL_addReviewer_28 dL_addReviewer_29
theorem wL_addReviewer_x1 {l : Launch} {D : va_G} {cI cZ cO cJ : ClassId} {ad : Nat → Nat} {gh : rC_gh} {mi de o sz : Nat} {w : Int64} (hfl : l.stackTraces = false) (hI : rC_I ad gh) {M : rv_Mem} {p1 : Int32} {p2 : Int32} {M1 : rv_Mem} (h : f11_addReviewer gh M p1 p2 = some (.inr (1, M1))) : Met l yL_addReviewer wsL_addReviewer rmL_addReviewer (va_Pc [.ref (ad 0), .int p1, .int p2, .ref o] (rL_P D cI cZ cO cJ ad gh mi de o sz M w)) (rL_qx D cI cZ cO cJ ad gh de o sz 1 M1 w) 3 18 (rL_A ad gh sz o) := by
  refine rL_met rfl (Nat.le_of_ble_eq_true rfl) (fun p e s m args below meth c ls S htab hret hlk hP hl => ?_)
  have hsz := hP.2.1
  subst hsz
  have E : rL_E D cI cZ cO cJ ad gh mi de o M w cL_addReviewer 5 [(0, 17, 20, 13), (0, 17, 24, 25)] p l s m args meth c := ⟨S, hP, hI, hfl, htab, hret, hlk⟩
  change rv_has ls [some (.ref (ad 0)), some (.int p1), some (.int p2), some (.ref o), none] at hl
  refine lv_aload_n E.1.1 E.1.2.1 dL_addReviewer_0 rfl (hl.2.2 3 _ rfl) ?_
  refine lv_iconst (v := 0) E.1.1 E.1.2.1 dL_addReviewer_1 (by decide) ?_
  refine lv_aload_n E.1.1 E.1.2.1 dL_addReviewer_2 rfl (hl.2.2 0 _ rfl) ?_
  refine lv_iload_n E.1.1 E.1.2.1 dL_addReviewer_3 rfl (hl.2.2 1 _ rfl) ?_
  refine lv_iload_n E.1.1 E.1.2.1 dL_addReviewer_4 rfl (hl.2.2 2 _ rfl) ?_
  refine rL_ex (mk := true) (x := 1) E (fun _ => c11_addReviewer_x hfl hI h) (Or.inl rfl) gL_160 hX11_addReviewer ⟨rfl, rfl⟩ ⟨Nat.le_of_ble_eq_true rfl, Nat.le_of_ble_eq_true rfl⟩ ⟨Nat.le_of_ble_eq_true rfl, Nat.le_of_ble_eq_true rfl⟩ rfl (lv := [some (.ref (ad 0)), some (.int p1), some (.int p2), some (.ref o), none]) hl rfl (As := [.int p1, .int p2]) (rest := [.int 0, .ref o]) rfl (Nat.le_of_ble_eq_true rfl) dL_addReviewer_5 [] ⟨0, 17, 20, 13⟩ [⟨0, 17, 24, 25⟩] rfl (fun z hz => nomatch hz) rfl (by decide) (rv_al (rv_t2 (List.mem_of_getElem? (i := 87) rfl)) rfl) E.2.1.2.2.2.2.1.2.2.2.1 (fun q9 H1 locs1 hG ho hS => ?_)
  refine lv_astore E.1.1 E.1.2.1 dL_addReviewer_20 (rv_has_k hl) (Nat.le_of_ble_eq_true rfl) rfl (fun ls' hl' => ?_)
  exact rL_endx E hG ho hS (by decide) dL_addReviewer_22 dL_addReviewer_23
theorem wL_addReviewer_x3 {l : Launch} {D : va_G} {cI cZ cO cJ : ClassId} {ad : Nat → Nat} {gh : rC_gh} {mi de o sz : Nat} {w : Int64} (hfl : l.stackTraces = false) (hI : rC_I ad gh) {M : rv_Mem} {p1 : Int32} {p2 : Int32} {M1 : rv_Mem} (h : f11_addReviewer gh M p1 p2 = some (.inr (3, M1))) : Met l yL_addReviewer wsL_addReviewer rmL_addReviewer (va_Pc [.ref (ad 0), .int p1, .int p2, .ref o] (rL_P D cI cZ cO cJ ad gh mi de o sz M w)) (rL_qx D cI cZ cO cJ ad gh de o sz 2 M1 w) 3 18 (rL_A ad gh sz o) := by
  refine rL_met rfl (Nat.le_of_ble_eq_true rfl) (fun p e s m args below meth c ls S htab hret hlk hP hl => ?_)
  have hsz := hP.2.1
  subst hsz
  have E : rL_E D cI cZ cO cJ ad gh mi de o M w cL_addReviewer 5 [(0, 17, 20, 13), (0, 17, 24, 25)] p l s m args meth c := ⟨S, hP, hI, hfl, htab, hret, hlk⟩
  change rv_has ls [some (.ref (ad 0)), some (.int p1), some (.int p2), some (.ref o), none] at hl
  refine lv_aload_n E.1.1 E.1.2.1 dL_addReviewer_0 rfl (hl.2.2 3 _ rfl) ?_
  refine lv_iconst (v := 0) E.1.1 E.1.2.1 dL_addReviewer_1 (by decide) ?_
  refine lv_aload_n E.1.1 E.1.2.1 dL_addReviewer_2 rfl (hl.2.2 0 _ rfl) ?_
  refine lv_iload_n E.1.1 E.1.2.1 dL_addReviewer_3 rfl (hl.2.2 1 _ rfl) ?_
  refine lv_iload_n E.1.1 E.1.2.1 dL_addReviewer_4 rfl (hl.2.2 2 _ rfl) ?_
  refine rL_ex (mk := true) (x := 3) E (fun _ => c11_addReviewer_x hfl hI h) (Or.inl rfl) gL_160 hX11_addReviewer ⟨rfl, rfl⟩ ⟨Nat.le_of_ble_eq_true rfl, Nat.le_of_ble_eq_true rfl⟩ ⟨Nat.le_of_ble_eq_true rfl, Nat.le_of_ble_eq_true rfl⟩ rfl (lv := [some (.ref (ad 0)), some (.int p1), some (.int p2), some (.ref o), none]) hl rfl (As := [.int p1, .int p2]) (rest := [.int 0, .ref o]) rfl (Nat.le_of_ble_eq_true rfl) dL_addReviewer_5 [⟨0, 17, 20, 13⟩] ⟨0, 17, 24, 25⟩ [] rfl (fun z hz => by cases List.mem_singleton.mp hz; exact ⟨by decide, _, rv_al (rv_t2 (List.mem_of_getElem? (i := 87) rfl)) rfl, E.2.1.2.2.2.2.2.2.2.2.1.2.1⟩) rfl (by decide) (rv_al (rv_t3 (List.mem_of_getElem? (i := 1) rfl)) rfl) E.2.1.2.2.2.2.1.2.2.2.2.2.1 (fun q9 H1 locs1 hG ho hS => ?_)
  refine lv_astore E.1.1 E.1.2.1 dL_addReviewer_24 (rv_has_k hl) (Nat.le_of_ble_eq_true rfl) rfl (fun ls' hl' => ?_)
  exact rL_endx E hG ho hS (by decide) dL_addReviewer_26 dL_addReviewer_27
theorem gL_164 : GoodIn rv_AL (wsV RL 164 RX11 yX11_reviewers (rv_ws yX11_reviewers cX11_reviewers 2 (some .int))) := rv_gV (rv_al (rv_t7 (List.mem_of_getElem? (i := 42) rfl)) rfl) (rv_al (rv_t7 (List.mem_of_getElem? (i := 43) rfl)) rfl) (rv_al (rv_t7 (List.mem_of_getElem? (i := 44) rfl)) rfl) (rv_al (rv_t1 (List.mem_of_getElem? (i := 1) rfl)) rfl) (rv_al (rv_t7 (List.mem_of_getElem? (i := 45) rfl)) rfl)
abbrev rmL_reviewers : Room := { frames := 8, cells := 1, slots := 6, locals := 143 }
abbrev wsL_reviewers : List Cond := Cond.codeWith yL_reviewers cL_reviewers 4 (some .int) [(0, 9, 12, 13)] :: rv_AL
theorem wL_reviewers {l : Launch} {D : va_G} {cI cZ cO cJ : ClassId} {ad : Nat → Nat} {gh : rC_gh} {mi de o sz : Nat} {w : Int64} (hfl : l.stackTraces = false) (hI : rC_I ad gh) {M : rv_Mem} {p1 : Int32} {r : Int32} (h : f11_reviewers gh M p1 = some (.inl r)) : Met l yL_reviewers wsL_reviewers rmL_reviewers (va_Pc [.ref (ad 0), .int p1, .ref o] (rL_P D cI cZ cO cJ ad gh mi de o sz M w)) (rL_qo D cI cZ cO cJ ad gh de o sz gh M r.toInt64) 1 6 (rL_A ad gh sz o) := by
  refine rL_met rfl (Nat.le_of_ble_eq_true rfl) (fun p e s m args below meth c ls S htab hret hlk hP hl => ?_)
  have hsz := hP.2.1
  subst hsz
  have E : rL_E D cI cZ cO cJ ad gh mi de o M w cL_reviewers 4 [(0, 9, 12, 13)] p l s m args meth c := ⟨S, hP, hI, hfl, htab, hret, hlk⟩
  change rv_has ls [some (.ref (ad 0)), some (.int p1), some (.ref o), none] at hl
  refine lv_aload_n E.1.1 E.1.2.1 dL_reviewers_0 rfl (hl.2.2 2 _ rfl) ?_
  refine lv_iconst (v := 0) E.1.1 E.1.2.1 dL_reviewers_1 (by decide) ?_
  refine lv_aload_n E.1.1 E.1.2.1 dL_reviewers_2 rfl (hl.2.2 0 _ rfl) ?_
  refine lv_iload_n E.1.1 E.1.2.1 dL_reviewers_3 rfl (hl.2.2 1 _ rfl) ?_
  refine rL_ok (v := r) E (fun _ => c11_reviewers hfl hI h) gL_164 hX11_reviewers ⟨rfl, rfl⟩ ⟨Nat.le_of_ble_eq_true rfl, Nat.le_of_ble_eq_true rfl⟩ ⟨Nat.le_of_ble_eq_true rfl, Nat.le_of_ble_eq_true rfl⟩ rfl (lv := [some (.ref (ad 0)), some (.int p1), some (.ref o), none]) hl rfl (As := [.int p1]) (rest := [.int 0, .ref o]) rfl (Nat.le_of_ble_eq_true rfl) dL_reviewers_4 (fun u H1 locs1 h0 hI' hs hG ho hS => ?_)
  refine lv_i2l E.1.1 E.1.2.1 dL_reviewers_7 rfl ?_
  exact rL_end E h0 hI' hs hG ho hS dL_reviewers_8 dL_reviewers_9 (pc2 := 15) (by decide) dL_reviewers_15 dL_reviewers_16
theorem wL_reviewers_x1 {l : Launch} {D : va_G} {cI cZ cO cJ : ClassId} {ad : Nat → Nat} {gh : rC_gh} {mi de o sz : Nat} {w : Int64} (hfl : l.stackTraces = false) (hI : rC_I ad gh) {M : rv_Mem} {p1 : Int32} (h : f11_reviewers gh M p1 = some (.inr 1)) : Met l yL_reviewers wsL_reviewers rmL_reviewers (va_Pc [.ref (ad 0), .int p1, .ref o] (rL_P D cI cZ cO cJ ad gh mi de o sz M w)) (rL_qx D cI cZ cO cJ ad gh de o sz 1 M w) 1 6 (rL_A ad gh sz o) := by
  refine rL_met rfl (Nat.le_of_ble_eq_true rfl) (fun p e s m args below meth c ls S htab hret hlk hP hl => ?_)
  have hsz := hP.2.1
  subst hsz
  have E : rL_E D cI cZ cO cJ ad gh mi de o M w cL_reviewers 4 [(0, 9, 12, 13)] p l s m args meth c := ⟨S, hP, hI, hfl, htab, hret, hlk⟩
  change rv_has ls [some (.ref (ad 0)), some (.int p1), some (.ref o), none] at hl
  refine lv_aload_n E.1.1 E.1.2.1 dL_reviewers_0 rfl (hl.2.2 2 _ rfl) ?_
  refine lv_iconst (v := 0) E.1.1 E.1.2.1 dL_reviewers_1 (by decide) ?_
  refine lv_aload_n E.1.1 E.1.2.1 dL_reviewers_2 rfl (hl.2.2 0 _ rfl) ?_
  refine lv_iload_n E.1.1 E.1.2.1 dL_reviewers_3 rfl (hl.2.2 1 _ rfl) ?_
  refine rL_ex (mk := true) (x := 1) E (fun _ => c11_reviewers_x hfl hI h) (Or.inl rfl) gL_164 hX11_reviewers ⟨rfl, rfl⟩ ⟨Nat.le_of_ble_eq_true rfl, Nat.le_of_ble_eq_true rfl⟩ ⟨Nat.le_of_ble_eq_true rfl, Nat.le_of_ble_eq_true rfl⟩ rfl (lv := [some (.ref (ad 0)), some (.int p1), some (.ref o), none]) hl rfl (As := [.int p1]) (rest := [.int 0, .ref o]) rfl (Nat.le_of_ble_eq_true rfl) dL_reviewers_4 [] ⟨0, 9, 12, 13⟩ [] rfl (fun z hz => nomatch hz) rfl (by decide) (rv_al (rv_t2 (List.mem_of_getElem? (i := 87) rfl)) rfl) E.2.1.2.2.2.2.1.2.2.2.1 (fun q9 H1 locs1 hG ho hS => ?_)
  refine lv_astore_n E.1.1 E.1.2.1 dL_reviewers_12 rfl (rv_has_k hl) (Nat.le_of_ble_eq_true rfl) rfl (fun ls' hl' => ?_)
  exact rL_endx E hG ho hS (by decide) dL_reviewers_13 dL_reviewers_14
theorem gL_167 : GoodIn rv_AL (wsV RL 167 RX11 yX11_whoseTurn (rv_ws yX11_whoseTurn cX11_whoseTurn 2 (some .int))) := rv_gV (rv_al (rv_t7 (List.mem_of_getElem? (i := 49) rfl)) rfl) (rv_al (rv_t7 (List.mem_of_getElem? (i := 50) rfl)) rfl) (rv_al (rv_t7 (List.mem_of_getElem? (i := 51) rfl)) rfl) (rv_al (rv_t1 (List.mem_of_getElem? (i := 1) rfl)) rfl) (rv_al (rv_t7 (List.mem_of_getElem? (i := 52) rfl)) rfl)
abbrev rmL_whoseTurn : Room := { frames := 8, cells := 1, slots := 6, locals := 143 }
abbrev wsL_whoseTurn : List Cond := Cond.codeWith yL_whoseTurn cL_whoseTurn 4 (some .int) [(0, 9, 12, 13)] :: rv_AL
theorem wL_whoseTurn {l : Launch} {D : va_G} {cI cZ cO cJ : ClassId} {ad : Nat → Nat} {gh : rC_gh} {mi de o sz : Nat} {w : Int64} (hfl : l.stackTraces = false) (hI : rC_I ad gh) {M : rv_Mem} {p1 : Int32} {r : Int32} (h : f11_whoseTurn gh M p1 = some (.inl r)) : Met l yL_whoseTurn wsL_whoseTurn rmL_whoseTurn (va_Pc [.ref (ad 0), .int p1, .ref o] (rL_P D cI cZ cO cJ ad gh mi de o sz M w)) (rL_qo D cI cZ cO cJ ad gh de o sz gh M r.toInt64) 1 6 (rL_A ad gh sz o) := by
  refine rL_met rfl (Nat.le_of_ble_eq_true rfl) (fun p e s m args below meth c ls S htab hret hlk hP hl => ?_)
  have hsz := hP.2.1
  subst hsz
  have E : rL_E D cI cZ cO cJ ad gh mi de o M w cL_whoseTurn 4 [(0, 9, 12, 13)] p l s m args meth c := ⟨S, hP, hI, hfl, htab, hret, hlk⟩
  change rv_has ls [some (.ref (ad 0)), some (.int p1), some (.ref o), none] at hl
  refine lv_aload_n E.1.1 E.1.2.1 dL_whoseTurn_0 rfl (hl.2.2 2 _ rfl) ?_
  refine lv_iconst (v := 0) E.1.1 E.1.2.1 dL_whoseTurn_1 (by decide) ?_
  refine lv_aload_n E.1.1 E.1.2.1 dL_whoseTurn_2 rfl (hl.2.2 0 _ rfl) ?_
  refine lv_iload_n E.1.1 E.1.2.1 dL_whoseTurn_3 rfl (hl.2.2 1 _ rfl) ?_
  refine rL_ok (v := r) E (fun _ => c11_whoseTurn hfl hI h) gL_167 hX11_whoseTurn ⟨rfl, rfl⟩ ⟨Nat.le_of_ble_eq_true rfl, Nat.le_of_ble_eq_true rfl⟩ ⟨Nat.le_of_ble_eq_true rfl, Nat.le_of_ble_eq_true rfl⟩ rfl (lv := [some (.ref (ad 0)), some (.int p1), some (.ref o), none]) hl rfl (As := [.int p1]) (rest := [.int 0, .ref o]) rfl (Nat.le_of_ble_eq_true rfl) dL_whoseTurn_4 (fun u H1 locs1 h0 hI' hs hG ho hS => ?_)
  refine lv_i2l E.1.1 E.1.2.1 dL_whoseTurn_7 rfl ?_
  exact rL_end E h0 hI' hs hG ho hS dL_whoseTurn_8 dL_whoseTurn_9 (pc2 := 15) (by decide) dL_whoseTurn_15 dL_whoseTurn_16
theorem wL_whoseTurn_x1 {l : Launch} {D : va_G} {cI cZ cO cJ : ClassId} {ad : Nat → Nat} {gh : rC_gh} {mi de o sz : Nat} {w : Int64} (hfl : l.stackTraces = false) (hI : rC_I ad gh) {M : rv_Mem} {p1 : Int32} (h : f11_whoseTurn gh M p1 = some (.inr 1)) : Met l yL_whoseTurn wsL_whoseTurn rmL_whoseTurn (va_Pc [.ref (ad 0), .int p1, .ref o] (rL_P D cI cZ cO cJ ad gh mi de o sz M w)) (rL_qx D cI cZ cO cJ ad gh de o sz 1 M w) 1 6 (rL_A ad gh sz o) := by
  refine rL_met rfl (Nat.le_of_ble_eq_true rfl) (fun p e s m args below meth c ls S htab hret hlk hP hl => ?_)
  have hsz := hP.2.1
  subst hsz
  have E : rL_E D cI cZ cO cJ ad gh mi de o M w cL_whoseTurn 4 [(0, 9, 12, 13)] p l s m args meth c := ⟨S, hP, hI, hfl, htab, hret, hlk⟩
  change rv_has ls [some (.ref (ad 0)), some (.int p1), some (.ref o), none] at hl
  refine lv_aload_n E.1.1 E.1.2.1 dL_whoseTurn_0 rfl (hl.2.2 2 _ rfl) ?_
  refine lv_iconst (v := 0) E.1.1 E.1.2.1 dL_whoseTurn_1 (by decide) ?_
  refine lv_aload_n E.1.1 E.1.2.1 dL_whoseTurn_2 rfl (hl.2.2 0 _ rfl) ?_
  refine lv_iload_n E.1.1 E.1.2.1 dL_whoseTurn_3 rfl (hl.2.2 1 _ rfl) ?_
  refine rL_ex (mk := true) (x := 1) E (fun _ => c11_whoseTurn_x hfl hI h) (Or.inl rfl) gL_167 hX11_whoseTurn ⟨rfl, rfl⟩ ⟨Nat.le_of_ble_eq_true rfl, Nat.le_of_ble_eq_true rfl⟩ ⟨Nat.le_of_ble_eq_true rfl, Nat.le_of_ble_eq_true rfl⟩ rfl (lv := [some (.ref (ad 0)), some (.int p1), some (.ref o), none]) hl rfl (As := [.int p1]) (rest := [.int 0, .ref o]) rfl (Nat.le_of_ble_eq_true rfl) dL_whoseTurn_4 [] ⟨0, 9, 12, 13⟩ [] rfl (fun z hz => nomatch hz) rfl (by decide) (rv_al (rv_t2 (List.mem_of_getElem? (i := 87) rfl)) rfl) E.2.1.2.2.2.2.1.2.2.2.1 (fun q9 H1 locs1 hG ho hS => ?_)
  refine lv_astore_n E.1.1 E.1.2.1 dL_whoseTurn_12 rfl (rv_has_k hl) (Nat.le_of_ble_eq_true rfl) rfl (fun ls' hl' => ?_)
  exact rL_endx E hG ho hS (by decide) dL_whoseTurn_13 dL_whoseTurn_14
theorem gL_170 : GoodIn rv_AL (wsV RL 170 RX11 yX11_watch (rv_ws yX11_watch cX11_watch 5 (some .boolean))) := rv_gV (rv_al (rv_t7 (List.mem_of_getElem? (i := 56) rfl)) rfl) (rv_al (rv_t7 (List.mem_of_getElem? (i := 57) rfl)) rfl) (rv_al (rv_t7 (List.mem_of_getElem? (i := 58) rfl)) rfl) (rv_al (rv_t1 (List.mem_of_getElem? (i := 1) rfl)) rfl) (rv_al (rv_t7 (List.mem_of_getElem? (i := 59) rfl)) rfl)
abbrev rmL_watch : Room := { frames := 8, cells := 2, slots := 12, locals := 144 }
abbrev wsL_watch : List Cond := Cond.codeWith yL_watch cL_watch 6 (some .int) [(0, 19, 22, 13)] :: rv_AL
theorem wL_watch {l : Launch} {D : va_G} {cI cZ cO cJ : ClassId} {ad : Nat → Nat} {gh : rC_gh} {mi de o sz : Nat} {w : Int64} (hfl : l.stackTraces = false) (hI : rC_I ad gh) {M : rv_Mem} {p1 : Int32} {p2 : Int32} {p3 : Bool} {r : Bool} {M1 : rv_Mem} (h : f11_watch gh M p1 p2 p3 = some (.inl (r, M1))) : Met l yL_watch wsL_watch rmL_watch (va_Pc [.ref (ad 0), .int p1, .int p2, .int (rv_i p3), .ref o] (rL_P D cI cZ cO cJ ad gh mi de o sz M w)) (rL_qo D cI cZ cO cJ ad gh de o sz gh M1 (if r = true then 1 else 0)) 2 12 (rL_A ad gh sz o) := by
  refine rL_met rfl (Nat.le_of_ble_eq_true rfl) (fun p e s m args below meth c ls S htab hret hlk hP hl => ?_)
  have hsz := hP.2.1
  subst hsz
  have E : rL_E D cI cZ cO cJ ad gh mi de o M w cL_watch 6 [(0, 19, 22, 13)] p l s m args meth c := ⟨S, hP, hI, hfl, htab, hret, hlk⟩
  change rv_has ls [some (.ref (ad 0)), some (.int p1), some (.int p2), some (.int (rv_i p3)), some (.ref o), none] at hl
  refine lv_aload E.1.1 E.1.2.1 dL_watch_0 (hl.2.2 4 _ rfl) ?_
  refine lv_iconst (v := 0) E.1.1 E.1.2.1 dL_watch_2 (by decide) ?_
  refine lv_aload_n E.1.1 E.1.2.1 dL_watch_3 rfl (hl.2.2 0 _ rfl) ?_
  refine lv_iload_n E.1.1 E.1.2.1 dL_watch_4 rfl (hl.2.2 1 _ rfl) ?_
  refine lv_iload_n E.1.1 E.1.2.1 dL_watch_5 rfl (hl.2.2 2 _ rfl) ?_
  refine lv_iload_n E.1.1 E.1.2.1 dL_watch_6 rfl (hl.2.2 3 _ rfl) ?_
  refine rL_ok (v := rv_i r) E (fun _ => c11_watch hfl hI h) gL_170 hX11_watch ⟨rfl, rfl⟩ ⟨Nat.le_of_ble_eq_true rfl, Nat.le_of_ble_eq_true rfl⟩ ⟨Nat.le_of_ble_eq_true rfl, Nat.le_of_ble_eq_true rfl⟩ rfl (lv := [some (.ref (ad 0)), some (.int p1), some (.int p2), some (.int (rv_i p3)), some (.ref o), none]) hl rfl (As := [.int p1, .int p2, .int (rv_i p3)]) (rest := [.int 0, .ref o]) rfl (Nat.le_of_ble_eq_true rfl) dL_watch_7 (fun u H1 locs1 h0 hI' hs hG ho hS => ?_)
  cases r with
  | true =>
    refine lv_if_eq (tgt := 17) E.1.1 E.1.2.1 dL_watch_10 (by decide) (fun z => absurd z (by decide)) (fun _ => ?_)
    refine lv_lconst (v := 1) E.1.1 E.1.2.1 dL_watch_13 (by decide) ?_
    refine lv_goto (tgt := 18) E.1.1 E.1.2.1 dL_watch_14 (by decide) ?_
    exact rL_end E h0 hI' hs hG ho hS dL_watch_18 dL_watch_19 (pc2 := 26) (by decide) dL_watch_26 dL_watch_27
  | false =>
    refine lv_if_eq (tgt := 17) E.1.1 E.1.2.1 dL_watch_10 (by decide) (fun _ => ?_) (fun z => absurd rfl z)
    refine lv_lconst (v := 0) E.1.1 E.1.2.1 dL_watch_17 (by decide) ?_
    exact rL_end E h0 hI' hs hG ho hS dL_watch_18 dL_watch_19 (pc2 := 26) (by decide) dL_watch_26 dL_watch_27
theorem wL_watch_x1 {l : Launch} {D : va_G} {cI cZ cO cJ : ClassId} {ad : Nat → Nat} {gh : rC_gh} {mi de o sz : Nat} {w : Int64} (hfl : l.stackTraces = false) (hI : rC_I ad gh) {M : rv_Mem} {p1 : Int32} {p2 : Int32} {p3 : Bool} {M1 : rv_Mem} (h : f11_watch gh M p1 p2 p3 = some (.inr (1, M1))) : Met l yL_watch wsL_watch rmL_watch (va_Pc [.ref (ad 0), .int p1, .int p2, .int (rv_i p3), .ref o] (rL_P D cI cZ cO cJ ad gh mi de o sz M w)) (rL_qx D cI cZ cO cJ ad gh de o sz 1 M1 w) 2 12 (rL_A ad gh sz o) := by
  refine rL_met rfl (Nat.le_of_ble_eq_true rfl) (fun p e s m args below meth c ls S htab hret hlk hP hl => ?_)
  have hsz := hP.2.1
  subst hsz
  have E : rL_E D cI cZ cO cJ ad gh mi de o M w cL_watch 6 [(0, 19, 22, 13)] p l s m args meth c := ⟨S, hP, hI, hfl, htab, hret, hlk⟩
  change rv_has ls [some (.ref (ad 0)), some (.int p1), some (.int p2), some (.int (rv_i p3)), some (.ref o), none] at hl
  refine lv_aload E.1.1 E.1.2.1 dL_watch_0 (hl.2.2 4 _ rfl) ?_
  refine lv_iconst (v := 0) E.1.1 E.1.2.1 dL_watch_2 (by decide) ?_
  refine lv_aload_n E.1.1 E.1.2.1 dL_watch_3 rfl (hl.2.2 0 _ rfl) ?_
  refine lv_iload_n E.1.1 E.1.2.1 dL_watch_4 rfl (hl.2.2 1 _ rfl) ?_
  refine lv_iload_n E.1.1 E.1.2.1 dL_watch_5 rfl (hl.2.2 2 _ rfl) ?_
  refine lv_iload_n E.1.1 E.1.2.1 dL_watch_6 rfl (hl.2.2 3 _ rfl) ?_
  refine rL_ex (mk := true) (x := 1) E (fun _ => c11_watch_x hfl hI h) (Or.inl rfl) gL_170 hX11_watch ⟨rfl, rfl⟩ ⟨Nat.le_of_ble_eq_true rfl, Nat.le_of_ble_eq_true rfl⟩ ⟨Nat.le_of_ble_eq_true rfl, Nat.le_of_ble_eq_true rfl⟩ rfl (lv := [some (.ref (ad 0)), some (.int p1), some (.int p2), some (.int (rv_i p3)), some (.ref o), none]) hl rfl (As := [.int p1, .int p2, .int (rv_i p3)]) (rest := [.int 0, .ref o]) rfl (Nat.le_of_ble_eq_true rfl) dL_watch_7 [] ⟨0, 19, 22, 13⟩ [] rfl (fun z hz => nomatch hz) rfl (by decide) (rv_al (rv_t2 (List.mem_of_getElem? (i := 87) rfl)) rfl) E.2.1.2.2.2.2.1.2.2.2.1 (fun q9 H1 locs1 hG ho hS => ?_)
  refine lv_astore E.1.1 E.1.2.1 dL_watch_22 (rv_has_k hl) (Nat.le_of_ble_eq_true rfl) rfl (fun ls' hl' => ?_)
  exact rL_endx E hG ho hS (by decide) dL_watch_24 dL_watch_25
theorem gL_173 : GoodIn rv_AL (wsV RL 173 RX11 yX11_mails (rv_ws yX11_mails cX11_mails 2 (some .int))) := rv_gV (rv_al (rv_t7 (List.mem_of_getElem? (i := 63) rfl)) rfl) (rv_al (rv_t7 (List.mem_of_getElem? (i := 64) rfl)) rfl) (rv_al (rv_t7 (List.mem_of_getElem? (i := 65) rfl)) rfl) (rv_al (rv_t1 (List.mem_of_getElem? (i := 1) rfl)) rfl) (rv_al (rv_t7 (List.mem_of_getElem? (i := 66) rfl)) rfl)
abbrev rmL_mails : Room := { frames := 8, cells := 1, slots := 6, locals := 141 }
abbrev wsL_mails : List Cond := Cond.codeWith yL_mails cL_mails 4 (some .int) [(0, 9, 12, 13)] :: rv_AL
theorem wL_mails {l : Launch} {D : va_G} {cI cZ cO cJ : ClassId} {ad : Nat → Nat} {gh : rC_gh} {mi de o sz : Nat} {w : Int64} (hfl : l.stackTraces = false) (hI : rC_I ad gh) {M : rv_Mem} {p1 : Int32} {r : Int32} (h : f11_mails gh M p1 = some (.inl r)) : Met l yL_mails wsL_mails rmL_mails (va_Pc [.ref (ad 0), .int p1, .ref o] (rL_P D cI cZ cO cJ ad gh mi de o sz M w)) (rL_qo D cI cZ cO cJ ad gh de o sz gh M r.toInt64) 1 6 (rL_A ad gh sz o) := by
  refine rL_met rfl (Nat.le_of_ble_eq_true rfl) (fun p e s m args below meth c ls S htab hret hlk hP hl => ?_)
  have hsz := hP.2.1
  subst hsz
  have E : rL_E D cI cZ cO cJ ad gh mi de o M w cL_mails 4 [(0, 9, 12, 13)] p l s m args meth c := ⟨S, hP, hI, hfl, htab, hret, hlk⟩
  change rv_has ls [some (.ref (ad 0)), some (.int p1), some (.ref o), none] at hl
  refine lv_aload_n E.1.1 E.1.2.1 dL_mails_0 rfl (hl.2.2 2 _ rfl) ?_
  refine lv_iconst (v := 0) E.1.1 E.1.2.1 dL_mails_1 (by decide) ?_
  refine lv_aload_n E.1.1 E.1.2.1 dL_mails_2 rfl (hl.2.2 0 _ rfl) ?_
  refine lv_iload_n E.1.1 E.1.2.1 dL_mails_3 rfl (hl.2.2 1 _ rfl) ?_
  refine rL_ok (v := r) E (fun _ => c11_mails hfl hI h) gL_173 hX11_mails ⟨rfl, rfl⟩ ⟨Nat.le_of_ble_eq_true rfl, Nat.le_of_ble_eq_true rfl⟩ ⟨Nat.le_of_ble_eq_true rfl, Nat.le_of_ble_eq_true rfl⟩ rfl (lv := [some (.ref (ad 0)), some (.int p1), some (.ref o), none]) hl rfl (As := [.int p1]) (rest := [.int 0, .ref o]) rfl (Nat.le_of_ble_eq_true rfl) dL_mails_4 (fun u H1 locs1 h0 hI' hs hG ho hS => ?_)
  refine lv_i2l E.1.1 E.1.2.1 dL_mails_7 rfl ?_
  exact rL_end E h0 hI' hs hG ho hS dL_mails_8 dL_mails_9 (pc2 := 15) (by decide) dL_mails_15 dL_mails_16
theorem wL_mails_x1 {l : Launch} {D : va_G} {cI cZ cO cJ : ClassId} {ad : Nat → Nat} {gh : rC_gh} {mi de o sz : Nat} {w : Int64} (hfl : l.stackTraces = false) (hI : rC_I ad gh) {M : rv_Mem} {p1 : Int32} (h : f11_mails gh M p1 = some (.inr 1)) : Met l yL_mails wsL_mails rmL_mails (va_Pc [.ref (ad 0), .int p1, .ref o] (rL_P D cI cZ cO cJ ad gh mi de o sz M w)) (rL_qx D cI cZ cO cJ ad gh de o sz 1 M w) 1 6 (rL_A ad gh sz o) := by
  refine rL_met rfl (Nat.le_of_ble_eq_true rfl) (fun p e s m args below meth c ls S htab hret hlk hP hl => ?_)
  have hsz := hP.2.1
  subst hsz
  have E : rL_E D cI cZ cO cJ ad gh mi de o M w cL_mails 4 [(0, 9, 12, 13)] p l s m args meth c := ⟨S, hP, hI, hfl, htab, hret, hlk⟩
  change rv_has ls [some (.ref (ad 0)), some (.int p1), some (.ref o), none] at hl
  refine lv_aload_n E.1.1 E.1.2.1 dL_mails_0 rfl (hl.2.2 2 _ rfl) ?_
  refine lv_iconst (v := 0) E.1.1 E.1.2.1 dL_mails_1 (by decide) ?_
  refine lv_aload_n E.1.1 E.1.2.1 dL_mails_2 rfl (hl.2.2 0 _ rfl) ?_
  refine lv_iload_n E.1.1 E.1.2.1 dL_mails_3 rfl (hl.2.2 1 _ rfl) ?_
  refine rL_ex (mk := true) (x := 1) E (fun _ => c11_mails_x hfl hI h) (Or.inl rfl) gL_173 hX11_mails ⟨rfl, rfl⟩ ⟨Nat.le_of_ble_eq_true rfl, Nat.le_of_ble_eq_true rfl⟩ ⟨Nat.le_of_ble_eq_true rfl, Nat.le_of_ble_eq_true rfl⟩ rfl (lv := [some (.ref (ad 0)), some (.int p1), some (.ref o), none]) hl rfl (As := [.int p1]) (rest := [.int 0, .ref o]) rfl (Nat.le_of_ble_eq_true rfl) dL_mails_4 [] ⟨0, 9, 12, 13⟩ [] rfl (fun z hz => nomatch hz) rfl (by decide) (rv_al (rv_t2 (List.mem_of_getElem? (i := 87) rfl)) rfl) E.2.1.2.2.2.2.1.2.2.2.1 (fun q9 H1 locs1 hG ho hS => ?_)
  refine lv_astore_n E.1.1 E.1.2.1 dL_mails_12 rfl (rv_has_k hl) (Nat.le_of_ble_eq_true rfl) rfl (fun ls' hl' => ?_)
  exact rL_endx E hG ho hS (by decide) dL_mails_13 dL_mails_14
theorem gL_176 : GoodIn rv_AL (wsV RL 176 RX11 yX11_advance (rv_ws yX11_advance cX11_advance 5 (some .int))) := rv_gV (rv_al (rv_t7 (List.mem_of_getElem? (i := 70) rfl)) rfl) (rv_al (rv_t7 (List.mem_of_getElem? (i := 71) rfl)) rfl) (rv_al (rv_t7 (List.mem_of_getElem? (i := 72) rfl)) rfl) (rv_al (rv_t1 (List.mem_of_getElem? (i := 1) rfl)) rfl) (rv_al (rv_t7 (List.mem_of_getElem? (i := 73) rfl)) rfl)
abbrev rmL_advance : Room := { frames := 7, cells := 1, slots := 6, locals := 125 }
abbrev wsL_advance : List Cond := Cond.codeWith yL_advance cL_advance 4 (some .int) [(0, 9, 12, 23), (0, 9, 15, 25)] :: rv_AL
theorem wL_advance {l : Launch} {D : va_G} {cI cZ cO cJ : ClassId} {ad : Nat → Nat} {gh : rC_gh} {mi de o sz : Nat} {w : Int64} (hfl : l.stackTraces = false) (hI : rC_I ad gh) {M : rv_Mem} {p1 : Int32} {r : Int32} {M1 : rv_Mem} (h : f11_advance gh M p1 = some (.inl (r, M1))) : Met l yL_advance wsL_advance rmL_advance (va_Pc [.ref (ad 0), .int p1, .ref o] (rL_P D cI cZ cO cJ ad gh mi de o sz M w)) (rL_qo D cI cZ cO cJ ad gh de o sz gh M1 r.toInt64) 1 6 (rL_A ad gh sz o) := by
  refine rL_met rfl (Nat.le_of_ble_eq_true rfl) (fun p e s m args below meth c ls S htab hret hlk hP hl => ?_)
  have hsz := hP.2.1
  subst hsz
  have E : rL_E D cI cZ cO cJ ad gh mi de o M w cL_advance 4 [(0, 9, 12, 23), (0, 9, 15, 25)] p l s m args meth c := ⟨S, hP, hI, hfl, htab, hret, hlk⟩
  change rv_has ls [some (.ref (ad 0)), some (.int p1), some (.ref o), none] at hl
  refine lv_aload_n E.1.1 E.1.2.1 dL_advance_0 rfl (hl.2.2 2 _ rfl) ?_
  refine lv_iconst (v := 0) E.1.1 E.1.2.1 dL_advance_1 (by decide) ?_
  refine lv_aload_n E.1.1 E.1.2.1 dL_advance_2 rfl (hl.2.2 0 _ rfl) ?_
  refine lv_iload_n E.1.1 E.1.2.1 dL_advance_3 rfl (hl.2.2 1 _ rfl) ?_
  refine rL_ok (v := r) E (fun _ => c11_advance hfl hI h) gL_176 hX11_advance ⟨rfl, rfl⟩ ⟨Nat.le_of_ble_eq_true rfl, Nat.le_of_ble_eq_true rfl⟩ ⟨Nat.le_of_ble_eq_true rfl, Nat.le_of_ble_eq_true rfl⟩ rfl (lv := [some (.ref (ad 0)), some (.int p1), some (.ref o), none]) hl rfl (As := [.int p1]) (rest := [.int 0, .ref o]) rfl (Nat.le_of_ble_eq_true rfl) dL_advance_4 (fun u H1 locs1 h0 hI' hs hG ho hS => ?_)
  refine lv_i2l E.1.1 E.1.2.1 dL_advance_7 rfl ?_
  exact rL_end E h0 hI' hs hG ho hS dL_advance_8 dL_advance_9 (pc2 := 18) (by decide) dL_advance_18 dL_advance_19
theorem wL_advance_x2 {l : Launch} {D : va_G} {cI cZ cO cJ : ClassId} {ad : Nat → Nat} {gh : rC_gh} {mi de o sz : Nat} {w : Int64} (hfl : l.stackTraces = false) (hI : rC_I ad gh) {M : rv_Mem} {p1 : Int32} {M1 : rv_Mem} (h : f11_advance gh M p1 = some (.inr (2, M1))) : Met l yL_advance wsL_advance rmL_advance (va_Pc [.ref (ad 0), .int p1, .ref o] (rL_P D cI cZ cO cJ ad gh mi de o sz M w)) (rL_qx D cI cZ cO cJ ad gh de o sz 1 M1 w) 1 6 (rL_A ad gh sz o) := by
  refine rL_met rfl (Nat.le_of_ble_eq_true rfl) (fun p e s m args below meth c ls S htab hret hlk hP hl => ?_)
  have hsz := hP.2.1
  subst hsz
  have E : rL_E D cI cZ cO cJ ad gh mi de o M w cL_advance 4 [(0, 9, 12, 23), (0, 9, 15, 25)] p l s m args meth c := ⟨S, hP, hI, hfl, htab, hret, hlk⟩
  change rv_has ls [some (.ref (ad 0)), some (.int p1), some (.ref o), none] at hl
  refine lv_aload_n E.1.1 E.1.2.1 dL_advance_0 rfl (hl.2.2 2 _ rfl) ?_
  refine lv_iconst (v := 0) E.1.1 E.1.2.1 dL_advance_1 (by decide) ?_
  refine lv_aload_n E.1.1 E.1.2.1 dL_advance_2 rfl (hl.2.2 0 _ rfl) ?_
  refine lv_iload_n E.1.1 E.1.2.1 dL_advance_3 rfl (hl.2.2 1 _ rfl) ?_
  refine rL_ex (mk := true) (x := 2) E (fun _ => c11_advance_x hfl hI h) (Or.inl rfl) gL_176 hX11_advance ⟨rfl, rfl⟩ ⟨Nat.le_of_ble_eq_true rfl, Nat.le_of_ble_eq_true rfl⟩ ⟨Nat.le_of_ble_eq_true rfl, Nat.le_of_ble_eq_true rfl⟩ rfl (lv := [some (.ref (ad 0)), some (.int p1), some (.ref o), none]) hl rfl (As := [.int p1]) (rest := [.int 0, .ref o]) rfl (Nat.le_of_ble_eq_true rfl) dL_advance_4 [] ⟨0, 9, 12, 23⟩ [⟨0, 9, 15, 25⟩] rfl (fun z hz => nomatch hz) rfl (by decide) (rv_al (rv_t3 (List.mem_of_getElem? (i := 0) rfl)) rfl) E.2.1.2.2.2.2.1.2.2.2.2.1 (fun q9 H1 locs1 hG ho hS => ?_)
  refine lv_astore_n E.1.1 E.1.2.1 dL_advance_12 rfl (rv_has_k hl) (Nat.le_of_ble_eq_true rfl) rfl (fun ls' hl' => ?_)
  exact rL_endx E hG ho hS (by decide) dL_advance_13 dL_advance_14
theorem wL_advance_x3 {l : Launch} {D : va_G} {cI cZ cO cJ : ClassId} {ad : Nat → Nat} {gh : rC_gh} {mi de o sz : Nat} {w : Int64} (hfl : l.stackTraces = false) (hI : rC_I ad gh) {M : rv_Mem} {p1 : Int32} {M1 : rv_Mem} (h : f11_advance gh M p1 = some (.inr (3, M1))) : Met l yL_advance wsL_advance rmL_advance (va_Pc [.ref (ad 0), .int p1, .ref o] (rL_P D cI cZ cO cJ ad gh mi de o sz M w)) (rL_qx D cI cZ cO cJ ad gh de o sz 2 M1 w) 1 6 (rL_A ad gh sz o) := by
  refine rL_met rfl (Nat.le_of_ble_eq_true rfl) (fun p e s m args below meth c ls S htab hret hlk hP hl => ?_)
  have hsz := hP.2.1
  subst hsz
  have E : rL_E D cI cZ cO cJ ad gh mi de o M w cL_advance 4 [(0, 9, 12, 23), (0, 9, 15, 25)] p l s m args meth c := ⟨S, hP, hI, hfl, htab, hret, hlk⟩
  change rv_has ls [some (.ref (ad 0)), some (.int p1), some (.ref o), none] at hl
  refine lv_aload_n E.1.1 E.1.2.1 dL_advance_0 rfl (hl.2.2 2 _ rfl) ?_
  refine lv_iconst (v := 0) E.1.1 E.1.2.1 dL_advance_1 (by decide) ?_
  refine lv_aload_n E.1.1 E.1.2.1 dL_advance_2 rfl (hl.2.2 0 _ rfl) ?_
  refine lv_iload_n E.1.1 E.1.2.1 dL_advance_3 rfl (hl.2.2 1 _ rfl) ?_
  refine rL_ex (mk := true) (x := 3) E (fun _ => c11_advance_x hfl hI h) (Or.inl rfl) gL_176 hX11_advance ⟨rfl, rfl⟩ ⟨Nat.le_of_ble_eq_true rfl, Nat.le_of_ble_eq_true rfl⟩ ⟨Nat.le_of_ble_eq_true rfl, Nat.le_of_ble_eq_true rfl⟩ rfl (lv := [some (.ref (ad 0)), some (.int p1), some (.ref o), none]) hl rfl (As := [.int p1]) (rest := [.int 0, .ref o]) rfl (Nat.le_of_ble_eq_true rfl) dL_advance_4 [⟨0, 9, 12, 23⟩] ⟨0, 9, 15, 25⟩ [] rfl (fun z hz => by cases List.mem_singleton.mp hz; exact ⟨by decide, _, rv_al (rv_t3 (List.mem_of_getElem? (i := 0) rfl)) rfl, E.2.1.2.2.2.2.2.2.2.2.1.2.2⟩) rfl (by decide) (rv_al (rv_t3 (List.mem_of_getElem? (i := 1) rfl)) rfl) E.2.1.2.2.2.2.1.2.2.2.2.2.1 (fun q9 H1 locs1 hG ho hS => ?_)
  refine lv_astore_n E.1.1 E.1.2.1 dL_advance_15 rfl (rv_has_k hl) (Nat.le_of_ble_eq_true rfl) rfl (fun ls' hl' => ?_)
  exact rL_endx E hG ho hS (by decide) dL_advance_16 dL_advance_17
