/-! WHAT THE START GIVES -/
theorem st_nw {A : Array Value} {s : State} {w : Cond} (hts : ∀ w ∈ lw_tbl, w.before A s = true) (hw : w ∈ tables_1) (hc : w.onTables = true) : va_Nw w s := va_tabs hc rfl (hts w (List.mem_append_right _ hw))
theorem st_any {A : Array Value} {s : State} {w : Cond} (h : w.before A s = true) (hc : w.onTables = true) : va_Nw w s := va_tabs hc rfl h
theorem st_K {A : Array Value} {s : State} (hts : ∀ w ∈ lw_tbl, w.before A s = true) (hg : (Jvm.Cond.and given_1 narrow_1).before A s = true) : ∃ (D : va_G) (cI cZ cO : ClassId), va_K D vwCl (lk_ty cI cZ cO) s := by
  have ht : ∀ w ∈ rv_AL, w.before A s = true := fun w hw => hts w (rv_ALin hw)
  obtain ⟨c0, i0, hc0⟩ := u_known (C := RJx4a65c) (T := TJx4a65c) (N := 3) (n := 3) ht wlJL (hts _ (List.mem_append_right _ (rv_t1 (List.mem_of_getElem? (i := 220) rfl))))
  obtain ⟨c1, i1, hc1⟩ := u_known (C := RX0) (T := TX0) (N := 13) (n := 13) ht wlX0 (hts _ (List.mem_append_right _ (rv_t3 (List.mem_of_getElem? (i := 138) rfl))))
  obtain ⟨c2, i2, hc2⟩ := u_known (C := RX1) (T := TX1) (N := 5) (n := 5) ht wlX1 (hts _ (List.mem_append_right _ (rv_t4 (List.mem_of_getElem? (i := 212) rfl))))
  obtain ⟨c3, i3, hc3⟩ := u_known (C := RX2) (T := TX2) (N := 4) (n := 4) ht wlX2 (hts _ (List.mem_append_right _ (rv_t1 (List.mem_of_getElem? (i := 86) rfl))))
  obtain ⟨c4, i4, hc4⟩ := u_known (C := RX3) (T := TX3) (N := 11) (n := 11) ht wlX3 (hts _ (List.mem_append_right _ (rv_t1 (List.mem_of_getElem? (i := 92) rfl))))
  obtain ⟨c5, i5, hc5⟩ := u_known (C := RX4) (T := TX4) (N := 3) (n := 3) ht wlX4 (hts _ (List.mem_append_right _ (rv_t6 (List.mem_of_getElem? (i := 209) rfl))))
  obtain ⟨c6, i6, hc6⟩ := u_known (C := RX5) (T := TX5) (N := 6) (n := 6) ht wlX5 (hts _ (List.mem_append_right _ (rv_t2 (List.mem_of_getElem? (i := 6) rfl))))
  obtain ⟨c7, i7, hc7⟩ := u_known (C := RX6) (T := TX6) (N := 4) (n := 4) ht wlX6 (hts _ (List.mem_append_right _ (rv_t1 (List.mem_of_getElem? (i := 200) rfl))))
  obtain ⟨c8, i8, hc8⟩ := u_known (C := RX7) (T := TX7) (N := 5) (n := 5) ht wlX7 (hts _ (List.mem_append_right _ (rv_t6 (List.mem_of_getElem? (i := 24) rfl))))
  obtain ⟨c9, i9, hc9⟩ := u_known (C := RX8) (T := TX8) (N := 7) (n := 7) ht wlX8 (hts _ (List.mem_append_right _ (rv_t1 (List.mem_of_getElem? (i := 171) rfl))))
  obtain ⟨c10, i10, hc10⟩ := u_known (C := RX9) (T := TX9) (N := 11) (n := 11) ht wlX9 (hts _ (List.mem_append_right _ (rv_t1 (List.mem_of_getElem? (i := 38) rfl))))
  obtain ⟨c11, i11, hc11⟩ := u_known (C := RX10) (T := TX10) (N := 3) (n := 3) ht wlX10 (hts _ (List.mem_append_right _ (rv_t1 (List.mem_of_getElem? (i := 154) rfl))))
  obtain ⟨c12, i12, hc12⟩ := u_known (C := RX11) (T := TX11) (N := 12) (n := 12) ht wlX11 (hts _ (List.mem_append_right _ (rv_t1 (List.mem_of_getElem? (i := 30) rfl))))
  obtain ⟨cI, kI, pI, aI, bI, dI⟩ := Cond.arrayClass_spec (show (Cond.arrayClass .int).holds A s none s [] = true from hts _ (List.mem_append_right _ (rv_t1 (List.mem_of_getElem? (i := 84) rfl))))
  obtain ⟨cZ, kZ, pZ, aZ, bZ, dZ⟩ := Cond.arrayClass_spec (show (Cond.arrayClass .boolean).holds A s none s [] = true from hts _ (List.mem_append_right _ (rv_t1 (List.mem_of_getElem? (i := 198) rfl))))
  obtain ⟨pO, cO, kO, e1, e2, e3, e4, e5⟩ := Cond.arrayOver_spec (show (Cond.arrayOver (.object "java/lang/Object")).holds A s none s [] = true from hts _ (List.mem_append_right _ (rv_t4 (List.mem_of_getElem? (i := 13) rfl))))
  refine ⟨(fun k => [c0, c1, c2, c3, c4, c5, c6, c7, c8, c9, c10, c11, c12].getD k c0, fun k => [i0, i1, i2, i3, i4, i5, i6, i7, i8, i9, i10, i11, i12].getD k i0), cI, cZ, cO, fun k q hq => ?_, fun k q hq => ?_⟩
  · match k, hq with
    | 0, hq => cases hq; exact hc0
    | 1, hq => cases hq; exact hc1
    | 2, hq => cases hq; exact hc2
    | 3, hq => cases hq; exact hc3
    | 4, hq => cases hq; exact hc4
    | 5, hq => cases hq; exact hc5
    | 6, hq => cases hq; exact hc6
    | 7, hq => cases hq; exact hc7
    | 8, hq => cases hq; exact hc8
    | 9, hq => cases hq; exact hc9
    | 10, hq => cases hq; exact hc10
    | 11, hq => cases hq; exact hc11
    | 12, hq => cases hq; exact hc12
    | k + 13, hq => simp [vwCl] at hq
  · match k, hq with
    | 0, hq => cases hq; exact ⟨fun n z => ⟨fun k h => (by cases h), kI, bI, pI, dI⟩, aI⟩
    | 1, hq => cases hq; exact ⟨fun n z => ⟨fun k h => (by cases h), kZ, bZ, pZ, dZ⟩, aZ⟩
    | 2, hq => cases hq; exact ⟨fun n z => ⟨fun k h => (by cases h), kO, e3, pO, e4⟩, ⟨kO, pO, e3, e4, e1, e5⟩⟩
    | k + 3, hq => simp at hq
theorem st_rC_nw {A : Array Value} {s : State} (hts : ∀ w ∈ lw_tbl, w.before A s = true) : rC_nw s := ⟨st_nw hts (rv_t6 (List.mem_of_getElem? (i := 109) rfl)) rfl, st_nw hts (rv_t5 (List.mem_of_getElem? (i := 129) rfl)) rfl, st_nw hts (rv_t5 (List.mem_of_getElem? (i := 97) rfl)) rfl, st_nw hts (rv_t3 (List.mem_of_getElem? (i := 25) rfl)) rfl⟩
theorem st_rK_N {A : Array Value} {s : State} (hts : ∀ w ∈ lw_tbl, w.before A s = true) : rK_N s := ⟨st_nw hts (rv_t1 (List.mem_of_getElem? (i := 93) rfl)) rfl, st_nw hts (rv_t1 (List.mem_of_getElem? (i := 201) rfl)) rfl⟩
set_option maxHeartbeats 4000000 in
theorem st_xt {A : Array Value} {s : State} (hg : (Jvm.Cond.and given_1 narrow_1).before A s = true) : rL_xt s := by
  have hs := flat_of_before _ hg
  exact ⟨va_Nc.of (hs (Cond.not (.castable "java/lang/IllegalArgumentException" "java/lang/IndexOutOfBoundsException")) (by decide +kernel)), va_Nc.of (hs (Cond.not (.castable "java/lang/IllegalStateException" "java/lang/IndexOutOfBoundsException")) (by decide +kernel)), va_Nc.of (hs (Cond.not (.castable "java/lang/IllegalStateException" "java/lang/IllegalArgumentException")) (by decide +kernel))⟩
def st_fl : List Cond := flatC (Jvm.Cond.and given_1 narrow_1)
theorem st_s9 {A : Array Value} {s : State} {k : Nat} {tx : String} (h1 : (Cond.stringRef "ReviewForge" k tx).before A s = true) (h2 : (Cond.exactly (.string "ReviewForge" k) "java/lang/String").before A s = true) : ∃ sa, vk_R "ReviewForge" k tx sa s := by
  obtain ⟨a, c, cell, kk, h3, -⟩ := Cond.exactly_spec (show (Cond.exactly (.string "ReviewForge" k) "java/lang/String").holds A s none s [] = true from h2)
  exact ⟨a, vk_R.of h1 h3⟩
set_option maxHeartbeats 4000000 in
theorem st_str {A : Array Value} {s : State} (hts : ∀ w ∈ lw_tbl, w.before A s = true) (hs : ∀ w ∈ st_fl, w.before A s = true) : ∀ q ∈ rC_strs, ∃ sa, vk_R "ReviewForge" q.1 q.2 sa s := by
  intro q hq
  simp only [rC_strs, List.mem_cons, List.not_mem_nil, or_false] at hq
  rcases hq with rfl | rfl | rfl | rfl | rfl | rfl | rfl | rfl | rfl | rfl | rfl | rfl | rfl | rfl | rfl | rfl | rfl | rfl | rfl | rfl | rfl | rfl | rfl | rfl | rfl | rfl | rfl | rfl | rfl | rfl | rfl | rfl | rfl | rfl | rfl | rfl | rfl | rfl | rfl | rfl | rfl | rfl | rfl | rfl | rfl
  · exact st_s9 (hts _ (List.mem_append_right _ (rv_t2 (List.mem_of_getElem? (i := 124) rfl)))) (hs (Cond.exactly (.string "ReviewForge" 493) "java/lang/String") (by decide +kernel))
  · exact st_s9 (hts _ (List.mem_append_right _ (rv_t2 (List.mem_of_getElem? (i := 174) rfl)))) (hs (Cond.exactly (.string "ReviewForge" 495) "java/lang/String") (by decide +kernel))
  · exact st_s9 (hts _ (List.mem_append_right _ (rv_t2 (List.mem_of_getElem? (i := 201) rfl)))) (hs (Cond.exactly (.string "ReviewForge" 497) "java/lang/String") (by decide +kernel))
  · exact st_s9 (hts _ (List.mem_append_right _ (rv_t2 (List.mem_of_getElem? (i := 232) rfl)))) (hs (Cond.exactly (.string "ReviewForge" 485) "java/lang/String") (by decide +kernel))
  · exact st_s9 (hts _ (List.mem_append_right _ (rv_t3 (List.mem_of_getElem? (i := 5) rfl)))) (hs (Cond.exactly (.string "ReviewForge" 491) "java/lang/String") (by decide +kernel))
  · exact st_s9 (hts _ (List.mem_append_right _ (rv_t3 (List.mem_of_getElem? (i := 96) rfl)))) (hs (Cond.exactly (.string "ReviewForge" 489) "java/lang/String") (by decide +kernel))
  · exact st_s9 (hts _ (List.mem_append_right _ (rv_t3 (List.mem_of_getElem? (i := 98) rfl)))) (hs (Cond.exactly (.string "ReviewForge" 111) "java/lang/String") (by decide +kernel))
  · exact st_s9 (hts _ (List.mem_append_right _ (rv_t3 (List.mem_of_getElem? (i := 99) rfl)))) (hs (Cond.exactly (.string "ReviewForge" 118) "java/lang/String") (by decide +kernel))
  · exact st_s9 (hts _ (List.mem_append_right _ (rv_t3 (List.mem_of_getElem? (i := 109) rfl)))) (hs (Cond.exactly (.string "ReviewForge" 123) "java/lang/String") (by decide +kernel))
  · exact st_s9 (hts _ (List.mem_append_right _ (rv_t3 (List.mem_of_getElem? (i := 137) rfl)))) (hs (Cond.exactly (.string "ReviewForge" 163) "java/lang/String") (by decide +kernel))
  · exact st_s9 (hts _ (List.mem_append_right _ (rv_t4 (List.mem_of_getElem? (i := 112) rfl)))) (hs (Cond.exactly (.string "ReviewForge" 241) "java/lang/String") (by decide +kernel))
  · exact st_s9 (hts _ (List.mem_append_right _ (rv_t4 (List.mem_of_getElem? (i := 116) rfl)))) (hs (Cond.exactly (.string "ReviewForge" 501) "java/lang/String") (by decide +kernel))
  · exact st_s9 (hts _ (List.mem_append_right _ (rv_t4 (List.mem_of_getElem? (i := 117) rfl)))) (hs (Cond.exactly (.string "ReviewForge" 190) "java/lang/String") (by decide +kernel))
  · exact st_s9 (hts _ (List.mem_append_right _ (rv_t4 (List.mem_of_getElem? (i := 126) rfl)))) (hs (Cond.exactly (.string "ReviewForge" 199) "java/lang/String") (by decide +kernel))
  · exact st_s9 (hts _ (List.mem_append_right _ (rv_t4 (List.mem_of_getElem? (i := 131) rfl)))) (hs (Cond.exactly (.string "ReviewForge" 503) "java/lang/String") (by decide +kernel))
  · exact st_s9 (hts _ (List.mem_append_right _ (rv_t4 (List.mem_of_getElem? (i := 148) rfl)))) (hs (Cond.exactly (.string "ReviewForge" 211) "java/lang/String") (by decide +kernel))
  · exact st_s9 (hts _ (List.mem_append_right _ (rv_t4 (List.mem_of_getElem? (i := 173) rfl)))) (hs (Cond.exactly (.string "ReviewForge" 217) "java/lang/String") (by decide +kernel))
  · exact st_s9 (hts _ (List.mem_append_right _ (rv_t4 (List.mem_of_getElem? (i := 186) rfl)))) (hs (Cond.exactly (.string "ReviewForge" 233) "java/lang/String") (by decide +kernel))
  · exact st_s9 (hts _ (List.mem_append_right _ (rv_t4 (List.mem_of_getElem? (i := 195) rfl)))) (hs (Cond.exactly (.string "ReviewForge" 256) "java/lang/String") (by decide +kernel))
  · exact st_s9 (hts _ (List.mem_append_right _ (rv_t4 (List.mem_of_getElem? (i := 204) rfl)))) (hs (Cond.exactly (.string "ReviewForge" 499) "java/lang/String") (by decide +kernel))
  · exact st_s9 (hts _ (List.mem_append_right _ (rv_t4 (List.mem_of_getElem? (i := 206) rfl)))) (hs (Cond.exactly (.string "ReviewForge" 309) "java/lang/String") (by decide +kernel))
  · exact st_s9 (hts _ (List.mem_append_right _ (rv_t4 (List.mem_of_getElem? (i := 211) rfl)))) (hs (Cond.exactly (.string "ReviewForge" 505) "java/lang/String") (by decide +kernel))
  · exact st_s9 (hts _ (List.mem_append_right _ (rv_t5 (List.mem_of_getElem? (i := 1) rfl)))) (hs (Cond.exactly (.string "ReviewForge" 321) "java/lang/String") (by decide +kernel))
  · exact st_s9 (hts _ (List.mem_append_right _ (rv_t5 (List.mem_of_getElem? (i := 14) rfl)))) (hs (Cond.exactly (.string "ReviewForge" 542) "java/lang/String") (by decide +kernel))
  · exact st_s9 (hts _ (List.mem_append_right _ (rv_t5 (List.mem_of_getElem? (i := 24) rfl)))) (hs (Cond.exactly (.string "ReviewForge" 376) "java/lang/String") (by decide +kernel))
  · exact st_s9 (hts _ (List.mem_append_right _ (rv_t5 (List.mem_of_getElem? (i := 35) rfl)))) (hs (Cond.exactly (.string "ReviewForge" 382) "java/lang/String") (by decide +kernel))
  · exact st_s9 (hts _ (List.mem_append_right _ (rv_t5 (List.mem_of_getElem? (i := 49) rfl)))) (hs (Cond.exactly (.string "ReviewForge" 487) "java/lang/String") (by decide +kernel))
  · exact st_s9 (hts _ (List.mem_append_right _ (rv_t5 (List.mem_of_getElem? (i := 50) rfl)))) (hs (Cond.exactly (.string "ReviewForge" 389) "java/lang/String") (by decide +kernel))
  · exact st_s9 (hts _ (List.mem_append_right _ (rv_t5 (List.mem_of_getElem? (i := 51) rfl)))) (hs (Cond.exactly (.string "ReviewForge" 391) "java/lang/String") (by decide +kernel))
  · exact st_s9 (hts _ (List.mem_append_right _ (rv_t5 (List.mem_of_getElem? (i := 61) rfl)))) (hs (Cond.exactly (.string "ReviewForge" 416) "java/lang/String") (by decide +kernel))
  · exact st_s9 (hts _ (List.mem_append_right _ (rv_t5 (List.mem_of_getElem? (i := 71) rfl)))) (hs (Cond.exactly (.string "ReviewForge" 425) "java/lang/String") (by decide +kernel))
  · exact st_s9 (hts _ (List.mem_append_right _ (rv_t5 (List.mem_of_getElem? (i := 72) rfl)))) (hs (Cond.exactly (.string "ReviewForge" 427) "java/lang/String") (by decide +kernel))
  · exact st_s9 (hts _ (List.mem_append_right _ (rv_t5 (List.mem_of_getElem? (i := 81) rfl)))) (hs (Cond.exactly (.string "ReviewForge" 432) "java/lang/String") (by decide +kernel))
  · exact st_s9 (hts _ (List.mem_append_right _ (rv_t5 (List.mem_of_getElem? (i := 83) rfl)))) (hs (Cond.exactly (.string "ReviewForge" 435) "java/lang/String") (by decide +kernel))
  · exact st_s9 (hts _ (List.mem_append_right _ (rv_t5 (List.mem_of_getElem? (i := 99) rfl)))) (hs (Cond.exactly (.string "ReviewForge" 440) "java/lang/String") (by decide +kernel))
  · exact st_s9 (hts _ (List.mem_append_right _ (rv_t5 (List.mem_of_getElem? (i := 108) rfl)))) (hs (Cond.exactly (.string "ReviewForge" 445) "java/lang/String") (by decide +kernel))
  · exact st_s9 (hts _ (List.mem_append_right _ (rv_t5 (List.mem_of_getElem? (i := 113) rfl)))) (hs (Cond.exactly (.string "ReviewForge" 455) "java/lang/String") (by decide +kernel))
  · exact st_s9 (hts _ (List.mem_append_right _ (rv_t5 (List.mem_of_getElem? (i := 226) rfl)))) (hs (Cond.exactly (.string "ReviewForge" 476) "java/lang/String") (by decide +kernel))
  · exact st_s9 (hts _ (List.mem_append_right _ (rv_t5 (List.mem_of_getElem? (i := 231) rfl)))) (hs (Cond.exactly (.string "ReviewForge" 481) "java/lang/String") (by decide +kernel))
  · exact st_s9 (hts _ (List.mem_append_right _ (rv_t5 (List.mem_of_getElem? (i := 232) rfl)))) (hs (Cond.exactly (.string "ReviewForge" 483) "java/lang/String") (by decide +kernel))
  · exact st_s9 (hts _ (List.mem_append_right _ (rv_t6 (List.mem_of_getElem? (i := 1) rfl)))) (hs (Cond.exactly (.string "ReviewForge" 397) "java/lang/String") (by decide +kernel))
  · exact st_s9 (hts _ (List.mem_append_right _ (rv_t6 (List.mem_of_getElem? (i := 17) rfl)))) (hs (Cond.exactly (.string "ReviewForge" 277) "java/lang/String") (by decide +kernel))
  · exact st_s9 (hts _ (List.mem_append_right _ (rv_t6 (List.mem_of_getElem? (i := 22) rfl)))) (hs (Cond.exactly (.string "ReviewForge" 359) "java/lang/String") (by decide +kernel))
  · exact st_s9 (hts _ (List.mem_append_right _ (rv_t6 (List.mem_of_getElem? (i := 86) rfl)))) (hs (Cond.exactly (.string "ReviewForge" 272) "java/lang/String") (by decide +kernel))
  · exact st_s9 (hts _ (List.mem_append_right _ (rv_t6 (List.mem_of_getElem? (i := 208) rfl)))) (hs (Cond.exactly (.string "ReviewForge" 361) "java/lang/String") (by decide +kernel))
set_option maxHeartbeats 4000000 in
theorem st_tk {A : Array Value} {s : State} (hts : ∀ w ∈ lw_tbl, w.before A s = true) (hs : ∀ w ∈ st_fl, w.before A s = true) : rC_tk (fun q => s.heap.size ≤ q) s := by
  refine ⟨?_, ?_, st_str hts hs, st_nw hts (rv_t2 (List.mem_of_getElem? (i := 85) rfl)) rfl, st_nw hts (rv_t2 (List.mem_of_getElem? (i := 238) rfl)) rfl, st_nw hts (rv_t3 (List.mem_of_getElem? (i := 102) rfl)) rfl, fun w hw => ?_⟩
  · exact vx_Zqof (args := A) (hts _ (List.mem_append_right _ (rv_t2 (List.mem_of_getElem? (i := 110) rfl)))) (hts _ (List.mem_append_right _ (rv_t1 (List.mem_of_getElem? (i := 13) rfl)))) (hs (Cond.isRef (.static "java/lang/Throwable" "UNASSIGNED_STACK" "[Ljava/lang/StackTraceElement;")) (by decide +kernel)) (fun a ha => Nat.not_le.mpr ha)
  · exact vx_Zqof (args := A) (hts _ (List.mem_append_right _ (rv_t2 (List.mem_of_getElem? (i := 112) rfl)))) (hts _ (List.mem_append_right _ (rv_t1 (List.mem_of_getElem? (i := 13) rfl)))) (hs (Cond.isRef (.static "java/lang/Throwable" "SUPPRESSED_SENTINEL" "Ljava/util/List;")) (by decide +kernel)) (fun a ha => Nat.not_le.mpr ha)
  · simp only [rC_dcl, List.mem_cons, List.not_mem_nil, or_false] at hw
    rcases hw with rfl | rfl | rfl
    · exact st_nw hts (rv_t2 (List.mem_of_getElem? (i := 87) rfl)) rfl
    · exact st_nw hts (rv_t2 (List.mem_of_getElem? (i := 89) rfl)) rfl
    · exact st_nw hts (rv_t2 (List.mem_of_getElem? (i := 91) rfl)) rfl
set_option maxHeartbeats 4000000 in
theorem st_mk {A : Array Value} {s : State} (hts : ∀ w ∈ lw_tbl, w.before A s = true) (hs : ∀ w ∈ st_fl, w.before A s = true) : ∃ mi de, rM_tk mi de (fun q => s.heap.size ≤ q) s ∧ (Term.static "java/util/ArrayList" "DEFAULTCAPACITY_EMPTY_ELEMENTDATA" "[Ljava/lang/Object;").eval A s none [] s = some (.ref de) := by
  obtain ⟨mi, hmi⟩ := va_Mi.of (hs (Cond.isRef (.mirror "[Ljava/lang/Object;")) (by decide +kernel))
  obtain ⟨de, c, cell, kk, h3, -⟩ := Cond.exactly_spec (show (Cond.exactly (Term.static "java/util/ArrayList" "DEFAULTCAPACITY_EMPTY_ELEMENTDATA" "[Ljava/lang/Object;") "[Ljava/lang/Object;").holds A s none s [] = true from hs _ (by decide +kernel))
  refine ⟨mi, de, ⟨hmi, st_nw hts (rv_t7 (List.mem_of_getElem? (i := 8) rfl)) rfl, va_AO.of (A := A) (hts _ (List.mem_append_right _ (rv_t4 (List.mem_of_getElem? (i := 13) rfl)))), va_Zref (args := A) (hts _ (List.mem_append_right _ (rv_t1 (List.mem_of_getElem? (i := 232) rfl)))) (hts _ (List.mem_append_right _ (rv_t1 (List.mem_of_getElem? (i := 11) rfl)))) h3 (fun a ha => Nat.not_le.mpr ha), st_nw hts (rv_t7 (List.mem_of_getElem? (i := 0) rfl)) rfl, st_nw hts (rv_t7 (List.mem_of_getElem? (i := 1) rfl)) rfl, st_nw hts (rv_t7 (List.mem_of_getElem? (i := 3) rfl)) rfl⟩, h3⟩
theorem st_len {A : Array Value} {s : State} {t : Term} {b : Nat} (ht : t.eval A s none [] s = some (.ref b)) (h : (Cond.eq (.length t) (.int 0)).before A s = true) : ∃ cell, s.heap[b]? = some cell ∧ cell.slots.size = 0 := by
  cases ha : s.arrayAt? b with
  | none => simp [Cond.before, Cond.holds, Cond.value, Term.eval, ht, ha] at h
  | some cell =>
    refine ⟨cell, (State.arrayAt?_spec ha).1, ?_⟩
    by_cases hs : cell.slots.size < 2 ^ 31
    · have h1 : cell.slots.size.toInt32 = 0 := by simpa [Cond.before, Cond.holds, Cond.value, Term.eval, ht, ha, hs] using h
      have h2 : (Int32.ofNat cell.slots.size).toInt = cell.slots.size := Int32.toInt_ofNat_of_lt hs
      have h3 : (Int32.ofNat cell.slots.size).toInt = 0 := by
        show cell.slots.size.toInt32.toInt = 0
        rw [h1]; rfl
      omega
    · simp [Cond.before, Cond.holds, Cond.value, Term.eval, ht, ha, hs] at h
set_option maxHeartbeats 4000000 in
theorem st_LA {A : Array Value} {s : State} {D : va_G} {cI cZ cO : ClassId} {de : Nat} (hs : ∀ w ∈ st_fl, w.before A s = true) (hK : va_K D vwCl (lk_ty cI cZ cO) s) (hde : (Term.static "java/util/ArrayList" "DEFAULTCAPACITY_EMPTY_ELEMENTDATA" "[Ljava/lang/Object;").eval A s none [] s = some (.ref de)) : rC_LA D cO de 0 0 (fun _ => none) s.heap := by
  obtain ⟨a, c, cell, kk, h3, h4, h5, h6, h7, h8, -⟩ := Cond.exactly_spec (show (Cond.exactly (Term.static "java/util/ArrayList" "DEFAULTCAPACITY_EMPTY_ELEMENTDATA" "[Ljava/lang/Object;") "[Ljava/lang/Object;").holds A s none s [] = true from hs _ (by decide +kernel))
  have e1 : a = de := by
    have := h3.symm.trans hde
    simpa using this
  subst e1
  obtain ⟨cell2, g1, g2⟩ := st_len hde (hs (Cond.eq (.length (Term.static "java/util/ArrayList" "DEFAULTCAPACITY_EMPTY_ELEMENTDATA" "[Ljava/lang/Object;")) (.int 0)) (by decide +kernel))
  have e2 : cell2 = cell := Option.some.inj (g1.symm.trans h5)
  subst e2
  obtain ⟨k2, c2, -, -, -, g8⟩ := (hK.2 2 _ rfl).2
  refine ⟨⟨cell2, h5, fun k z => ?_, ?_, g2⟩, fun z => absurd z (Nat.lt_irrefl 0)⟩
  · rw [z] at h7; exact Bool.noConfusion (show true = false from h7)
  · rw [h8]
    have g9 : s.vm.findClass "[Ljava/lang/Object;" = some cO := g8
    exact Option.some.inj (h4.symm.trans g9)
