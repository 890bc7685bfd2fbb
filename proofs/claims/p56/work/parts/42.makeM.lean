/-! THE METHODS THAT MAKE THINGS: the making -/
abbrev rm11_open : Room := { frames := 9, cells := 3, slots := 193, locals := 220 }
def qx11_open (D : va_G) (cI cZ cO : ClassId) (ad : Nat → Nat) (gh : rC_gh) (de : Nat) (below : List Frame) (args : Array Value) (s : State) (M : rv_Mem) : (Int32 × rC_gh × rv_Mem) ⊕ Nat → State → Prop := fun r => match r with
  | .inl r => vx_MQ below (rM_qi D cI cZ cO ad gh de s.heap.size r.1 r.2.1 r.2.2) (rC_fx (rM_A ad gh s.heap.size)) args s 3 193 (rM_A ad gh s.heap.size)
  | .inr _ => fun _ => True
abbrev rm11_comment : Room := { frames := 9, cells := 3, slots := 110, locals := 220 }
def qx11_comment (D : va_G) (cI cZ cO : ClassId) (ad : Nat → Nat) (gh : rC_gh) (de : Nat) (below : List Frame) (args : Array Value) (s : State) (M : rv_Mem) : (Int32 × rC_gh × rv_Mem) ⊕ Nat → State → Prop := fun r => match r with
  | .inl r => vx_MQ below (rM_qi D cI cZ cO ad gh de s.heap.size r.1 r.2.1 r.2.2) (rC_fx (rM_A ad gh s.heap.size)) args s 3 110 (rM_A ad gh s.heap.size)
  | .inr _ => fun _ => True
abbrev rm11_answer : Room := { frames := 9, cells := 2, slots := 105, locals := 220 }
def qx11_answer (D : va_G) (cI cZ cO : ClassId) (ad : Nat → Nat) (gh : rC_gh) (de : Nat) (below : List Frame) (args : Array Value) (s : State) (M : rv_Mem) : (Int32 × rC_gh × rv_Mem) ⊕ Nat → State → Prop := fun r => match r with
  | .inl r => vx_MQ below (rM_qi D cI cZ cO ad gh de s.heap.size r.1 r.2.1 r.2.2) (rC_fx (rM_A ad gh s.heap.size)) args s 2 105 (rM_A ad gh s.heap.size)
  | .inr _ => fun _ => True
abbrev rm11_find : Room := { frames := 9, cells := 3, slots := 108, locals := 220 }
def qx11_find (D : va_G) (cI cZ cO : ClassId) (ad : Nat → Nat) (gh : rC_gh) (de : Nat) (below : List Frame) (args : Array Value) (s : State) (M : rv_Mem) : (Int32 × rC_gh × rv_Mem) ⊕ Nat → State → Prop := fun r => match r with
  | .inl r => vx_MQ below (rM_qi D cI cZ cO ad gh de s.heap.size r.1 r.2.1 r.2.2) (rC_fx (rM_A ad gh s.heap.size)) args s 3 108 (rM_A ad gh s.heap.size)
  | .inr _ => fun _ => True
theorem rv_trL {p : Program} {l : Launch} {e : Env} {R : Room} {s : State} {m : MethodId} {args : Array Value} {below : List Frame} {meth : Method} {c : Code} {cells slots pc : Nat} {μ ρ : Type} {G : μ → Heap → Prop} {A : Nat → Prop} {Q : ρ → State → Prop} {t : Option ρ} {lv : List (Option Value)} {st : List Value} {M : μ} (h : ∀ r, t = some r → ∀ t, Q r t) : rv_M G A p l e R s m args below meth c cells slots Q t pc lv st M := fun res hr H locs ls hG hS hl T hT X => ⟨_, Steps.refl _, h res hr _⟩
abbrev rmx11_open : Room := { frames := 9, cells := 1, slots := 6, locals := 220 }
def qy11_open (D : va_G) (cI cZ cO : ClassId) (ad : Nat → Nat) (gh : rC_gh) (de : Nat) (below : List Frame) (args : Array Value) (s : State) (M : rv_Mem) : (Int32 × rC_gh × rv_Mem) ⊕ Nat → State → Prop := fun r => match r with
  | .inl _ => fun _ => True
  | .inr r => vx_MQ below (rC_fi (rC_A ad gh s.heap.size)) (rC_xc D cI cZ cO ad gh de (rC_A ad gh s.heap.size) r M) args s 1 6 (rC_A ad gh s.heap.size)
abbrev rmx11_comment : Room := { frames := 9, cells := 1, slots := 6, locals := 220 }
def qy11_comment (D : va_G) (cI cZ cO : ClassId) (ad : Nat → Nat) (gh : rC_gh) (de : Nat) (below : List Frame) (args : Array Value) (s : State) (M : rv_Mem) : (Int32 × rC_gh × rv_Mem) ⊕ Nat → State → Prop := fun r => match r with
  | .inl _ => fun _ => True
  | .inr r => vx_MQ below (rC_fi (rC_A ad gh s.heap.size)) (rC_xc D cI cZ cO ad gh de (rC_A ad gh s.heap.size) r M) args s 1 6 (rC_A ad gh s.heap.size)
abbrev rmx11_answer : Room := { frames := 9, cells := 1, slots := 6, locals := 220 }
def qy11_answer (D : va_G) (cI cZ cO : ClassId) (ad : Nat → Nat) (gh : rC_gh) (de : Nat) (below : List Frame) (args : Array Value) (s : State) (M : rv_Mem) : (Int32 × rC_gh × rv_Mem) ⊕ Nat → State → Prop := fun r => match r with
  | .inl _ => fun _ => True
  | .inr r => vx_MQ below (rC_fi (rC_A ad gh s.heap.size)) (rC_xc D cI cZ cO ad gh de (rC_A ad gh s.heap.size) r M) args s 1 6 (rC_A ad gh s.heap.size)
abbrev rmx11_find : Room := { frames := 9, cells := 1, slots := 6, locals := 220 }
def qy11_find (D : va_G) (cI cZ cO : ClassId) (ad : Nat → Nat) (gh : rC_gh) (de : Nat) (below : List Frame) (args : Array Value) (s : State) (M : rv_Mem) : (Int32 × rC_gh × rv_Mem) ⊕ Nat → State → Prop := fun r => match r with
  | .inl _ => fun _ => True
  | .inr r => vx_MQ below (rC_fi (rC_A ad gh s.heap.size)) (rC_xc D cI cZ cO ad gh de (rC_A ad gh s.heap.size) r M) args s 1 6 (rC_A ad gh s.heap.size)
set_option maxRecDepth 100000 in
set_option maxHeartbeats 4000000 in
theorem b11_comment_76 {p : Program} {l : Launch} {e : Env} {s : State} {m : MethodId} {args : Array Value} {below : List Frame} {meth : Method} {c : Code} {D : va_G} {cI cZ cO : ClassId} {ad : Nat → Nat} {gh : rC_gh} {de : Nat} (E : rC_X D cI cZ cO ad gh RX11 cX11_comment 11 (some .int) p l s m args meth c) {mi : Nat} (hT : rM_tk mi de (rM_A ad gh s.heap.size) s) (M : rv_Mem) (x1 : Int32) (x2 : Int32) (x3 : Int32) (x4 : Int32) (x5 : Int32) (x6 : Int32) (x7 : Bool) (x10 : Int32) : rv_M (rC_G D cI cZ cO ad gh de) (rC_A ad gh s.heap.size) p l e rm11_comment s m args below meth c 0 0 (qx11_comment D cI cZ cO ad gh de below args s M) (f11_comment_76 gh M x1 x2 x3 x4 x5 x6 x7 x10) 76 [none, some (.int x1), some (.int x2), some (.int x3), some (.int x4), some (.int x5), some (.int x6), some (.int (rv_i x7)), none, none, some (.int x10)] [.ref (ad 10)] M := by
  intro res h H locs ls hG hS hl
  unfold f11_comment_76 at h
  have hI := E.1.2.2.1
  by_cases hok2 : (rC_ok gh && decide (gh.1 1 < 60)) = true
  rotate_left
  · rw [if_neg hok2] at h; cases h
  rw [if_pos hok2] at h
  rw [Bool.and_eq_true, decide_eq_true_eq] at hok2
  obtain ⟨hok, hnb⟩ := hok2
  have hlo := rM_lo hG (i := 1) (by decide)
  have hS0 := hS.1
  have hS : va_S (rM_A ad gh s.heap.size) s.heap H locs := rJ_Sm (fun q h => Or.inl h) hS
  cases h
  show W p l e rm11_comment s m args below meth c H locs 0 0 (vx_MQ below (rM_qi D cI cZ cO ad gh de s.heap.size x10 _ _) (rC_fx (rM_A ad gh s.heap.size)) args s 3 110 (rM_A ad gh s.heap.size)) _
  refine vx_ret ?_
  refine rM_new E (ci2 := 2) (N := 5) (f2 := [.int 0, .int 0, .int 0, .null, .int 0]) rfl wlX1 tyX1_ok (rv_al (rv_t4 (List.mem_of_getElem? (i := 205) rfl)) rfl) (rv_al (rv_t4 (List.mem_of_getElem? (i := 212) rfl)) rfl) (rv_al (rv_t1 (List.mem_of_getElem? (i := 25) rfl)) rfl) (fun j hj => (match j, hj with | 0, _ => rfl | 1, _ => rfl | 2, _ => rfl | 3, _ => rfl | 4, _ => rfl | j + 5, h => absurd h (by omega))) (Nat.le_of_ble_eq_true rfl) (Nat.le_of_ble_eq_true rfl) dX11_comment_76 hS (fun H1 z1 k1 hq1 hS => ?_)
  refine lv_dup E.1.1.1 E.1.1.2.1 dX11_comment_79 rfl ?_
  refine lv_iload_n E.1.1.1 E.1.1.2.1 dX11_comment_80 rfl (hl.2.2 1 _ rfl) ?_
  refine lv_iload E.1.1.1 E.1.1.2.1 dX11_comment_81 (hl.2.2 10 _ rfl) ?_
  refine lv_iload E.1.1.1 E.1.1.2.1 dX11_comment_83 (hl.2.2 7 _ rfl) ?_
  refine rM_new E (ci2 := 8) (N := 5) (f2 := [.int 0, .int 0, .int 0, .int 0, .int 0]) rfl wlX7 tyX7_ok (rv_al (rv_t6 (List.mem_of_getElem? (i := 23) rfl)) rfl) (rv_al (rv_t6 (List.mem_of_getElem? (i := 24) rfl)) rfl) (rv_al (rv_t1 (List.mem_of_getElem? (i := 27) rfl)) rfl) (fun j hj => (match j, hj with | 0, _ => rfl | 1, _ => rfl | 2, _ => rfl | 3, _ => rfl | 4, _ => rfl | j + 5, h => absurd h (by omega))) (Nat.le_of_ble_eq_true rfl) (Nat.le_of_ble_eq_true rfl) dX11_comment_85 hS (fun H2 z2 k2 hq2 hS => ?_)
  refine lv_dup E.1.1.1 E.1.1.2.1 dX11_comment_88 rfl ?_
  refine lv_iload_n E.1.1.1 E.1.1.2.1 dX11_comment_89 rfl (hl.2.2 2 _ rfl) ?_
  refine lv_iload_n E.1.1.1 E.1.1.2.1 dX11_comment_90 rfl (hl.2.2 3 _ rfl) ?_
  refine lv_iload E.1.1.1 E.1.1.2.1 dX11_comment_91 (hl.2.2 4 _ rfl) ?_
  refine lv_iload E.1.1.1 E.1.1.2.1 dX11_comment_93 (hl.2.2 5 _ rfl) ?_
  refine lv_iload E.1.1.1 E.1.1.2.1 dX11_comment_95 (hl.2.2 6 _ rfl) ?_
  refine rM_ctor E (n := 5) (q9 := H1.size) (As := [.int x2, .int x3, .int x4, .int x5, .int x6]) (lv := [none, some (.int x1), some (.int x2), some (.int x3), some (.int x4), some (.int x5), some (.int x6), some (.int (rv_i x7)), none, none, some (.int x10)]) (PU := (fun h => va_at D vwCl (H1.size, .inr (8, [.int 0, .int 0, .int 0, .int 0, .int 0])) h)) k9X7 wcX7_init wmX11_293 (rv_al (rv_t1 (List.mem_of_getElem? (i := 27) rfl)) rfl) (rv_al (rv_t6 (List.mem_of_getElem? (i := 26) rfl)) rfl) rfl ⟨rfl, rfl⟩ (by decide +kernel) ⟨Nat.le_of_ble_eq_true rfl, Nat.le_of_ble_eq_true rfl⟩ rfl hl rfl rfl (Nat.le_of_ble_eq_true rfl) ⟨Nat.le_of_ble_eq_true rfl, Nat.le_of_ble_eq_true rfl⟩ dX11_comment_97 hq2 hS (fun q hq => by rw [hq]; exact Or.inl (Or.inr (by omega))) (fun u3 H3 locs3 t3 ht3 hw3 hB3 z3 k3 hS => ?_)
  have hB3 : va_at D vwCl (H1.size, .inr (8, k9f_X7 x2 x3 x4 x5 x6)) t3.heap := hB3
  rw [ht3] at hB3
  have hq1b : va_at D vwCl (H.size, .inr (2, [.int 0, .int 0, .int 0, .null, .int 0])) H3 := (hq1.kept (k2 _ (by show H.size < H1.size; omega))).kept (k3 _ (by show H.size < H2.size; omega) (by show H.size ≠ H1.size; omega))
  refine rM_ctor E (n := 4) (q9 := H.size) (As := [.int x1, .int x10, .int (rv_i x7), .ref H1.size]) (lv := [none, some (.int x1), some (.int x2), some (.int x3), some (.int x4), some (.int x5), some (.int x6), some (.int (rv_i x7)), none, none, some (.int x10)]) (PU := (fun h => va_at D vwCl (H.size, .inr (2, [.int 0, .int 0, .int 0, .null, .int 0])) h)) k9X1 wcX1_init wmX11_296 (rv_al (rv_t1 (List.mem_of_getElem? (i := 25) rfl)) rfl) (rv_al (rv_t4 (List.mem_of_getElem? (i := 214) rfl)) rfl) rfl ⟨rfl, rfl⟩ (by decide +kernel) ⟨Nat.le_of_ble_eq_true rfl, Nat.le_of_ble_eq_true rfl⟩ rfl hl rfl rfl (Nat.le_of_ble_eq_true rfl) ⟨Nat.le_of_ble_eq_true rfl, Nat.le_of_ble_eq_true rfl⟩ dX11_comment_100 hq1b hS (fun q hq => by rw [hq]; exact Or.inl (Or.inr (by omega))) (fun u4 H4 locs4 t4 ht4 hw4 hB4 z4 k4 hS => ?_)
  have hB4 : va_at D vwCl (H.size, .inr (2, k9f_X1 x1 x10 x7 H1.size)) t4.heap := hB4
  rw [ht4] at hB4
  have hpl : va_at D vwCl (H1.size, .inr (8, k9f_X7 x2 x3 x4 x5 x6)) H4 := hB3.kept (k4 _ (by show H1.size < H3.size; omega) (by show H1.size ≠ H.size; omega))
  have kp5 : ∀ q : Nat, q < H.size → H4[q]? = H[q]? := fun q hq => by
    rw [k4 q (by omega) (by show q ≠ H.size; omega), k3 q (by omega) (by show q ≠ H1.size; omega), k2 q (by omega), k1 q hq]
  have hG5 := rC_kept hG kp5
  have hL5 := hG5.2 1 (by decide)
  have hel5 := rC_el_at (i := 1) (by decide) hI hG5
  refine rM_add E hT (i := 1) (x := H.size) (lv := [none, some (.int x1), some (.int x2), some (.int x3), some (.int x4), some (.int x5), some (.int x6), some (.int (rv_i x7)), none, none, some (.int x10)]) (by decide) (by omega) hL5 hel5 (rM_ne hI (by decide)) hB4 ⟨by omega, by omega⟩ (fun r hr => by cases hr; exact hT.2.2.2.2.2.1) ⟨Nat.le_of_ble_eq_true rfl, Nat.le_of_ble_eq_true rfl⟩ hl rfl (Nat.le_of_ble_eq_true rfl) ⟨Nat.le_of_ble_eq_true rfl, Nat.le_of_ble_eq_true rfl⟩ dX11_comment_103 hS (fun cap mc f' e' H6 locs6 z6 k6 B1 B2 w1 w2 w3 w4 w5 w6 w7 hS => ?_)
  have m1 : (rv_w (rv_w M (200 + gh.1 1) (rv_fs [x1, x10, rv_i x7, 0, 0])) (300 + gh.1 1) (rv_fs [x2, x3, x4, x5, x6])) (200 + gh.1 1) = rv_fs [x1, x10, rv_i x7, 0, 0] := by rw [rM_w2 (by omega), rM_w1]
  have m2 : (rv_w (rv_w M (200 + gh.1 1) (rv_fs [x1, x10, rv_i x7, 0, 0])) (300 + gh.1 1) (rv_fs [x2, x3, x4, x5, x6])) (300 + gh.1 1) = rv_fs [x2, x3, x4, x5, x6] := rM_w1
  have a1 : rM_ad ad gh 1 H.size H1.size e' (300 + gh.1 1) = H1.size := by
    unfold rM_ad
    rw [if_neg (by omega), if_neg (by show ¬ (300 + gh.1 1 = 200 + gh.1 1); omega), if_pos (show 300 + gh.1 1 = rM_k2 1 + gh.1 1 from rfl)]
  have e1 : rC_ent cI cZ (rM_ad ad gh 1 H.size H1.size e') (rC_gi gh 1 (300 + gh.1 1)) (rv_w (rv_w M (200 + gh.1 1) (rv_fs [x1, x10, rv_i x7, 0, 0])) (300 + gh.1 1) (rv_fs [x2, x3, x4, x5, x6])) (200 + gh.1 1) = .inr (2, k9f_X1 x1 x10 x7 H1.size) := by
    rw [rM_ent (ci := 2) (rM_kd2 hnb)]
    generalize hMM : (rv_w (rv_w M (200 + gh.1 1) (rv_fs [x1, x10, rv_i x7, 0, 0])) (300 + gh.1 1) (rv_fs [x2, x3, x4, x5, x6])) = MM at m1 m2 ⊢
    show Sum.inr (2, [Value.int (MM (200 + gh.1 1) 0), .int (MM (200 + gh.1 1) 1), .int (rv_i (rv_z (MM (200 + gh.1 1) 2))), .ref (rM_ad ad gh 1 H.size H1.size e' ((rC_gi gh 1 (300 + gh.1 1)).2 (200 + gh.1 1))), .int (rv_i (rv_z (MM (200 + gh.1 1) 4)))]) = _
    rw [m1, rC_gi2, if_pos ⟨rfl, rfl⟩, a1]
    show Sum.inr (2, [Value.int x1, .int x10, .int (rv_i (rv_z (rv_i x7))), .ref H1.size, .int (rv_i (rv_z 0))]) = _
    rw [rv_z_i]
    rfl
  have e2 : rC_ent cI cZ (rM_ad ad gh 1 H.size H1.size e') (rC_gi gh 1 (300 + gh.1 1)) (rv_w (rv_w M (200 + gh.1 1) (rv_fs [x1, x10, rv_i x7, 0, 0])) (300 + gh.1 1) (rv_fs [x2, x3, x4, x5, x6])) (300 + gh.1 1) = .inr (8, k9f_X7 x2 x3 x4 x5 x6) := by
    rw [rM_ent (ci := 8) (rM_kd3 hnb)]
    generalize hMM : (rv_w (rv_w M (200 + gh.1 1) (rv_fs [x1, x10, rv_i x7, 0, 0])) (300 + gh.1 1) (rv_fs [x2, x3, x4, x5, x6])) = MM at m1 m2 ⊢
    show Sum.inr (8, [Value.int (MM (300 + gh.1 1) 0), .int (MM (300 + gh.1 1) 1), .int (MM (300 + gh.1 1) 2), .int (MM (300 + gh.1 1) 3), .int (MM (300 + gh.1 1) 4)]) = _
    rw [m2]
    rfl
  have hx9 : va_at D vwCl (H.size, .inr (2, k9f_X1 x1 x10 x7 H1.size)) H6 := hB4.kept (k6 _ (by show H.size < H4.size; omega) (by show H.size ≠ ad (9 + 1); omega) (fun _ => by show H.size ≠ ad (9 + 1 + 44); omega))
  have hy9 : va_at D vwCl (H1.size, .inr (8, k9f_X7 x2 x3 x4 x5 x6)) H6 := hpl.kept (k6 _ (by show H1.size < H4.size; omega) (by show H1.size ≠ ad (9 + 1); omega) (fun _ => by show H1.size ≠ ad (9 + 1 + 44); omega))
  have w7' : e' = ad (9 + 1 + 44) ∧ 0 < gh.1 1 ∨ H.size ≤ e' := w7.elim Or.inl (fun h => Or.inr (by omega))
  have hE' : H.size ≤ H.size ∧ H.size ≤ H1.size := ⟨by omega, by omega⟩
  have hne : H.size ≠ e' ∧ H1.size ≠ e' := by
    rcases w7 with ⟨h1, -⟩ | h1
    · exact ⟨by omega, by omega⟩
    · exact ⟨by omega, by omega⟩
  have g := rM_fin (M' := (rv_w (rv_w M (200 + gh.1 1) (rv_fs [x1, x10, rv_i x7, 0, 0])) (300 + gh.1 1) (rv_fs [x2, x3, x4, x5, x6]))) (i := 1) (pk := 300 + gh.1 1) (x := H.size) (y := H1.size) (e := e') (sz := s.heap.size) (by decide) hI hok (show gh.1 1 < 60 from hnb) hG hE'.1 hE'.2 (by omega) hS0 (fun _ => Or.inl rfl) (fun q h1 h2 h3 => (k6 q (by omega) h2 h3).trans (kp5 q h1)) (by show va_at D vwCl (_, rC_ent _ _ _ _ _ (200 + gh.1 1)) _; rw [e1]; exact hx9) (fun _ => by show va_at D vwCl (_, rC_ent _ _ _ _ _ (300 + gh.1 1)) _; rw [e2]; exact hy9) (fun k h1 h2 => by rw [rM_w2 (show k ≠ 300 + gh.1 1 from h2), rM_w2 (show k ≠ 200 + gh.1 1 from h1)]) B1 B2 w1 w2 w3 w4 w5 w6 w7' hne.1 hne.2
  obtain ⟨⟨gG, gI⟩, gs, g0⟩ := g
  refine lv_pop E.1.1.1 E.1.1.2.1 dX11_comment_106 rfl ?_
  refine lv_iload E.1.1.1 E.1.1.2.1 dX11_comment_107 (hl.2.2 10 _ rfl) ?_
  exact W.iret E.1.1.1 E.1.1.2.1 E.1.2.2.2.2.1 (fun t ht hW => ⟨⟨x10, rM_ad ad gh 1 H.size H1.size e', rfl, ⟨rfl, g0, gI, gs⟩, by show rC_G _ _ _ _ _ _ _ _ t.heap; rw [ht]; exact gG⟩, hS.F ht⟩) hS.2.2 dX11_comment_109 (hlocks := E.1.2.2.2.2.2.1)
set_option maxRecDepth 100000 in
set_option maxHeartbeats 4000000 in
theorem b11_answer_63 {p : Program} {l : Launch} {e : Env} {s : State} {m : MethodId} {args : Array Value} {below : List Frame} {meth : Method} {c : Code} {D : va_G} {cI cZ cO : ClassId} {ad : Nat → Nat} {gh : rC_gh} {de : Nat} (E : rC_X D cI cZ cO ad gh RX11 cX11_answer 5 (some .int) p l s m args meth c) {mi : Nat} (hT : rM_tk mi de (rM_A ad gh s.heap.size) s) (M : rv_Mem) (x1 : Int32) (x2 : Int32) (x3 : Bool) (x4 : Nat) : rv_M (rC_G D cI cZ cO ad gh de) (rC_A ad gh s.heap.size) p l e rm11_answer s m args below meth c 0 0 (qx11_answer D cI cZ cO ad gh de below args s M) (f11_answer_63 gh M x1 x2 x3 x4) 63 [some (.ref (ad 0)), some (.int x1), some (.int x2), some (.int (rv_i x3)), some (.ref (ad x4))] [.ref (ad 10)] M := by
  intro res h H locs ls hG hS hl
  unfold f11_answer_63 at h
  have hI := E.1.2.2.1
  by_cases hx4 : rC_is gh 2 x4 = true
  rotate_left
  · rw [if_neg hx4] at h; cases h
  rw [if_pos hx4] at h
  by_cases hok2 : (rC_ok gh && decide (gh.1 1 < 60)) = true
  rotate_left
  · rw [if_neg hok2] at h; cases h
  rw [if_pos hok2] at h
  rw [Bool.and_eq_true, decide_eq_true_eq] at hok2
  obtain ⟨hok, hnb⟩ := hok2
  have hlo := rM_lo hG (i := 1) (by decide)
  have hS0 := hS.1
  have hS : va_S (rM_A ad gh s.heap.size) s.heap H locs := rJ_Sm (fun q h => Or.inl h) hS
  cases h
  show W p l e rm11_answer s m args below meth c H locs 0 0 (vx_MQ below (rM_qi D cI cZ cO ad gh de s.heap.size (nI (gh.1 1 + 1) - 1) _ _) (rC_fx (rM_A ad gh s.heap.size)) args s 2 105 (rM_A ad gh s.heap.size)) _
  refine vx_ret ?_
  have hat4 := rC_at_of hx4
  have hpd : rC_dm gh (gh.2 x4) = true := by
    have h9 := rM_old hat4.1
    have h8 := hat4.2
    have hr : 200 ≤ x4 ∧ x4 < 260 := by
      by_cases c1 : x4 < 53
      · have e : rC_kd x4 = rC_kt.getD x4 0 := by unfold rC_kd; rw [if_pos c1]
        rw [e] at h8
        exact absurd h8 ((show ∀ k, k < 53 → rC_kt.getD k 0 ≠ 100 + 2 by decide) x4 c1)
      · unfold rC_kd at h8
        rw [if_neg c1] at h8
        (repeat' split at h8) <;> omega
    have h7 := List.all_eq_true.mp hok (x4 - 200) (List.mem_range.mpr (by omega))
    rw [show 200 + (x4 - 200) = x4 by omega] at h7
    exact (rC_at_of h7).1
  refine rM_new E (ci2 := 2) (N := 5) (f2 := [.int 0, .int 0, .int 0, .null, .int 0]) rfl wlX1 tyX1_ok (rv_al (rv_t4 (List.mem_of_getElem? (i := 205) rfl)) rfl) (rv_al (rv_t4 (List.mem_of_getElem? (i := 212) rfl)) rfl) (rv_al (rv_t1 (List.mem_of_getElem? (i := 25) rfl)) rfl) (fun j hj => (match j, hj with | 0, _ => rfl | 1, _ => rfl | 2, _ => rfl | 3, _ => rfl | 4, _ => rfl | j + 5, h => absurd h (by omega))) (Nat.le_of_ble_eq_true rfl) (Nat.le_of_ble_eq_true rfl) dX11_answer_63 hS (fun H1 z1 k1 hq1 hS => ?_)
  refine lv_dup E.1.1.1 E.1.1.2.1 dX11_answer_66 rfl ?_
  refine lv_iload_n E.1.1.1 E.1.1.2.1 dX11_answer_67 rfl (hl.2.2 1 _ rfl) ?_
  refine lv_iload_n E.1.1.1 E.1.1.2.1 dX11_answer_68 rfl (hl.2.2 2 _ rfl) ?_
  refine lv_iload_n E.1.1.1 E.1.1.2.1 dX11_answer_69 rfl (hl.2.2 3 _ rfl) ?_
  refine lv_aload E.1.1.1 E.1.1.2.1 dX11_answer_70 (hl.2.2 4 _ rfl) ?_
  refine va_get (D := D) (ci := 2) (C := RX1) (T := TX1) (N := 5) E.1.1.1 E.1.1.2.1 E.1.hts wlX1 E.1.ow E.1.2.1 (rC_atP (C := RX1) (T := TX1) (N := 5) (rC_kept hG k1) hat4) 0 rfl rfl 3 (by decide) (E.1.hts _ wfX11_311) (fun x hx => hx) (rC_fl_get (by decide)) dX11_answer_72 ?_
  show W p l e rm11_answer s m args below meth c H1 locs _ _ _ (F0 m _ ls (.ref (ad (gh.2 x4)) :: _))
  refine rM_ctor E (n := 4) (q9 := H.size) (As := [.int x1, .int x2, .int (rv_i x3), .ref (ad (gh.2 x4))]) (lv := [some (.ref (ad 0)), some (.int x1), some (.int x2), some (.int (rv_i x3)), some (.ref (ad x4))]) (PU := (fun h => va_at D vwCl (H.size, .inr (2, [.int 0, .int 0, .int 0, .null, .int 0])) h)) k9X1 wcX1_init wmX11_296 (rv_al (rv_t1 (List.mem_of_getElem? (i := 25) rfl)) rfl) (rv_al (rv_t4 (List.mem_of_getElem? (i := 214) rfl)) rfl) rfl ⟨rfl, rfl⟩ (by decide +kernel) ⟨Nat.le_of_ble_eq_true rfl, Nat.le_of_ble_eq_true rfl⟩ rfl hl rfl rfl (Nat.le_of_ble_eq_true rfl) ⟨Nat.le_of_ble_eq_true rfl, Nat.le_of_ble_eq_true rfl⟩ dX11_answer_75 hq1 hS (fun q hq => by rw [hq]; exact Or.inl (Or.inr (by omega))) (fun u4 H4 locs4 t4 ht4 hw4 hB4 z4 k4 hS => ?_)
  have hB4 : va_at D vwCl (H.size, .inr (2, k9f_X1 x1 x2 x3 (ad (gh.2 x4)))) t4.heap := hB4
  rw [ht4] at hB4
  have kp5 : ∀ q : Nat, q < H.size → H4[q]? = H[q]? := fun q hq => by
    rw [k4 q (by omega) (by show q ≠ H.size; omega), k1 q hq]
  have hG5 := rC_kept hG kp5
  have hL5 := hG5.2 1 (by decide)
  have hel5 := rC_el_at (i := 1) (by decide) hI hG5
  refine rM_add E hT (i := 1) (x := H.size) (lv := [some (.ref (ad 0)), some (.int x1), some (.int x2), some (.int (rv_i x3)), some (.ref (ad x4))]) (by decide) (by omega) hL5 hel5 (rM_ne hI (by decide)) hB4 ⟨by omega, by omega⟩ (fun r hr => by cases hr; exact hT.2.2.2.2.2.1) ⟨Nat.le_of_ble_eq_true rfl, Nat.le_of_ble_eq_true rfl⟩ hl rfl (Nat.le_of_ble_eq_true rfl) ⟨Nat.le_of_ble_eq_true rfl, Nat.le_of_ble_eq_true rfl⟩ dX11_answer_78 hS (fun cap mc f' e' H6 locs6 z6 k6 B1 B2 w1 w2 w3 w4 w5 w6 w7 hS => ?_)
  have m1 : (rv_w M (200 + gh.1 1) (rv_fs [x1, x2, rv_i x3, 0, 0])) (200 + gh.1 1) = rv_fs [x1, x2, rv_i x3, 0, 0] := rM_w1
  have hpo := rM_old hpd
  have hYY : ∃ yy : Nat, yy = H.size + 1 + e' := ⟨_, rfl⟩
  obtain ⟨yy, hyy⟩ := hYY
  have a1 : rM_ad ad gh 1 H.size yy e' (gh.2 x4) = ad (gh.2 x4) := by
    unfold rM_ad
    rw [if_neg (by omega), if_neg (by show ¬ (gh.2 x4 = 200 + gh.1 1); omega), if_neg (by show ¬ (gh.2 x4 = 300 + gh.1 1); omega)]
  have e1 : rC_ent cI cZ (rM_ad ad gh 1 H.size yy e') (rC_gi gh 1 (gh.2 x4)) (rv_w M (200 + gh.1 1) (rv_fs [x1, x2, rv_i x3, 0, 0])) (200 + gh.1 1) = .inr (2, k9f_X1 x1 x2 x3 (ad (gh.2 x4))) := by
    rw [rM_ent (ci := 2) (rM_kd2 hnb)]
    generalize hMM : (rv_w M (200 + gh.1 1) (rv_fs [x1, x2, rv_i x3, 0, 0])) = MM at m1 ⊢
    show Sum.inr (2, [Value.int (MM (200 + gh.1 1) 0), .int (MM (200 + gh.1 1) 1), .int (rv_i (rv_z (MM (200 + gh.1 1) 2))), .ref (rM_ad ad gh 1 H.size yy e' ((rC_gi gh 1 (gh.2 x4)).2 (200 + gh.1 1))), .int (rv_i (rv_z (MM (200 + gh.1 1) 4)))]) = _
    rw [m1, rC_gi2, if_pos ⟨rfl, rfl⟩, a1]
    show Sum.inr (2, [Value.int x1, .int x2, .int (rv_i (rv_z (rv_i x3))), .ref (ad (gh.2 x4)), .int (rv_i (rv_z 0))]) = _
    rw [rv_z_i]
    rfl
  have hx9 : va_at D vwCl (H.size, .inr (2, k9f_X1 x1 x2 x3 (ad (gh.2 x4)))) H6 := hB4.kept (k6 _ (by show H.size < H4.size; omega) (by show H.size ≠ ad (9 + 1); omega) (fun _ => by show H.size ≠ ad (9 + 1 + 44); omega))
  have w7' : e' = ad (9 + 1 + 44) ∧ 0 < gh.1 1 ∨ H.size ≤ e' := w7.elim Or.inl (fun h => Or.inr (by omega))
  have hE' : H.size ≤ H.size ∧ H.size ≤ yy := ⟨by omega, by omega⟩
  have hne : H.size ≠ e' ∧ yy ≠ e' := by
    rcases w7 with ⟨h1, -⟩ | h1
    · exact ⟨by omega, by omega⟩
    · exact ⟨by omega, by omega⟩
  have g := rM_fin (M' := (rv_w M (200 + gh.1 1) (rv_fs [x1, x2, rv_i x3, 0, 0]))) (i := 1) (pk := gh.2 x4) (x := H.size) (y := yy) (e := e') (sz := s.heap.size) (by decide) hI hok (show gh.1 1 < 60 from hnb) hG hE'.1 hE'.2 (by omega) hS0 (fun _ => Or.inr hpd) (fun q h1 h2 h3 => (k6 q (by omega) h2 h3).trans (kp5 q h1)) (by show va_at D vwCl (_, rC_ent _ _ _ _ _ (200 + gh.1 1)) _; rw [e1]; exact hx9) (fun h => absurd (h rfl) (by omega)) (fun k h1 h2 => rM_w2 (show k ≠ 200 + gh.1 1 from h1)) B1 B2 w1 w2 w3 w4 w5 w6 w7' hne.1 hne.2
  obtain ⟨⟨gG, gI⟩, gs, g0⟩ := g
  refine lv_pop E.1.1.1 E.1.1.2.1 dX11_answer_81 rfl ?_
  have E' := rM_E E gI gs
  have hl : rv_has ls [some (.ref (rM_ad ad gh 1 H.size yy e' 0)), none, none, none, none] := by rw [show rM_ad ad gh 1 H.size yy e' 0 = ad 0 from g0]; exact rv_has_weak hl rfl (rv_mask_sub [some (.ref (ad 0)), some (.int x1), some (.int x2), some (.int (rv_i x3)), some (.ref (ad x4))] [true, false, false, false, false])
  refine (show rv_M (rC_G D cI cZ cO (rM_ad ad gh 1 H.size yy e') (rC_gi gh 1 (gh.2 x4)) de) (rM_A ad gh s.heap.size) p l e rm11_answer s m args below meth c _ _ (fun _ : Unit => MQ below (rM_qi D cI cZ cO ad gh de s.heap.size (nI (gh.1 1 + 1) - 1) _ _) args s 2 105 (rM_A ad gh s.heap.size)) (some ()) 82 [some (.ref (rM_ad ad gh 1 H.size yy e' 0)), none, none, none, none] [] _ from ?_) () rfl H6 locs6 ls gG hS hl
  refine rv_aload_n (q := 83) E'.x dX11_answer_82 rfl rfl ?_
  refine rC_getX11 (q := 86) E' 0 6 wfX11_53 rfl (Nat.le_of_ble_eq_true rfl) ⟨rfl, rfl⟩ rfl dX11_answer_83 rfl ?_
  refine rC_lsz (q := 89) E' 1 (by decide) (cJ_size gI 1) gX11_155 ⟨Nat.le_of_ble_eq_true rfl, Nat.le_of_ble_eq_true rfl⟩ ⟨Nat.le_of_ble_eq_true rfl, Nat.le_of_ble_eq_true rfl⟩ rfl (Nat.le_of_ble_eq_true rfl) dX11_answer_86 rfl ?_
  refine rv_iconst (q := 90) E'.x dX11_answer_89 rv_ki1 rfl ?_
  refine rv_isub (q := 91) E'.x dX11_answer_90 rfl ?_
  intro res h H7 locs7 ls7 hG7 hS7 hl7
  have e9 : nI ((rC_gi gh 1 (gh.2 x4)).1 1) = nI (gh.1 1 + 1) := by rw [rC_gi1, if_pos rfl]
  rw [e9]
  exact W.iret E.1.1.1 E.1.1.2.1 E.1.2.2.2.2.1 (fun t ht hW => ⟨⟨nI (gh.1 1 + 1) - 1, rM_ad ad gh 1 H.size yy e', rfl, ⟨rfl, g0, gI, gs⟩, by show rC_G _ _ _ _ _ _ _ _ t.heap; rw [ht]; exact hG7⟩, hS7.F ht⟩) hS7.2.2 dX11_answer_91 (hlocks := E.1.2.2.2.2.2.1)
set_option maxRecDepth 100000 in
set_option maxHeartbeats 4000000 in
theorem b11_find_93 {p : Program} {l : Launch} {e : Env} {s : State} {m : MethodId} {args : Array Value} {below : List Frame} {meth : Method} {c : Code} {D : va_G} {cI cZ cO : ClassId} {ad : Nat → Nat} {gh : rC_gh} {de : Nat} (E : rC_X D cI cZ cO ad gh RX11 cX11_find 8 (some .int) p l s m args meth c) {mi : Nat} (hT : rM_tk mi de (rM_A ad gh s.heap.size) s) (M : rv_Mem) (x1 : Int32) (x2 : Int32) (x3 : Int32) (x4 : Int32) (x5 : Int32) (x6 : Int32) (x7 : Int32) : rv_M (rC_G D cI cZ cO ad gh de) (rC_A ad gh s.heap.size) p l e rm11_find s m args below meth c 0 0 (qx11_find D cI cZ cO ad gh de below args s M) (f11_find_93 gh M x1 x2 x3 x4 x5 x6 x7) 93 [some (.ref (ad 0)), some (.int x1), some (.int x2), some (.int x3), some (.int x4), some (.int x5), some (.int x6), some (.int x7)] [.ref (ad 11)] M := by
  intro res h H locs ls hG hS hl
  unfold f11_find_93 at h
  have hI := E.1.2.2.1
  by_cases hok2 : (rC_ok gh && decide (gh.1 2 < 40)) = true
  rotate_left
  · rw [if_neg hok2] at h; cases h
  rw [if_pos hok2] at h
  rw [Bool.and_eq_true, decide_eq_true_eq] at hok2
  obtain ⟨hok, hnb⟩ := hok2
  have hlo := rM_lo hG (i := 2) (by decide)
  have hS0 := hS.1
  have hS : va_S (rM_A ad gh s.heap.size) s.heap H locs := rJ_Sm (fun q h => Or.inl h) hS
  cases h
  show W p l e rm11_find s m args below meth c H locs 0 0 (vx_MQ below (rM_qi D cI cZ cO ad gh de s.heap.size (nI (gh.1 2 + 1) - 1) _ _) (rC_fx (rM_A ad gh s.heap.size)) args s 3 108 (rM_A ad gh s.heap.size)) _
  refine vx_ret ?_
  refine rM_new E (ci2 := 5) (N := 3) (f2 := [.int 0, .int 0, .null]) rfl wlX4 tyX4_ok (rv_al (rv_t5 (List.mem_of_getElem? (i := 15) rfl)) rfl) (rv_al (rv_t6 (List.mem_of_getElem? (i := 209) rfl)) rfl) (rv_al (rv_t1 (List.mem_of_getElem? (i := 28) rfl)) rfl) (fun j hj => (match j, hj with | 0, _ => rfl | 1, _ => rfl | 2, _ => rfl | j + 3, h => absurd h (by omega))) (Nat.le_of_ble_eq_true rfl) (Nat.le_of_ble_eq_true rfl) dX11_find_93 hS (fun H1 z1 k1 hq1 hS => ?_)
  refine lv_dup E.1.1.1 E.1.1.2.1 dX11_find_96 rfl ?_
  refine lv_iload E.1.1.1 E.1.1.2.1 dX11_find_97 (hl.2.2 7 _ rfl) ?_
  refine lv_iload E.1.1.1 E.1.1.2.1 dX11_find_99 (hl.2.2 6 _ rfl) ?_
  refine rM_new E (ci2 := 8) (N := 5) (f2 := [.int 0, .int 0, .int 0, .int 0, .int 0]) rfl wlX7 tyX7_ok (rv_al (rv_t6 (List.mem_of_getElem? (i := 23) rfl)) rfl) (rv_al (rv_t6 (List.mem_of_getElem? (i := 24) rfl)) rfl) (rv_al (rv_t1 (List.mem_of_getElem? (i := 27) rfl)) rfl) (fun j hj => (match j, hj with | 0, _ => rfl | 1, _ => rfl | 2, _ => rfl | 3, _ => rfl | 4, _ => rfl | j + 5, h => absurd h (by omega))) (Nat.le_of_ble_eq_true rfl) (Nat.le_of_ble_eq_true rfl) dX11_find_101 hS (fun H2 z2 k2 hq2 hS => ?_)
  refine lv_dup E.1.1.1 E.1.1.2.1 dX11_find_104 rfl ?_
  refine lv_iload_n E.1.1.1 E.1.1.2.1 dX11_find_105 rfl (hl.2.2 1 _ rfl) ?_
  refine lv_iload_n E.1.1.1 E.1.1.2.1 dX11_find_106 rfl (hl.2.2 2 _ rfl) ?_
  refine lv_iload_n E.1.1.1 E.1.1.2.1 dX11_find_107 rfl (hl.2.2 3 _ rfl) ?_
  refine lv_iload E.1.1.1 E.1.1.2.1 dX11_find_108 (hl.2.2 4 _ rfl) ?_
  refine lv_iload E.1.1.1 E.1.1.2.1 dX11_find_110 (hl.2.2 5 _ rfl) ?_
  refine rM_ctor E (n := 5) (q9 := H1.size) (As := [.int x1, .int x2, .int x3, .int x4, .int x5]) (lv := [some (.ref (ad 0)), some (.int x1), some (.int x2), some (.int x3), some (.int x4), some (.int x5), some (.int x6), some (.int x7)]) (PU := (fun h => va_at D vwCl (H1.size, .inr (8, [.int 0, .int 0, .int 0, .int 0, .int 0])) h)) k9X7 wcX7_init wmX11_293 (rv_al (rv_t1 (List.mem_of_getElem? (i := 27) rfl)) rfl) (rv_al (rv_t6 (List.mem_of_getElem? (i := 26) rfl)) rfl) rfl ⟨rfl, rfl⟩ (by decide +kernel) ⟨Nat.le_of_ble_eq_true rfl, Nat.le_of_ble_eq_true rfl⟩ rfl hl rfl rfl (Nat.le_of_ble_eq_true rfl) ⟨Nat.le_of_ble_eq_true rfl, Nat.le_of_ble_eq_true rfl⟩ dX11_find_112 hq2 hS (fun q hq => by rw [hq]; exact Or.inl (Or.inr (by omega))) (fun u3 H3 locs3 t3 ht3 hw3 hB3 z3 k3 hS => ?_)
  have hB3 : va_at D vwCl (H1.size, .inr (8, k9f_X7 x1 x2 x3 x4 x5)) t3.heap := hB3
  rw [ht3] at hB3
  have hq1b : va_at D vwCl (H.size, .inr (5, [.int 0, .int 0, .null])) H3 := (hq1.kept (k2 _ (by show H.size < H1.size; omega))).kept (k3 _ (by show H.size < H2.size; omega) (by show H.size ≠ H1.size; omega))
  refine rM_ctor E (n := 3) (q9 := H.size) (As := [.int x7, .int x6, .ref H1.size]) (lv := [some (.ref (ad 0)), some (.int x1), some (.int x2), some (.int x3), some (.int x4), some (.int x5), some (.int x6), some (.int x7)]) (PU := (fun h => va_at D vwCl (H.size, .inr (5, [.int 0, .int 0, .null])) h)) k9X4 wcX4_init wmX11_365 (rv_al (rv_t1 (List.mem_of_getElem? (i := 28) rfl)) rfl) (rv_al (rv_t6 (List.mem_of_getElem? (i := 211) rfl)) rfl) rfl ⟨rfl, rfl⟩ (by decide +kernel) ⟨Nat.le_of_ble_eq_true rfl, Nat.le_of_ble_eq_true rfl⟩ rfl hl rfl rfl (Nat.le_of_ble_eq_true rfl) ⟨Nat.le_of_ble_eq_true rfl, Nat.le_of_ble_eq_true rfl⟩ dX11_find_115 hq1b hS (fun q hq => by rw [hq]; exact Or.inl (Or.inr (by omega))) (fun u4 H4 locs4 t4 ht4 hw4 hB4 z4 k4 hS => ?_)
  have hB4 : va_at D vwCl (H.size, .inr (5, k9f_X4 x7 x6 H1.size)) t4.heap := hB4
  rw [ht4] at hB4
  have hpl : va_at D vwCl (H1.size, .inr (8, k9f_X7 x1 x2 x3 x4 x5)) H4 := hB3.kept (k4 _ (by show H1.size < H3.size; omega) (by show H1.size ≠ H.size; omega))
  have kp5 : ∀ q : Nat, q < H.size → H4[q]? = H[q]? := fun q hq => by
    rw [k4 q (by omega) (by show q ≠ H.size; omega), k3 q (by omega) (by show q ≠ H1.size; omega), k2 q (by omega), k1 q hq]
  have hG5 := rC_kept hG kp5
  have hL5 := hG5.2 2 (by decide)
  have hel5 := rC_el_at (i := 2) (by decide) hI hG5
  refine rM_add E hT (i := 2) (x := H.size) (lv := [some (.ref (ad 0)), some (.int x1), some (.int x2), some (.int x3), some (.int x4), some (.int x5), some (.int x6), some (.int x7)]) (by decide) (by omega) hL5 hel5 (rM_ne hI (by decide)) hB4 ⟨by omega, by omega⟩ (fun r hr => by cases hr; exact hT.2.2.2.2.2.2) ⟨Nat.le_of_ble_eq_true rfl, Nat.le_of_ble_eq_true rfl⟩ hl rfl (Nat.le_of_ble_eq_true rfl) ⟨Nat.le_of_ble_eq_true rfl, Nat.le_of_ble_eq_true rfl⟩ dX11_find_118 hS (fun cap mc f' e' H6 locs6 z6 k6 B1 B2 w1 w2 w3 w4 w5 w6 w7 hS => ?_)
  have m1 : (rv_w (rv_w M (400 + gh.1 2) (rv_fs [x7, x6, 0])) (500 + gh.1 2) (rv_fs [x1, x2, x3, x4, x5])) (400 + gh.1 2) = rv_fs [x7, x6, 0] := by rw [rM_w2 (by omega), rM_w1]
  have m2 : (rv_w (rv_w M (400 + gh.1 2) (rv_fs [x7, x6, 0])) (500 + gh.1 2) (rv_fs [x1, x2, x3, x4, x5])) (500 + gh.1 2) = rv_fs [x1, x2, x3, x4, x5] := rM_w1
  have a1 : rM_ad ad gh 2 H.size H1.size e' (400 + gh.1 2 + 100) = H1.size := by
    rw [show 400 + gh.1 2 + 100 = 500 + gh.1 2 by omega]
    unfold rM_ad
    rw [if_neg (by omega), if_neg (by show ¬ (500 + gh.1 2 = 400 + gh.1 2); omega), if_pos (show 500 + gh.1 2 = rM_k2 2 + gh.1 2 from rfl)]
  have e1 : rC_ent cI cZ (rM_ad ad gh 2 H.size H1.size e') (rC_gi gh 2 0) (rv_w (rv_w M (400 + gh.1 2) (rv_fs [x7, x6, 0])) (500 + gh.1 2) (rv_fs [x1, x2, x3, x4, x5])) (400 + gh.1 2) = .inr (5, k9f_X4 x7 x6 H1.size) := by
    rw [rM_ent (ci := 5) (rM_kd4 hnb)]
    generalize hMM : (rv_w (rv_w M (400 + gh.1 2) (rv_fs [x7, x6, 0])) (500 + gh.1 2) (rv_fs [x1, x2, x3, x4, x5])) = MM at m1 m2 ⊢
    show Sum.inr (5, [Value.int (MM (400 + gh.1 2) 0), .int (MM (400 + gh.1 2) 1), .ref (rM_ad ad gh 2 H.size H1.size e' (400 + gh.1 2 + 100))]) = _
    rw [m1, a1]
    rfl
  have e2 : rC_ent cI cZ (rM_ad ad gh 2 H.size H1.size e') (rC_gi gh 2 0) (rv_w (rv_w M (400 + gh.1 2) (rv_fs [x7, x6, 0])) (500 + gh.1 2) (rv_fs [x1, x2, x3, x4, x5])) (500 + gh.1 2) = .inr (8, k9f_X7 x1 x2 x3 x4 x5) := by
    rw [rM_ent (ci := 8) (rM_kd5 hnb)]
    generalize hMM : (rv_w (rv_w M (400 + gh.1 2) (rv_fs [x7, x6, 0])) (500 + gh.1 2) (rv_fs [x1, x2, x3, x4, x5])) = MM at m1 m2 ⊢
    show Sum.inr (8, [Value.int (MM (500 + gh.1 2) 0), .int (MM (500 + gh.1 2) 1), .int (MM (500 + gh.1 2) 2), .int (MM (500 + gh.1 2) 3), .int (MM (500 + gh.1 2) 4)]) = _
    rw [m2]
    rfl
  have hx9 : va_at D vwCl (H.size, .inr (5, k9f_X4 x7 x6 H1.size)) H6 := hB4.kept (k6 _ (by show H.size < H4.size; omega) (by show H.size ≠ ad (9 + 2); omega) (fun _ => by show H.size ≠ ad (9 + 2 + 44); omega))
  have hy9 : va_at D vwCl (H1.size, .inr (8, k9f_X7 x1 x2 x3 x4 x5)) H6 := hpl.kept (k6 _ (by show H1.size < H4.size; omega) (by show H1.size ≠ ad (9 + 2); omega) (fun _ => by show H1.size ≠ ad (9 + 2 + 44); omega))
  have w7' : e' = ad (9 + 2 + 44) ∧ 0 < gh.1 2 ∨ H.size ≤ e' := w7.elim Or.inl (fun h => Or.inr (by omega))
  have hE' : H.size ≤ H.size ∧ H.size ≤ H1.size := ⟨by omega, by omega⟩
  have hne : H.size ≠ e' ∧ H1.size ≠ e' := by
    rcases w7 with ⟨h1, -⟩ | h1
    · exact ⟨by omega, by omega⟩
    · exact ⟨by omega, by omega⟩
  have g := rM_fin (M' := (rv_w (rv_w M (400 + gh.1 2) (rv_fs [x7, x6, 0])) (500 + gh.1 2) (rv_fs [x1, x2, x3, x4, x5]))) (i := 2) (pk := 0) (x := H.size) (y := H1.size) (e := e') (sz := s.heap.size) (by decide) hI hok (show gh.1 2 < 40 from hnb) hG hE'.1 hE'.2 (by omega) hS0 (fun h => absurd h (by decide)) (fun q h1 h2 h3 => (k6 q (by omega) h2 h3).trans (kp5 q h1)) (by show va_at D vwCl (_, rC_ent _ _ _ _ _ (400 + gh.1 2)) _; rw [e1]; exact hx9) (fun _ => by show va_at D vwCl (_, rC_ent _ _ _ _ _ (500 + gh.1 2)) _; rw [e2]; exact hy9) (fun k h1 h2 => by rw [rM_w2 (show k ≠ 500 + gh.1 2 from h2), rM_w2 (show k ≠ 400 + gh.1 2 from h1)]) B1 B2 w1 w2 w3 w4 w5 w6 w7' hne.1 hne.2
  obtain ⟨⟨gG, gI⟩, gs, g0⟩ := g
  refine lv_pop E.1.1.1 E.1.1.2.1 dX11_find_121 rfl ?_
  have E' := rM_E E gI gs
  have hl : rv_has ls [some (.ref (rM_ad ad gh 2 H.size H1.size e' 0)), none, none, none, none, none, none, none] := by rw [show rM_ad ad gh 2 H.size H1.size e' 0 = ad 0 from g0]; exact rv_has_weak hl rfl (rv_mask_sub [some (.ref (ad 0)), some (.int x1), some (.int x2), some (.int x3), some (.int x4), some (.int x5), some (.int x6), some (.int x7)] [true, false, false, false, false, false, false, false])
  refine (show rv_M (rC_G D cI cZ cO (rM_ad ad gh 2 H.size H1.size e') (rC_gi gh 2 (0)) de) (rM_A ad gh s.heap.size) p l e rm11_find s m args below meth c _ _ (fun _ : Unit => MQ below (rM_qi D cI cZ cO ad gh de s.heap.size (nI (gh.1 2 + 1) - 1) _ _) args s 3 108 (rM_A ad gh s.heap.size)) (some ()) 122 [some (.ref (rM_ad ad gh 2 H.size H1.size e' 0)), none, none, none, none, none, none, none] [] _ from ?_) () rfl H6 locs6 ls gG hS hl
  refine rv_aload_n (q := 123) E'.x dX11_find_122 rfl rfl ?_
  refine rC_getX11 (q := 126) E' 0 7 wfX11_56 rfl (Nat.le_of_ble_eq_true rfl) ⟨rfl, rfl⟩ rfl dX11_find_123 rfl ?_
  refine rC_lsz (q := 129) E' 2 (by decide) (cJ_size gI 2) gX11_155 ⟨Nat.le_of_ble_eq_true rfl, Nat.le_of_ble_eq_true rfl⟩ ⟨Nat.le_of_ble_eq_true rfl, Nat.le_of_ble_eq_true rfl⟩ rfl (Nat.le_of_ble_eq_true rfl) dX11_find_126 rfl ?_
  refine rv_iconst (q := 130) E'.x dX11_find_129 rv_ki1 rfl ?_
  refine rv_isub (q := 131) E'.x dX11_find_130 rfl ?_
  intro res h H7 locs7 ls7 hG7 hS7 hl7
  have e9 : nI ((rC_gi gh 2 (0)).1 2) = nI (gh.1 2 + 1) := by rw [rC_gi1, if_pos rfl]
  rw [e9]
  exact W.iret E.1.1.1 E.1.1.2.1 E.1.2.2.2.2.1 (fun t ht hW => ⟨⟨nI (gh.1 2 + 1) - 1, rM_ad ad gh 2 H.size H1.size e', rfl, ⟨rfl, g0, gI, gs⟩, by show rC_G _ _ _ _ _ _ _ _ t.heap; rw [ht]; exact hG7⟩, hS7.F ht⟩) hS7.2.2 dX11_find_131 (hlocks := E.1.2.2.2.2.2.1)
set_option maxRecDepth 100000 in
set_option maxHeartbeats 4000000 in
theorem b11_open_46 {p : Program} {l : Launch} {e : Env} {s : State} {m : MethodId} {args : Array Value} {below : List Frame} {meth : Method} {c : Code} {D : va_G} {cI cZ cO : ClassId} {ad : Nat → Nat} {gh : rC_gh} {de : Nat} (E : rC_X D cI cZ cO ad gh RX11 cX11_open 4 (some .int) p l s m args meth c) {mi : Nat} (hT : rM_tk mi de (rM_A ad gh s.heap.size) s) (M : rv_Mem) (x1 : Int32) (x2 : Int32) : rv_M (rC_G D cI cZ cO ad gh de) (rC_A ad gh s.heap.size) p l e rm11_open s m args below meth c 0 0 (qx11_open D cI cZ cO ad gh de below args s M) (f11_open_46 gh M x1 x2) 46 [some (.ref (ad 0)), some (.int x1), some (.int x2), none] [] M := by
  intro res h H locs ls hG hS hl
  unfold f11_open_46 at h
  have hI := E.1.2.2.1
  by_cases hok2 : (rC_ok gh && decide (gh.1 0 < 20)) = true
  rotate_left
  · rw [if_neg hok2] at h; cases h
  rw [if_pos hok2] at h
  rw [Bool.and_eq_true, decide_eq_true_eq] at hok2
  obtain ⟨hok, hnb⟩ := hok2
  have hlo := rM_lo hG (i := 0) (by decide)
  have hS0 := hS.1
  have hS : va_S (rM_A ad gh s.heap.size) s.heap H locs := rJ_Sm (fun q h => Or.inl h) hS
  cases hr5 : f9_repositoryOf gh M x2 with
  | none => rw [hr5] at h; cases h
  | some r5 =>
  rw [hr5] at h
  change rv_o2 (f11_addSet (rC_gi gh 0 0) (rM_nC gh M x1 (nI (gh.1 0)) r5) x1 (100 + gh.1 0) 80 x2) (fun _ M3 => some (.inl (M3 (100 + gh.1 0) 0, rC_gi gh 0 0, M3))) = some res at h
  cases hr6 : f11_addSet (rC_gi gh 0 0) (rM_nC gh M x1 (nI (gh.1 0)) r5) x1 (100 + gh.1 0) 80 x2 with
  | none => rw [hr6] at h; cases h
  | some w6 =>
  obtain ⟨r6, M6⟩ := w6
  rw [hr6] at h
  cases h
  show W p l e rm11_open s m args below meth c H locs 0 0 (vx_MQ below (rM_qi D cI cZ cO ad gh de s.heap.size (M6 (100 + gh.1 0) 0) (rC_gi gh 0 0) M6) (rC_fx (rM_A ad gh s.heap.size)) args s 3 193 (rM_A ad gh s.heap.size)) _
  refine vx_ret ?_
  refine rM_new E (ci2 := 1) (N := 13) (f2 := [.int 0, .int 0, .int 0, .null, .int 0, .int 0, .int 0, .int 0, .int 0, .int 0, .int 0, .int 0, .int 0]) rfl wlX0 tyX0_ok (rv_al (rv_t2 (List.mem_of_getElem? (i := 189) rfl)) rfl) (rv_al (rv_t3 (List.mem_of_getElem? (i := 138) rfl)) rfl) (rv_al (rv_t1 (List.mem_of_getElem? (i := 21) rfl)) rfl) (fun j hj => (match j, hj with | 0, _ => rfl | 1, _ => rfl | 2, _ => rfl | 3, _ => rfl | 4, _ => rfl | 5, _ => rfl | 6, _ => rfl | 7, _ => rfl | 8, _ => rfl | 9, _ => rfl | 10, _ => rfl | 11, _ => rfl | 12, _ => rfl | j + 13, h => absurd h (by omega))) (Nat.le_of_ble_eq_true rfl) (Nat.le_of_ble_eq_true rfl) dX11_open_46 hS (fun H1 z1 k1 hq1 hS => ?_)
  refine lv_dup E.1.1.1 E.1.1.2.1 dX11_open_49 rfl ?_
  refine lv_aload_n E.1.1.1 E.1.1.2.1 dX11_open_50 rfl (hl.2.2 0 _ rfl) ?_
  have hG1 := rC_kept hG k1
  refine va_get (D := D) (ci := 12) (C := RX11) (T := TX11) (N := 12) E.1.1.1 E.1.1.2.1 E.1.hts wlX11 E.1.ow E.1.2.1 (rC_atP (C := RX11) (T := TX11) (N := 12) hG1 (k := 0) ⟨rfl, rfl⟩) 0 rfl rfl 5 (by decide) (E.1.hts _ wfX11_49) (fun x hx => hx) (rC_fl_get (by decide)) dX11_open_51 ?_
  show W p l e rm11_open s m args below meth c H1 locs _ _ _ (F0 m _ ls (.ref (ad 9) :: _))
  obtain ⟨cap9, mc9, f9, hL9, -⟩ := hG1.2 0 (by decide)
  have hP9 : va_P D vwCl [(ad (9 + 0), .inr (0, [.int mc9, .ref (ad (9 + 0 + 44)), .int (nI (gh.1 0))]))] H1 := fun j z hz => by
    match j, hz with
    | 0, hz => cases hz; exact hL9
    | j + 1, hz => simp at hz
  refine va_calli (va_runV (C := RJx4a65c) (b := ad 9) (As := []) (rest := [.ref H.size, .ref H.size]) E.1.1 (cJ_size (D := D) (cI := cI) (cZ := cZ) (cO := cO) (ad := ad) (de := de) (M := M) hI 0) (cwV 0 E.1.hts gX11_155 rfl rfl rfl (by decide +kernel) ⟨Nat.le_of_ble_eq_true rfl, Nat.le_of_ble_eq_true rfl⟩) ⟨rC_blind, va_recv E.1.2.1 hP9 (ci := 0) (q0 := 0) rfl rfl, fun U hU hW => ⟨rfl, by rw [hU]; exact hG1, va_K.moved hW.alike E.1.2.1, E.1.2.2.2.2.2.2.warm hW⟩⟩ rfl rfl hl.1 rfl (Nat.le_of_ble_eq_true rfl) dX11_open_54 ⟨Nat.le_of_ble_eq_true rfl, Nat.le_of_ble_eq_true rfl⟩) hS (fun q _ hq => Or.inl (Or.inl hq)) (fun q hq => Or.inl (Or.inl hq)) (fun r8 u8 t8 H1b locs1b ht8 hvm8 hw8 hB8 z1b k1b hS => ?_)
  obtain ⟨e8, e8b⟩ := hw8
  rw [ht8, e8b] at hB8
  subst e8
  refine lv_iload_n E.1.1.1 E.1.1.2.1 dX11_open_57 rfl (hl.2.2 1 _ rfl) ?_
  refine lv_aload_n E.1.1.1 E.1.1.2.1 dX11_open_58 rfl (hl.2.2 0 _ rfl) ?_
  refine va_get (D := D) (ci := 12) (C := RX11) (T := TX11) (N := 12) E.1.1.1 E.1.1.2.1 E.1.hts wlX11 E.1.ow E.1.2.1 (rC_atP (C := RX11) (T := TX11) (N := 12) hB8 (k := 0) ⟨rfl, rfl⟩) 0 rfl rfl 0 (by decide) (E.1.hts _ wfX11_10) (fun x hx => hx) (rC_fl_get (by decide)) dX11_open_59 ?_
  show W p l e rm11_open s m args below meth c H1b locs1b _ _ _ (F0 m _ ls (.ref (ad 1) :: _))
  refine lv_iload_n E.1.1.1 E.1.1.2.1 dX11_open_62 rfl (hl.2.2 2 _ rfl) ?_
  refine va_calli (va_runV (C := RX9) (b := ad 1) (As := [.int x2]) (rest := [.int x1, .int (nI (gh.1 0)), .ref H.size, .ref H.size]) E.1.1 (c9_repositoryOf (D := D) (cI := cI) (cZ := cZ) (cO := cO) (ad := ad) (de := de) hI hr5) (cwV 1 E.1.hts gX11_167 rfl rfl rfl hX9_repositoryOf ⟨Nat.le_of_ble_eq_true rfl, Nat.le_of_ble_eq_true rfl⟩) ⟨rC_blind, rC_recv E.1 (ci := 10) (k := 1) rfl ⟨rfl, rfl⟩ hB8, fun U hU hW => ⟨rfl, by rw [hU]; exact hB8, va_K.moved hW.alike E.1.2.1, E.1.2.2.2.2.2.2.warm hW⟩⟩ rfl rfl hl.1 rfl (Nat.le_of_ble_eq_true rfl) dX11_open_63 ⟨Nat.le_of_ble_eq_true rfl, Nat.le_of_ble_eq_true rfl⟩) hS (fun q _ hq => Or.inl (Or.inl hq)) (fun q hq => Or.inl (Or.inl hq)) (fun r9 u9 t9 H2 locs2 ht9 hvm9 hw9 hB9 z2 k2 hS => ?_)
  obtain ⟨rfl, rfl⟩ := hw9
  rw [ht9] at hB9
  have knK : ∀ q, H.size ≤ q → ¬ rC_K ad gh q := fun q hq h9 => by
    obtain ⟨k, hk, rfl⟩ := h9
    have h8 := (hG.1 k hk).lt
    exact absurd (show ad k < H.size from h8) (by omega)
  have hq1b : va_at D vwCl (H.size, .inr (1, [.int 0, .int 0, .int 0, .null, .int 0, .int 0, .int 0, .int 0, .int 0, .int 0, .int 0, .int 0, .int 0])) H2 := (hq1.kept (k1b _ (by show H.size < H1.size; omega) (knK _ (Nat.le_refl _)))).kept (k2 _ (by show H.size < H1b.size; omega) (knK _ (Nat.le_refl _)))
  refine rM_ctor E (n := 3) (q9 := H.size) (As := [.int (nI (gh.1 0)), .int x1, .int r9]) (lv := [some (.ref (ad 0)), some (.int x1), some (.int x2), none]) (PU := (fun h => h.size = H2.size ∧ H.size < H2.size ∧ va_at D vwCl (H.size, .inr (1, [.int 0, .int 0, .int 0, .null, .int 0, .int 0, .int 0, .int 0, .int 0, .int 0, .int 0, .int 0, .int 0])) h)) (k9X0 (sz := H2.size)) wcX0_init wmX11_170 (rv_al (rv_t1 (List.mem_of_getElem? (i := 21) rfl)) rfl) (rv_al (rv_t3 (List.mem_of_getElem? (i := 141) rfl)) rfl) rfl ⟨rfl, rfl⟩ (by decide +kernel) ⟨Nat.le_of_ble_eq_true rfl, Nat.le_of_ble_eq_true rfl⟩ rfl hl rfl rfl (Nat.le_of_ble_eq_true rfl) ⟨Nat.le_of_ble_eq_true rfl, Nat.le_of_ble_eq_true rfl⟩ dX11_open_66 ⟨rfl, by omega, hq1b⟩ hS (fun q hq => hq.elim (fun h => by rw [h]; exact Or.inl (Or.inr (by omega))) (fun h => Or.inl (Or.inr (by omega)))) (fun qa H4 locs4 t4 ht4 hw4 hB4 z4 k4 hS => ?_)
  obtain ⟨hB4, hB4b⟩ : va_at D vwCl (H.size, .inr (1, k9f_X0 (nI (gh.1 0)) x1 r9 qa)) t4.heap ∧ va_at D vwCl (qa, .inl (cI, 80, .inl (fun _ => 0))) t4.heap := hB4
  rw [ht4] at hB4 hB4b
  have hqa : H2.size ≤ qa := hw4
  have hqb : qa < H4.size := hB4b.lt
  have hG4 : rC_G D cI cZ cO ad gh de u9 H4 := by
    have kk4 : ∀ q : Nat, q < H.size → H4[q]? = H2[q]? := fun q hq => k4 q (by omega) (fun h9 => by rcases h9 with h9 | h9 <;> omega)
    refine ⟨fun k hk => (hB9.1 k hk).kept (kk4 _ (hG.1 k hk).lt), fun i hi => ?_⟩
    obtain ⟨cap, mc, f, h1, h2, h3⟩ := hB9.2 i hi
    obtain ⟨q1, q2⟩ := rM_lo hG hi
    exact ⟨cap, mc, f, h1.kept (kk4 _ q1), h2.kept (kk4 _ q2), h3⟩
  refine lv_astore_n E.1.1.1 E.1.1.2.1 dX11_open_69 rfl (rv_has_k hl) (Nat.le_of_ble_eq_true rfl) rfl (fun ls hl9 => ?_)
  have hl : rv_has ls [some (.ref (ad 0)), some (.int x1), some (.int x2), some (.ref H.size)] := rv_has_set (lv := [some (.ref (ad 0)), some (.int x1), some (.int x2), none]) (i := 3) (w := .ref H.size) (Nat.le_of_ble_eq_true rfl) rfl hl9
  refine lv_aload_n E.1.1.1 E.1.1.2.1 dX11_open_70 rfl (hl.2.2 0 _ rfl) ?_
  refine va_get (D := D) (ci := 12) (C := RX11) (T := TX11) (N := 12) E.1.1.1 E.1.1.2.1 E.1.hts wlX11 E.1.ow E.1.2.1 (rC_atP (C := RX11) (T := TX11) (N := 12) hG4 (k := 0) ⟨rfl, rfl⟩) 0 rfl rfl 5 (by decide) (E.1.hts _ wfX11_49) (fun x hx => hx) (rC_fl_get (by decide)) dX11_open_71 ?_
  show W p l e rm11_open s m args below meth c H4 locs4 _ _ _ (F0 m _ ls (.ref (ad 9) :: _))
  refine lv_aload_n E.1.1.1 E.1.1.2.1 dX11_open_74 rfl (hl.2.2 3 _ rfl) ?_
  have hG5 := hG4
  have hL5 := hG5.2 0 (by decide)
  have hel5 := rC_el_at (i := 0) (by decide) hI hG5
  refine rM_add E hT (i := 0) (x := H.size) (lv := [some (.ref (ad 0)), some (.int x1), some (.int x2), some (.ref H.size)]) (by decide) (by omega) hL5 hel5 (rM_ne hI (by decide)) hB4 ⟨by omega, by omega⟩ (fun r hr => by cases hr; exact hT.2.2.2.2.1) ⟨Nat.le_of_ble_eq_true rfl, Nat.le_of_ble_eq_true rfl⟩ hl rfl (Nat.le_of_ble_eq_true rfl) ⟨Nat.le_of_ble_eq_true rfl, Nat.le_of_ble_eq_true rfl⟩ dX11_open_75 hS (fun cap mc f' e' H6 locs6 z6 k6 B1 B2 w1 w2 w3 w4 w5 w6 w7 hS => ?_)
  have m1 : (rM_nC gh u9 x1 (nI (gh.1 0)) r9) (100 + gh.1 0) = rv_fs [(nI (gh.1 0)), x1, r9, 0, 0, 0, 0, 0, -1, 0, 0, 0, -1] := by unfold rM_nC; rw [rM_w2 (by omega), rM_w1]
  have m2 : (rM_nC gh u9 x1 (nI (gh.1 0)) r9) (120 + gh.1 0) = fun _ => 0 := rM_w1
  have a1 : rM_ad ad gh 0 H.size qa e' (100 + gh.1 0 + 20) = qa := by
    rw [show 100 + gh.1 0 + 20 = 120 + gh.1 0 by omega]
    unfold rM_ad
    rw [if_neg (by omega), if_neg (by show ¬ (120 + gh.1 0 = 100 + gh.1 0); omega), if_pos (show 120 + gh.1 0 = rM_k2 0 + gh.1 0 from rfl)]
  have e1 : rC_ent cI cZ (rM_ad ad gh 0 H.size qa e') (rC_gi gh 0 0) (rM_nC gh u9 x1 (nI (gh.1 0)) r9) (100 + gh.1 0) = .inr (1, k9f_X0 (nI (gh.1 0)) x1 r9 qa) := by
    rw [rM_ent (ci := 1) (rM_kd1 hnb)]
    generalize hMM : (rM_nC gh u9 x1 (nI (gh.1 0)) r9) = MM at m1 m2 ⊢
    show Sum.inr (1, [Value.int (MM (100 + gh.1 0) 0), .int (MM (100 + gh.1 0) 1), .int (MM (100 + gh.1 0) 2), .ref (rM_ad ad gh 0 H.size qa e' (100 + gh.1 0 + 20)), .int (MM (100 + gh.1 0) 4), .int (MM (100 + gh.1 0) 5), .int (rv_i (rv_z (MM (100 + gh.1 0) 6))), .int (rv_i (rv_z (MM (100 + gh.1 0) 7))), .int (MM (100 + gh.1 0) 8), .int (MM (100 + gh.1 0) 9), .int (MM (100 + gh.1 0) 10), .int (MM (100 + gh.1 0) 11), .int (MM (100 + gh.1 0) 12)]) = _
    rw [m1, a1]
    rfl
  have e2 : rC_ent cI cZ (rM_ad ad gh 0 H.size qa e') (rC_gi gh 0 0) (rM_nC gh u9 x1 (nI (gh.1 0)) r9) (120 + gh.1 0) = .inl (cI, 80, .inl (fun _ => 0)) := by
    unfold rC_ent
    rw [rM_kd12 hnb, if_neg (by decide), if_neg (by decide), m2]
    have e9 : rC_ln (120 + gh.1 0) = 80 := by unfold rC_ln; rw [if_neg (by omega)]
    rw [e9]
  have hx9 : va_at D vwCl (H.size, .inr (1, k9f_X0 (nI (gh.1 0)) x1 r9 qa)) H6 := hB4.kept (k6 _ (by show H.size < H4.size; omega) (by show H.size ≠ ad (9 + 0); omega) (fun _ => by show H.size ≠ ad (9 + 0 + 44); omega))
  have hy9 : va_at D vwCl (qa, .inl (cI, 80, .inl (fun _ => 0))) H6 := hB4b.kept (k6 _ (by show qa < H4.size; omega) (by show qa ≠ ad (9 + 0); omega) (fun _ => by show qa ≠ ad (9 + 0 + 44); omega))
  have hqlt := hB4b.lt
  -- a heap of just the old cells
  have hcut : ∃ Hc : Heap, Hc.size = H.size ∧ ∀ q : Nat, q < H.size → Hc[q]? = H4[q]? := ⟨H4.extract 0 H.size, by rw [Array.size_extract]; omega, fun q hq => by rw [Array.getElem?_extract]; simp; omega⟩
  obtain ⟨Hc, hcs, hck⟩ := hcut
  have hGc : rC_G D cI cZ cO ad gh de u9 Hc := by
    refine ⟨fun k hk => (hG4.1 k hk).kept (hck _ (hG.1 k hk).lt), fun i hi => ?_⟩
    obtain ⟨cap, mc, f, h1, h2, h3⟩ := hG4.2 i hi
    obtain ⟨q1, q2⟩ := rM_lo hG hi
    exact ⟨cap, mc, f, h1.kept (hck _ q1), h2.kept (hck _ q2), h3⟩
  have hkc : ∀ q : Nat, q < Hc.size → q ≠ ad (9 + 0) → (0 < gh.1 0 → q ≠ ad (9 + 0 + 44)) → H6[q]? = Hc[q]? := fun q h1 h2 h3 => by
    rw [hcs] at h1
    rw [hck q h1]
    exact k6 q (by omega) h2 h3
  have w7' : e' = ad (9 + 0 + 44) ∧ 0 < gh.1 0 ∨ H.size ≤ e' := w7.elim Or.inl (fun h => Or.inr (by omega))
  have hE' : H.size ≤ H.size ∧ H.size ≤ qa := ⟨by omega, by omega⟩
  have hne : H.size ≠ e' ∧ qa ≠ e' := by
    rcases w7 with ⟨h1, -⟩ | h1
    · exact ⟨by omega, by omega⟩
    · exact ⟨by omega, by omega⟩
  have g := rM_fin (M' := (rM_nC gh u9 x1 (nI (gh.1 0)) r9)) (i := 0) (pk := 0) (x := H.size) (y := qa) (e := e') (sz := s.heap.size) (by decide) hI hok (show gh.1 0 < 20 from hnb) hGc (by rw [hcs]; exact hE'.1) (by rw [hcs]; exact hE'.2) (by omega) (by rw [hcs]; exact hS0) (fun h => absurd h (by decide)) (fun q h1 h2 h3 => hkc q h1 h2 h3) (by show va_at D vwCl (_, rC_ent _ _ _ _ _ (100 + gh.1 0)) _; rw [e1]; exact hx9) (fun _ => by show va_at D vwCl (_, rC_ent _ _ _ _ _ (120 + gh.1 0)) _; rw [e2]; exact hy9) (fun k h1 h2 => by unfold rM_nC; rw [rM_w2 (show k ≠ 120 + gh.1 0 from h2), rM_w2 (show k ≠ 100 + gh.1 0 from h1)]) B1 B2 w1 w2 w3 w4 w5 w6 (by rw [hcs]; exact w7') hne.1 hne.2
  obtain ⟨⟨gG, gI⟩, gs, g0⟩ := g
  refine lv_pop E.1.1.1 E.1.1.2.1 dX11_open_78 rfl ?_
  have E' := rM_E E gI gs
  have a0 : rM_ad ad gh 0 H.size qa e' (100 + gh.1 0) = H.size := by
    unfold rM_ad
    rw [if_neg (by omega), if_pos (show 100 + gh.1 0 = rC_b 0 + gh.1 0 from rfl)]
  have hat : rC_at (rC_gi gh 0 0) (100 + gh.1 0) 1 := ⟨rC_dm_el (i := 0) (by decide) (by rw [rC_gi1, if_pos rfl]; exact hnb) (by rw [rC_gi1, if_pos rfl]; omega), rM_kd1 hnb⟩
  have hl : rv_has ls [some (.ref (rM_ad ad gh 0 H.size qa e' 0)), some (.int x1), some (.int x2), some (.ref (rM_ad ad gh 0 H.size qa e' (100 + gh.1 0)))] := by rw [show rM_ad ad gh 0 H.size qa e' 0 = ad 0 from g0, a0]; exact hl
  refine (show rv_M (rC_G D cI cZ cO (rM_ad ad gh 0 H.size qa e') (rC_gi gh 0 0) de) (rM_A ad gh s.heap.size) p l e rm11_open s m args below meth c _ _ (fun _ : Unit => MQ below (rM_qi D cI cZ cO ad gh de s.heap.size (M6 (100 + gh.1 0) 0) (rC_gi gh 0 0) M6) args s 3 193 (rM_A ad gh s.heap.size)) (some ()) 79 [some (.ref (rM_ad ad gh 0 H.size qa e' 0)), some (.int x1), some (.int x2), some (.ref (rM_ad ad gh 0 H.size qa e' (100 + gh.1 0)))] [] (rM_nC gh u9 x1 (nI (gh.1 0)) r9) from ?_) () rfl H6 locs6 ls gG hS hl
  refine rv_aload_n (q := 80) E'.x dX11_open_79 rfl rfl ?_
  refine rv_iload_n (q := 81) E'.x dX11_open_80 rfl rfl ?_
  refine rv_aload_n (q := 82) E'.x dX11_open_81 rfl rfl ?_
  refine rv_bipush (q := 84) E'.x dX11_open_82 rv_kb80 rfl ?_
  refine rv_iload_n (q := 85) E'.x dX11_open_84 rfl rfl ?_
  refine rC_calliX11 (q := 88) E' ⟨rfl, rfl⟩ (c11_addSet gI hr6) gX11_176 hX11_addSet ⟨rfl, rfl⟩ ⟨Nat.le_of_ble_eq_true rfl, Nat.le_of_ble_eq_true rfl⟩ ⟨Nat.le_of_ble_eq_true rfl, Nat.le_of_ble_eq_true rfl⟩ rfl rfl rfl (Nat.le_of_ble_eq_true rfl) dX11_open_85 rfl ?_
  refine rv_pop (q := 89) E'.x dX11_open_88 rfl rfl ?_
  refine rv_aload_n (q := 90) E'.x dX11_open_89 rfl rfl ?_
  refine rC_getX0 (q := 93) E' (100 + gh.1 0) 0 wfX11_180 rfl (Nat.le_of_ble_eq_true rfl) hat rfl dX11_open_90 rfl ?_
  intro res h H7 locs7 ls7 hG7 hS7 hl7
  exact W.iret E.1.1.1 E.1.1.2.1 E.1.2.2.2.2.1 (fun t ht hW => ⟨⟨M6 (100 + gh.1 0) 0, rM_ad ad gh 0 H.size qa e', rfl, ⟨rfl, g0, gI, gs⟩, by show rC_G _ _ _ _ _ _ _ _ t.heap; rw [ht]; exact hG7⟩, hS7.F ht⟩) hS7.2.2 dX11_open_93 (hlocks := E.1.2.2.2.2.2.1)
theorem bx11_open_46 {p : Program} {l : Launch} {e : Env} {s : State} {m : MethodId} {args : Array Value} {below : List Frame} {meth : Method} {c : Code} {D : va_G} {cI cZ cO : ClassId} {ad : Nat → Nat} {gh : rC_gh} {de : Nat} (E : rC_X D cI cZ cO ad gh RX11 cX11_open 4 (some .int) p l s m args meth c) (M : rv_Mem) (x1 : Int32) (x2 : Int32) : rv_M (rC_G D cI cZ cO ad gh de) (rC_A ad gh s.heap.size) p l e rmx11_open s m args below meth c 0 0 (qy11_open D cI cZ cO ad gh de below args s M) (f11_open_46 gh M x1 x2) 46 [some (.ref (ad 0)), some (.int x1), some (.int x2), none] [] M := rv_trL (fun r h t => by
  unfold f11_open_46 at h
  split at h
  · cases hr5 : f9_repositoryOf gh M x2 with
    | none => rw [hr5] at h; cases h
    | some r5 =>
      rw [hr5] at h
      change rv_o2 (f11_addSet (rC_gi gh 0 0) (rM_nC gh M x1 (nI (gh.1 0)) r5) x1 (100 + gh.1 0) 80 x2) (fun _ M3 => some (.inl (M3 (100 + gh.1 0) 0, rC_gi gh 0 0, M3))) = some r at h
      cases hr6 : f11_addSet (rC_gi gh 0 0) (rM_nC gh M x1 (nI (gh.1 0)) r5) x1 (100 + gh.1 0) 80 x2 with
      | none => rw [hr6] at h; cases h
      | some w6 =>
        obtain ⟨r6, M6⟩ := w6
        rw [hr6] at h
        cases h
        exact trivial
  · cases h)
theorem bx11_comment_76 {p : Program} {l : Launch} {e : Env} {s : State} {m : MethodId} {args : Array Value} {below : List Frame} {meth : Method} {c : Code} {D : va_G} {cI cZ cO : ClassId} {ad : Nat → Nat} {gh : rC_gh} {de : Nat} (E : rC_X D cI cZ cO ad gh RX11 cX11_comment 11 (some .int) p l s m args meth c) (M : rv_Mem) (x1 : Int32) (x2 : Int32) (x3 : Int32) (x4 : Int32) (x5 : Int32) (x6 : Int32) (x7 : Bool) (x10 : Int32) : rv_M (rC_G D cI cZ cO ad gh de) (rC_A ad gh s.heap.size) p l e rmx11_comment s m args below meth c 0 0 (qy11_comment D cI cZ cO ad gh de below args s M) (f11_comment_76 gh M x1 x2 x3 x4 x5 x6 x7 x10) 76 [none, some (.int x1), some (.int x2), some (.int x3), some (.int x4), some (.int x5), some (.int x6), some (.int (rv_i x7)), none, none, some (.int x10)] [.ref (ad 10)] M := rv_trL (fun r h t => by
  unfold f11_comment_76 at h
  split at h
  · cases h; exact trivial
  · cases h)
theorem bx11_answer_63 {p : Program} {l : Launch} {e : Env} {s : State} {m : MethodId} {args : Array Value} {below : List Frame} {meth : Method} {c : Code} {D : va_G} {cI cZ cO : ClassId} {ad : Nat → Nat} {gh : rC_gh} {de : Nat} (E : rC_X D cI cZ cO ad gh RX11 cX11_answer 5 (some .int) p l s m args meth c) (M : rv_Mem) (x1 : Int32) (x2 : Int32) (x3 : Bool) (x4 : Nat) : rv_M (rC_G D cI cZ cO ad gh de) (rC_A ad gh s.heap.size) p l e rmx11_answer s m args below meth c 0 0 (qy11_answer D cI cZ cO ad gh de below args s M) (f11_answer_63 gh M x1 x2 x3 x4) 63 [some (.ref (ad 0)), some (.int x1), some (.int x2), some (.int (rv_i x3)), some (.ref (ad x4))] [.ref (ad 10)] M := rv_trL (fun r h t => by
  unfold f11_answer_63 at h
  split at h
  · split at h
    · cases h; exact trivial
    · cases h
  · cases h)
theorem bx11_find_93 {p : Program} {l : Launch} {e : Env} {s : State} {m : MethodId} {args : Array Value} {below : List Frame} {meth : Method} {c : Code} {D : va_G} {cI cZ cO : ClassId} {ad : Nat → Nat} {gh : rC_gh} {de : Nat} (E : rC_X D cI cZ cO ad gh RX11 cX11_find 8 (some .int) p l s m args meth c) (M : rv_Mem) (x1 : Int32) (x2 : Int32) (x3 : Int32) (x4 : Int32) (x5 : Int32) (x6 : Int32) (x7 : Int32) : rv_M (rC_G D cI cZ cO ad gh de) (rC_A ad gh s.heap.size) p l e rmx11_find s m args below meth c 0 0 (qy11_find D cI cZ cO ad gh de below args s M) (f11_find_93 gh M x1 x2 x3 x4 x5 x6 x7) 93 [some (.ref (ad 0)), some (.int x1), some (.int x2), some (.int x3), some (.int x4), some (.int x5), some (.int x6), some (.int x7)] [.ref (ad 11)] M := rv_trL (fun r h t => by
  unfold f11_find_93 at h
  split at h
  · cases h; exact trivial
  · cases h)
