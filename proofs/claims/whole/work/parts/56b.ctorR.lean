/-! THE REFERENCE'S CONSTRUCTOR, by program (tools/mk39.py) -/
section
variable {p : Program} {l : Launch} {e : Env} {R : Room} {s : State} {m : MethodId} {args : Array Value} {below : List Frame} {meth : Method} {c : Code} {cells slots : Nat} {ρ : Type} {A : Nat → Prop} {Q : ρ → State → Prop} {cc : ByteArray} {pc q : Nat} {lv : List (Option Value)} {st : List Value} {t : Option ρ}
theorem rv_gt_no (E : rv_E p c cc) {μ : Type} {G : μ → Heap → Prop} {M : μ} {x y : Int32} {off : Int} {tgt : Nat} (d : decode cc pc = .ok (.if_icmp .gt off, 3)) (ht : (pc : Int) + off = (tgt : Int)) (hq : pc + 3 = q) (h : x ≤ y) (kk : rv_M G A p l e R s m args below meth c cells slots Q t q lv st M) : rv_M G A p l e R s m args below meth c cells slots Q t pc lv (.int y :: .int x :: st) M := by
  subst hq; exact fun res hh H locs ls hG hS hl => lv_icmp_gt E.1 E.2 d ht (fun z => absurd h (Int32.not_le.mpr z)) (fun _ => kk res hh H locs ls hG hS hl)
theorem rv_gt_yes (E : rv_E p c cc) {μ : Type} {G : μ → Heap → Prop} {M : μ} {x y : Int32} {off : Int} {tgt : Nat} (d : decode cc pc = .ok (.if_icmp .gt off, 3)) (ht : (pc : Int) + off = (tgt : Int)) (h : y < x) (kk : rv_M G A p l e R s m args below meth c cells slots Q t tgt lv st M) : rv_M G A p l e R s m args below meth c cells slots Q t pc lv (.int y :: .int x :: st) M :=
  fun res hh H locs ls hG hS hl => lv_icmp_gt E.1 E.2 d ht (fun _ => kk res hh H locs ls hG hS hl) (fun z => absurd h z)
theorem rv_le81 {j : Nat} (h : j < 82) : nI j ≤ 81 := by
  have : ∀ j, j < 82 → nI j ≤ 81 := by decide +kernel
  exact this j h
end
abbrev rmK_X12_init : Room := { frames := 1, cells := 57, slots := 6705, locals := 24 }
def kf_X12a (b : Nat) : List Value := [.int 2, .ref (b + 1 + 0), .ref (b + 1 + 1), .ref (b + 1 + 2), .ref (b + 1 + 3), .ref (b + 1 + 4), .ref (b + 1 + 5), .ref (b + 1 + 6), .ref (b + 1 + 7), .ref (b + 1 + 8), .ref (b + 1 + 9), .int 0, .ref (b + 1 + 10), .ref (b + 1 + 11), .ref (b + 1 + 12), .ref (b + 1 + 13), .ref (b + 1 + 14), .ref (b + 1 + 15), .ref (b + 1 + 16), .ref (b + 1 + 17), .ref (b + 1 + 18), .ref (b + 1 + 19), .ref (b + 1 + 20), .ref (b + 1 + 21), .int 0, .ref (b + 1 + 22), .ref (b + 1 + 23), .ref (b + 1 + 24), .ref (b + 1 + 25), .ref (b + 1 + 26), .ref (b + 1 + 27), .ref (b + 1 + 28), .ref (b + 1 + 29), .ref (b + 1 + 30), .int 0, .ref (b + 1 + 31), .ref (b + 1 + 32), .ref (b + 1 + 33), .ref (b + 1 + 34), .ref (b + 1 + 35), .ref (b + 1 + 36), .ref (b + 1 + 37), .ref (b + 1 + 38), .ref (b + 1 + 39), .int 0, .int 1, .ref (b + 1 + 40), .ref (b + 1 + 41), .ref (b + 1 + 42), .ref (b + 1 + 43), .ref (b + 1 + 44), .ref (b + 1 + 45), .int 0, .ref (b + 1 + 46), .ref (b + 1 + 47), .ref (b + 1 + 48), .ref (b + 1 + 49), .ref (b + 1 + 50), .ref (b + 1 + 51), .ref (b + 1 + 52), .ref (b + 1 + 53), .ref (b + 1 + 54), .ref (b + 1 + 55), .int 0, .int 0, .ref (b + 1 + 56), .int 0]
def kw_X12a (cI cZ : ClassId) (g1 g2 : Nat → Int32) : List va_E := [.inl (cI, 82, .inl (upd (fun _ => 0) 1 1)), .inl (cI, 82, .inl (upd (upd (fun _ => 0) 0 (-1)) 1 (-1))), .inl (cI, 328, .inl (fun _ => 0)), .inl (cI, 3280, .inl (fun _ => 0)), .inl (cI, 82, .inl g1), .inl (cI, 82, .inl (fun _ => 0)), .inl (cI, 82, .inl (fun _ => 0)), .inl (cI, 82, .inl g2), .inl (cI, 2, .inl (fun _ => 0)), .inl (cI, 2, .inl (fun _ => 0)), .inl (cI, 20, .inl (fun _ => 0)), .inl (cI, 20, .inl (fun _ => 0)), .inl (cI, 20, .inl (fun _ => 0)), .inl (cZ, 20, .inl (fun _ => 0)), .inl (cZ, 20, .inl (fun _ => 0)), .inl (cI, 20, .inl (fun _ => 0)), .inl (cI, 20, .inl (fun _ => 0)), .inl (cI, 20, .inl (fun _ => 0)), .inl (cI, 20, .inl (fun _ => 0)), .inl (cI, 20, .inl (fun _ => 0)), .inl (cI, 960, .inl (fun _ => 0)), .inl (cI, 6, .inl (fun _ => 0)), .inl (cI, 60, .inl (fun _ => 0)), .inl (cI, 60, .inl (fun _ => 0)), .inl (cI, 60, .inl (fun _ => 0)), .inl (cI, 60, .inl (fun _ => 0)), .inl (cI, 60, .inl (fun _ => 0)), .inl (cI, 60, .inl (fun _ => 0)), .inl (cI, 60, .inl (fun _ => 0)), .inl (cZ, 60, .inl (fun _ => 0)), .inl (cZ, 60, .inl (fun _ => 0)), .inl (cI, 40, .inl (fun _ => 0)), .inl (cI, 40, .inl (fun _ => 0)), .inl (cI, 40, .inl (fun _ => 0)), .inl (cI, 40, .inl (fun _ => 0)), .inl (cI, 40, .inl (fun _ => 0)), .inl (cI, 40, .inl (fun _ => 0)), .inl (cI, 14, .inl (fun _ => 0)), .inl (cZ, 14, .inl (fun _ => 0)), .inl (cZ, 4, .inl (fun _ => 0)), .inl (cI, 20, .inl (fun _ => 0)), .inl (cI, 20, .inl (fun _ => 0)), .inl (cI, 20, .inl (fun _ => 0)), .inl (cZ, 20, .inl (fun _ => 0)), .inl (cI, 2, .inl (fun _ => 0)), .inl (cI, 6, .inl (fun _ => 0)), .inl (cI, 121, .inl (fun _ => 0)), .inl (cI, 10, .inl (fun _ => 0)), .inl (cI, 60, .inl (fun _ => 0)), .inl (cI, 60, .inl (fun _ => 0)), .inl (cI, 60, .inl (fun _ => 0)), .inl (cI, 60, .inl (fun _ => 0)), .inl (cI, 60, .inl (fun _ => 0)), .inl (cI, 60, .inl (fun _ => 0)), .inl (cI, 4, .inl (fun _ => 0)), .inl (cI, 24, .inl (fun _ => 0)), .inl (cI, 16, .inl (fun _ => 0))]
def kg_X12 (j : Nat) : Nat → Int32 := fun i => if i < j then -1 else 0
def kw_X12_init (cI cZ : ClassId) : List va_E := [.inl (cI, 82, .inl (upd (fun _ => 0) 1 1)), .inl (cI, 82, .inl (upd (upd (fun _ => 0) 0 (-1)) 1 (-1))), .inl (cI, 328, .inl (fun _ => 0)), .inl (cI, 3280, .inl (fun _ => 0)), .inl (cI, 82, .inl (kg_X12 82)), .inl (cI, 82, .inl (fun _ => 0)), .inl (cI, 82, .inl (fun _ => 0)), .inl (cI, 82, .inl (kg_X12 82)), .inl (cI, 2, .inl (upd (fun _ => 0) 1 1)), .inl (cI, 2, .inl (upd (upd (fun _ => 0) 0 1) 1 1)), .inl (cI, 20, .inl (fun _ => 0)), .inl (cI, 20, .inl (fun _ => 0)), .inl (cI, 20, .inl (fun _ => 0)), .inl (cZ, 20, .inl (fun _ => 0)), .inl (cZ, 20, .inl (fun _ => 0)), .inl (cI, 20, .inl (fun _ => 0)), .inl (cI, 20, .inl (fun _ => 0)), .inl (cI, 20, .inl (fun _ => 0)), .inl (cI, 20, .inl (fun _ => 0)), .inl (cI, 20, .inl (fun _ => 0)), .inl (cI, 960, .inl (fun _ => 0)), .inl (cI, 6, .inl (upd (upd (upd (upd (upd (upd (fun _ => 0) 0 1) 1 17) 2 31) 3 2) 4 10) 5 14)), .inl (cI, 60, .inl (fun _ => 0)), .inl (cI, 60, .inl (fun _ => 0)), .inl (cI, 60, .inl (fun _ => 0)), .inl (cI, 60, .inl (fun _ => 0)), .inl (cI, 60, .inl (fun _ => 0)), .inl (cI, 60, .inl (fun _ => 0)), .inl (cI, 60, .inl (fun _ => 0)), .inl (cZ, 60, .inl (fun _ => 0)), .inl (cZ, 60, .inl (fun _ => 0)), .inl (cI, 40, .inl (fun _ => 0)), .inl (cI, 40, .inl (fun _ => 0)), .inl (cI, 40, .inl (fun _ => 0)), .inl (cI, 40, .inl (fun _ => 0)), .inl (cI, 40, .inl (fun _ => 0)), .inl (cI, 40, .inl (fun _ => 0)), .inl (cI, 14, .inl (fun _ => 0)), .inl (cZ, 14, .inl (fun _ => 0)), .inl (cZ, 4, .inl (fun _ => 0)), .inl (cI, 20, .inl (upd (fun _ => 0) 0 15)), .inl (cI, 20, .inl (upd (fun _ => 0) 0 7)), .inl (cI, 20, .inl (upd (fun _ => 0) 0 48)), .inl (cZ, 20, .inl (fun _ => 0)), .inl (cI, 2, .inl (fun _ => 0)), .inl (cI, 6, .inl (fun _ => 0)), .inl (cI, 121, .inl (fun _ => 0)), .inl (cI, 10, .inl (fun _ => 0)), .inl (cI, 60, .inl (fun _ => 0)), .inl (cI, 60, .inl (fun _ => 0)), .inl (cI, 60, .inl (fun _ => 0)), .inl (cI, 60, .inl (fun _ => 0)), .inl (cI, 60, .inl (fun _ => 0)), .inl (cI, 60, .inl (fun _ => 0)), .inl (cI, 4, .inl (fun _ => 0)), .inl (cI, 24, .inl (fun _ => 0)), .inl (cI, 16, .inl (fun _ => 0))]
set_option maxRecDepth 100000 in
set_option maxHeartbeats 4000000 in
theorem kX12_c {p : Program} {l : Launch} {e : Env} {s : State} {m : MethodId} {args : Array Value} {below : List Frame} {meth : Method} {c : Code} {D : va_G} {cI cZ cO : ClassId} {de b : Nat} (E : rK_E D cI cZ cO de b (fun q => b ≤ q) RX12 cX12_init 2 p s m args c) (hnm : meth.name = "<init>") (hret : meth.sig.returnType = none) (hlk : meth.locks = false) : rv_M (rK_G D s.heap b 13) (fun q => b ≤ q) p l e rmK_X12_init s m args below meth c 57 6705 (fun _ : Unit => MQ below (rK_Q D b 13 (kf_X12a b, kw_X12_init cI cZ)) args s 57 6705 (fun q => b ≤ q)) (some ()) 517 [some (.ref b), some (.int (nI 82))] [] (kf_X12a b, kw_X12a cI cZ (kg_X12 82) (kg_X12 82)) := by
  unfold kf_X12a kw_X12a
  refine rv_aload_n (q := 518) E.x dX12_init_517 rfl rfl ?_
  refine rK_getS (q := 521) E 9 rfl wl12 (rv_al (rv_t7 (List.mem_of_getElem? (i := 91) rfl)) rfl) (Nat.le_of_ble_eq_true rfl) rfl dX12_init_518 rfl ?_
  refine rv_iconst (q := 522) E.x dX12_init_521 rK_ki1 rfl ?_
  refine rv_iconst (q := 523) E.x dX12_init_522 rK_ki1 rfl ?_
  refine rK_iast (q := 524) (N := 2) (k := 8) E rfl (by decide) dX12_init_523 rfl ?_
  refine rv_aload_n (q := 525) E.x dX12_init_524 rfl rfl ?_
  refine rK_getS (q := 528) E 10 rfl wl12 (rv_al (rv_t7 (List.mem_of_getElem? (i := 92) rfl)) rfl) (Nat.le_of_ble_eq_true rfl) rfl dX12_init_525 rfl ?_
  refine rv_iconst (q := 529) E.x dX12_init_528 rK_ki0 rfl ?_
  refine rv_iconst (q := 530) E.x dX12_init_529 rK_ki1 rfl ?_
  refine rK_iast (q := 531) (N := 2) (k := 9) E rfl (by decide) dX12_init_530 rfl ?_
  refine rv_aload_n (q := 532) E.x dX12_init_531 rfl rfl ?_
  refine rK_getS (q := 535) E 10 rfl wl12 (rv_al (rv_t7 (List.mem_of_getElem? (i := 92) rfl)) rfl) (Nat.le_of_ble_eq_true rfl) rfl dX12_init_532 rfl ?_
  refine rv_iconst (q := 536) E.x dX12_init_535 rK_ki1 rfl ?_
  refine rv_iconst (q := 537) E.x dX12_init_536 rK_ki1 rfl ?_
  refine rK_iast (q := 538) (N := 2) (k := 9) E rfl (by decide) dX12_init_537 rfl ?_
  refine rv_aload_n (q := 539) E.x dX12_init_538 rfl rfl ?_
  refine rK_getS (q := 542) E 23 rfl wl12 (rv_al (rv_t7 (List.mem_of_getElem? (i := 105) rfl)) rfl) (Nat.le_of_ble_eq_true rfl) rfl dX12_init_539 rfl ?_
  refine rv_iconst (q := 543) E.x dX12_init_542 rK_ki0 rfl ?_
  refine rv_iconst (q := 544) E.x dX12_init_543 rK_ki1 rfl ?_
  refine rK_iast (q := 545) (N := 6) (k := 21) E rfl (by decide) dX12_init_544 rfl ?_
  refine rv_aload_n (q := 546) E.x dX12_init_545 rfl rfl ?_
  refine rK_getS (q := 549) E 23 rfl wl12 (rv_al (rv_t7 (List.mem_of_getElem? (i := 105) rfl)) rfl) (Nat.le_of_ble_eq_true rfl) rfl dX12_init_546 rfl ?_
  refine rv_iconst (q := 550) E.x dX12_init_549 rK_ki1 rfl ?_
  refine rv_bipush (q := 552) E.x dX12_init_550 rK_kb17 rfl ?_
  refine rK_iast (q := 553) (N := 6) (k := 21) E rfl (by decide) dX12_init_552 rfl ?_
  refine rv_aload_n (q := 554) E.x dX12_init_553 rfl rfl ?_
  refine rK_getS (q := 557) E 23 rfl wl12 (rv_al (rv_t7 (List.mem_of_getElem? (i := 105) rfl)) rfl) (Nat.le_of_ble_eq_true rfl) rfl dX12_init_554 rfl ?_
  refine rv_iconst (q := 558) E.x dX12_init_557 rK_ki2 rfl ?_
  refine rv_bipush (q := 560) E.x dX12_init_558 rK_kb31 rfl ?_
  refine rK_iast (q := 561) (N := 6) (k := 21) E rfl (by decide) dX12_init_560 rfl ?_
  refine rv_aload_n (q := 562) E.x dX12_init_561 rfl rfl ?_
  refine rK_getS (q := 565) E 23 rfl wl12 (rv_al (rv_t7 (List.mem_of_getElem? (i := 105) rfl)) rfl) (Nat.le_of_ble_eq_true rfl) rfl dX12_init_562 rfl ?_
  refine rv_iconst (q := 566) E.x dX12_init_565 rK_ki3 rfl ?_
  refine rv_iconst (q := 567) E.x dX12_init_566 rK_ki2 rfl ?_
  refine rK_iast (q := 568) (N := 6) (k := 21) E rfl (by decide) dX12_init_567 rfl ?_
  refine rv_aload_n (q := 569) E.x dX12_init_568 rfl rfl ?_
  refine rK_getS (q := 572) E 23 rfl wl12 (rv_al (rv_t7 (List.mem_of_getElem? (i := 105) rfl)) rfl) (Nat.le_of_ble_eq_true rfl) rfl dX12_init_569 rfl ?_
  refine rv_iconst (q := 573) E.x dX12_init_572 rK_ki4 rfl ?_
  refine rv_bipush (q := 575) E.x dX12_init_573 rK_kb10 rfl ?_
  refine rK_iast (q := 576) (N := 6) (k := 21) E rfl (by decide) dX12_init_575 rfl ?_
  refine rv_aload_n (q := 577) E.x dX12_init_576 rfl rfl ?_
  refine rK_getS (q := 580) E 23 rfl wl12 (rv_al (rv_t7 (List.mem_of_getElem? (i := 105) rfl)) rfl) (Nat.le_of_ble_eq_true rfl) rfl dX12_init_577 rfl ?_
  refine rv_iconst (q := 581) E.x dX12_init_580 rK_ki5 rfl ?_
  refine rv_bipush (q := 583) E.x dX12_init_581 rK_kb14 rfl ?_
  refine rK_iast (q := 584) (N := 6) (k := 21) E rfl (by decide) dX12_init_583 rfl ?_
  refine rv_aload_n (q := 585) E.x dX12_init_584 rfl rfl ?_
  refine rK_getS (q := 588) E 46 rfl wl12 (rv_al (rv_t7 (List.mem_of_getElem? (i := 128) rfl)) rfl) (Nat.le_of_ble_eq_true rfl) rfl dX12_init_585 rfl ?_
  refine rv_iconst (q := 589) E.x dX12_init_588 rK_ki0 rfl ?_
  refine rv_bipush (q := 591) E.x dX12_init_589 rK_kb15 rfl ?_
  refine rK_iast (q := 592) (N := 20) (k := 40) E rfl (by decide) dX12_init_591 rfl ?_
  refine rv_aload_n (q := 593) E.x dX12_init_592 rfl rfl ?_
  refine rK_getS (q := 596) E 47 rfl wl12 (rv_al (rv_t7 (List.mem_of_getElem? (i := 129) rfl)) rfl) (Nat.le_of_ble_eq_true rfl) rfl dX12_init_593 rfl ?_
  refine rv_iconst (q := 597) E.x dX12_init_596 rK_ki0 rfl ?_
  refine rv_bipush (q := 599) E.x dX12_init_597 rK_kb7 rfl ?_
  refine rK_iast (q := 600) (N := 20) (k := 41) E rfl (by decide) dX12_init_599 rfl ?_
  refine rv_aload_n (q := 601) E.x dX12_init_600 rfl rfl ?_
  refine rK_getS (q := 604) E 48 rfl wl12 (rv_al (rv_t7 (List.mem_of_getElem? (i := 130) rfl)) rfl) (Nat.le_of_ble_eq_true rfl) rfl dX12_init_601 rfl ?_
  refine rv_iconst (q := 605) E.x dX12_init_604 rK_ki0 rfl ?_
  refine rv_bipush (q := 607) E.x dX12_init_605 rK_kb48 rfl ?_
  refine rK_iast (q := 608) (N := 20) (k := 42) E rfl (by decide) dX12_init_607 rfl ?_
  exact rK_ret hret hlk E rfl (Nat.le_of_ble_eq_true rfl) (Nat.le_of_ble_eq_true rfl) dX12_init_608
theorem kg_upd (j : Nat) : upd (kg_X12 j) j (-1) = kg_X12 (j + 1) := by
  funext i
  unfold upd kg_X12
  by_cases h : i = j
  · rw [if_pos h, if_pos (by omega)]
  · rw [if_neg h]
    by_cases h2 : i < j
    · rw [if_pos h2, if_pos (by omega)]
    · rw [if_neg h2, if_neg (by omega)]
theorem kX12_b {p : Program} {l : Launch} {e : Env} {s : State} {m : MethodId} {args : Array Value} {below : List Frame} {meth : Method} {c : Code} {D : va_G} {cI cZ cO : ClassId} {de b : Nat} (E : rK_E D cI cZ cO de b (fun q => b ≤ q) RX12 cX12_init 2 p s m args c) (hnm : meth.name = "<init>") (hret : meth.sig.returnType = none) (hlk : meth.locks = false) : ∀ (n j : Nat), j + n = 82 → rv_M (rK_G D s.heap b 13) (fun q => b ≤ q) p l e rmK_X12_init s m args below meth c 57 6705 (fun _ : Unit => MQ below (rK_Q D b 13 (kf_X12a b, kw_X12_init cI cZ)) args s 57 6705 (fun q => b ≤ q)) (some ()) 491 [some (.ref b), some (.int (nI j))] [] (kf_X12a b, kw_X12a cI cZ (kg_X12 j) (kg_X12 j)) := by
  intro n
  induction n with
  | zero =>
    intro j hj
    have hj2 : j = 82 := by omega
    subst hj2
    refine rv_iload_n (q := 492) E.x dX12_init_491 rfl rfl ?_
    refine rv_bipush (q := 494) E.x dX12_init_492 rK_kb81 rfl ?_
    refine rv_gt_yes (tgt := 517) E.x dX12_init_494 (by decide) (by decide) ?_
    exact kX12_c E hnm hret hlk
  | succ n ih =>
    intro j hj
    have hc : (nI j).toNatClampNeg = j := nI_clamp (by omega)
    refine rv_iload_n (q := 492) E.x dX12_init_491 rfl rfl ?_
    refine rv_bipush (q := 494) E.x dX12_init_492 rK_kb81 rfl ?_
    refine rv_gt_no (q := 497) (tgt := 517) E.x dX12_init_494 (by decide) rfl (rv_le81 (by omega)) ?_
    refine rv_aload_n (q := 498) E.x dX12_init_497 rfl rfl ?_
    refine rK_getS (q := 501) (v := .ref (b + 1 + 4)) E 5 rfl wl12 (rv_al (rv_t7 (List.mem_of_getElem? (i := 87) rfl)) rfl) (Nat.le_of_ble_eq_true rfl) rfl dX12_init_498 rfl ?_
    refine rv_iload_n (q := 502) E.x dX12_init_501 rfl rfl ?_
    refine rv_iconst (q := 503) E.x dX12_init_502 rK_kim1 rfl ?_
    refine rK_iast (q := 504) (N := 82) (k := 4) (g := kg_X12 j) E rfl (rv_inN (by omega) (by omega)) dX12_init_503 rfl ?_
    refine rv_aload_n (q := 505) E.x dX12_init_504 rfl rfl ?_
    refine rK_getS (q := 508) (v := .ref (b + 1 + 7)) E 8 rfl wl12 (rv_al (rv_t7 (List.mem_of_getElem? (i := 90) rfl)) rfl) (Nat.le_of_ble_eq_true rfl) rfl dX12_init_505 rfl ?_
    refine rv_iload_n (q := 509) E.x dX12_init_508 rfl rfl ?_
    refine rv_iconst (q := 510) E.x dX12_init_509 rK_kim1 rfl ?_
    refine rK_iast (q := 511) (N := 82) (k := 7) (g := kg_X12 j) E rfl (rv_inN (by omega) (by omega)) dX12_init_510 rfl ?_
    rw [hc, kg_upd]
    refine rv_iinc (q := 514) (lv' := [some (.ref b), some (.int (nI (j + 1)))]) E.x dX12_init_511 rK_ki1 rfl rfl (by rw [nI_succ]; rfl) rfl ?_
    refine rv_goto (q := 491) E.x dX12_init_514 (by decide) ?_
    exact ih (j + 1) (by omega)
def kf_X12s11 (b : Nat) : List Value := [.int 2, .ref (b + 1 + 0), .ref (b + 1 + 1), .ref (b + 1 + 2), .ref (b + 1 + 3), .ref (b + 1 + 4), .ref (b + 1 + 5), .ref (b + 1 + 6), .ref (b + 1 + 7), .ref (b + 1 + 8), .ref (b + 1 + 9), .int 0, .ref (b + 1 + 10), .ref (b + 1 + 11), .ref (b + 1 + 12), .ref (b + 1 + 13), .ref (b + 1 + 14), .ref (b + 1 + 15), .ref (b + 1 + 16), .ref (b + 1 + 17), .ref (b + 1 + 18), .ref (b + 1 + 19), .ref (b + 1 + 20), .ref (b + 1 + 21), .int 0, .ref (b + 1 + 22), .ref (b + 1 + 23), .ref (b + 1 + 24), .ref (b + 1 + 25), .ref (b + 1 + 26), .ref (b + 1 + 27), .ref (b + 1 + 28), .ref (b + 1 + 29), .ref (b + 1 + 30), .int 0, .ref (b + 1 + 31), .ref (b + 1 + 32), .ref (b + 1 + 33), .ref (b + 1 + 34), .ref (b + 1 + 35), .ref (b + 1 + 36), .ref (b + 1 + 37), .ref (b + 1 + 38), .ref (b + 1 + 39), .int 0, .int 1, .ref (b + 1 + 40), .ref (b + 1 + 41), .ref (b + 1 + 42), .ref (b + 1 + 43), .ref (b + 1 + 44), .ref (b + 1 + 45), .int 0, .ref (b + 1 + 46), .ref (b + 1 + 47), .ref (b + 1 + 48), .ref (b + 1 + 49), .ref (b + 1 + 50), .ref (b + 1 + 51), .ref (b + 1 + 52), .null, .null, .null, .int 0, .int 0, .null, .int 0]
def kw_X12s11 (cI cZ : ClassId) : List va_E := [.inl (cI, 82, .inl (fun _ => 0)), .inl (cI, 82, .inl (fun _ => 0)), .inl (cI, 328, .inl (fun _ => 0)), .inl (cI, 3280, .inl (fun _ => 0)), .inl (cI, 82, .inl (fun _ => 0)), .inl (cI, 82, .inl (fun _ => 0)), .inl (cI, 82, .inl (fun _ => 0)), .inl (cI, 82, .inl (fun _ => 0)), .inl (cI, 2, .inl (fun _ => 0)), .inl (cI, 2, .inl (fun _ => 0)), .inl (cI, 20, .inl (fun _ => 0)), .inl (cI, 20, .inl (fun _ => 0)), .inl (cI, 20, .inl (fun _ => 0)), .inl (cZ, 20, .inl (fun _ => 0)), .inl (cZ, 20, .inl (fun _ => 0)), .inl (cI, 20, .inl (fun _ => 0)), .inl (cI, 20, .inl (fun _ => 0)), .inl (cI, 20, .inl (fun _ => 0)), .inl (cI, 20, .inl (fun _ => 0)), .inl (cI, 20, .inl (fun _ => 0)), .inl (cI, 960, .inl (fun _ => 0)), .inl (cI, 6, .inl (fun _ => 0)), .inl (cI, 60, .inl (fun _ => 0)), .inl (cI, 60, .inl (fun _ => 0)), .inl (cI, 60, .inl (fun _ => 0)), .inl (cI, 60, .inl (fun _ => 0)), .inl (cI, 60, .inl (fun _ => 0)), .inl (cI, 60, .inl (fun _ => 0)), .inl (cI, 60, .inl (fun _ => 0)), .inl (cZ, 60, .inl (fun _ => 0)), .inl (cZ, 60, .inl (fun _ => 0)), .inl (cI, 40, .inl (fun _ => 0)), .inl (cI, 40, .inl (fun _ => 0)), .inl (cI, 40, .inl (fun _ => 0)), .inl (cI, 40, .inl (fun _ => 0)), .inl (cI, 40, .inl (fun _ => 0)), .inl (cI, 40, .inl (fun _ => 0)), .inl (cI, 14, .inl (fun _ => 0)), .inl (cZ, 14, .inl (fun _ => 0)), .inl (cZ, 4, .inl (fun _ => 0)), .inl (cI, 20, .inl (fun _ => 0)), .inl (cI, 20, .inl (fun _ => 0)), .inl (cI, 20, .inl (fun _ => 0)), .inl (cZ, 20, .inl (fun _ => 0)), .inl (cI, 2, .inl (fun _ => 0)), .inl (cI, 6, .inl (fun _ => 0)), .inl (cI, 121, .inl (fun _ => 0)), .inl (cI, 10, .inl (fun _ => 0)), .inl (cI, 60, .inl (fun _ => 0)), .inl (cI, 60, .inl (fun _ => 0)), .inl (cI, 60, .inl (fun _ => 0)), .inl (cI, 60, .inl (fun _ => 0)), .inl (cI, 60, .inl (fun _ => 0))]
set_option maxRecDepth 100000 in
set_option maxHeartbeats 8000000 in
theorem kX12_s11 {p : Program} {l : Launch} {e : Env} {s : State} {m : MethodId} {args : Array Value} {below : List Frame} {meth : Method} {c : Code} {D : va_G} {cI cZ cO : ClassId} {de b : Nat} (E : rK_E D cI cZ cO de b (fun q => b ≤ q) RX12 cX12_init 2 p s m args c) (hnm : meth.name = "<init>") (hret : meth.sig.returnType = none) (hlk : meth.locks = false) : rv_M (rK_G D s.heap b 13) (fun q => b ≤ q) p l e rmK_X12_init s m args below meth c 53 6601 (fun _ : Unit => MQ below (rK_Q D b 13 (kf_X12a b, kw_X12_init cI cZ)) args s 57 6705 (fun q => b ≤ q)) (some ()) 437 [some (.ref b), none] [] ((kf_X12s11 b, kw_X12s11 cI cZ) : rK_mu) := by
  unfold kf_X12s11 kw_X12s11
  refine rv_aload_n (q := 438) E.x dX12_init_437 rfl rfl ?_
  refine rv_bipush (q := 440) E.x dX12_init_438 rK_kb60 rfl ?_
  refine rK_newI (q := 442) (N := 60) (k := 53) E (by decide) (by decide) rfl (by decide) (Nat.le_of_ble_eq_true rfl) (Nat.le_of_ble_eq_true rfl) dX12_init_440 rfl ?_
  refine rK_putF (q := 445) (ty := .array .int) E hnm 60 rfl wl12 tyX12_ok nmX12 (rv_al (rv_t7 (List.mem_of_getElem? (i := 142) rfl)) rfl) rfl rfl (Nat.le_of_ble_eq_true rfl) rfl rfl rfl (Nat.le_of_ble_eq_true rfl) dX12_init_442 rfl ?_
  refine rv_aload_n (q := 446) E.x dX12_init_445 rfl rfl ?_
  refine rv_iconst (q := 447) E.x dX12_init_446 rK_ki4 rfl ?_
  refine rK_newI (q := 449) (N := 4) (k := 54) E (by decide) (by decide) rfl (by decide) (Nat.le_of_ble_eq_true rfl) (Nat.le_of_ble_eq_true rfl) dX12_init_447 rfl ?_
  refine rK_putF (q := 452) (ty := .array .int) E hnm 61 rfl wl12 tyX12_ok nmX12 (rv_al (rv_t7 (List.mem_of_getElem? (i := 143) rfl)) rfl) rfl rfl (Nat.le_of_ble_eq_true rfl) rfl rfl rfl (Nat.le_of_ble_eq_true rfl) dX12_init_449 rfl ?_
  refine rv_aload_n (q := 453) E.x dX12_init_452 rfl rfl ?_
  refine rv_bipush (q := 455) E.x dX12_init_453 rK_kb24 rfl ?_
  refine rK_newI (q := 457) (N := 24) (k := 55) E (by decide) (by decide) rfl (by decide) (Nat.le_of_ble_eq_true rfl) (Nat.le_of_ble_eq_true rfl) dX12_init_455 rfl ?_
  refine rK_putF (q := 460) (ty := .array .int) E hnm 62 rfl wl12 tyX12_ok nmX12 (rv_al (rv_t7 (List.mem_of_getElem? (i := 144) rfl)) rfl) rfl rfl (Nat.le_of_ble_eq_true rfl) rfl rfl rfl (Nat.le_of_ble_eq_true rfl) dX12_init_457 rfl ?_
  refine rv_aload_n (q := 461) E.x dX12_init_460 rfl rfl ?_
  refine rv_bipush (q := 463) E.x dX12_init_461 rK_kb16 rfl ?_
  refine rK_newI (q := 465) (N := 16) (k := 56) E (by decide) (by decide) rfl (by decide) (Nat.le_of_ble_eq_true rfl) (Nat.le_of_ble_eq_true rfl) dX12_init_463 rfl ?_
  refine rK_putF (q := 468) (ty := .array .int) E hnm 65 rfl wl12 tyX12_ok nmX12 (rv_al (rv_t7 (List.mem_of_getElem? (i := 147) rfl)) rfl) rfl rfl (Nat.le_of_ble_eq_true rfl) rfl rfl rfl (Nat.le_of_ble_eq_true rfl) dX12_init_465 rfl ?_
  refine rv_aload_n (q := 469) E.x dX12_init_468 rfl rfl ?_
  refine rK_getS (q := 472) E 1 rfl wl12 (rv_al (rv_t7 (List.mem_of_getElem? (i := 83) rfl)) rfl) (Nat.le_of_ble_eq_true rfl) rfl dX12_init_469 rfl ?_
  refine rv_iconst (q := 473) E.x dX12_init_472 rK_ki1 rfl ?_
  refine rv_iconst (q := 474) E.x dX12_init_473 rK_ki1 rfl ?_
  refine rK_iast (q := 475) (N := 82) (k := 0) E rfl (by decide) dX12_init_474 rfl ?_
  refine rv_aload_n (q := 476) E.x dX12_init_475 rfl rfl ?_
  refine rK_getS (q := 479) E 2 rfl wl12 (rv_al (rv_t7 (List.mem_of_getElem? (i := 84) rfl)) rfl) (Nat.le_of_ble_eq_true rfl) rfl dX12_init_476 rfl ?_
  refine rv_iconst (q := 480) E.x dX12_init_479 rK_ki0 rfl ?_
  refine rv_iconst (q := 481) E.x dX12_init_480 rK_kim1 rfl ?_
  refine rK_iast (q := 482) (N := 82) (k := 1) E rfl (by decide) dX12_init_481 rfl ?_
  refine rv_aload_n (q := 483) E.x dX12_init_482 rfl rfl ?_
  refine rK_getS (q := 486) E 2 rfl wl12 (rv_al (rv_t7 (List.mem_of_getElem? (i := 84) rfl)) rfl) (Nat.le_of_ble_eq_true rfl) rfl dX12_init_483 rfl ?_
  refine rv_iconst (q := 487) E.x dX12_init_486 rK_ki1 rfl ?_
  refine rv_iconst (q := 488) E.x dX12_init_487 rK_kim1 rfl ?_
  refine rK_iast (q := 489) (N := 82) (k := 1) E rfl (by decide) dX12_init_488 rfl ?_
  refine rv_iconst (q := 490) E.x dX12_init_489 rK_ki0 rfl ?_
  refine rv_istore_n (q := 491) (lv' := [some (.ref b), some (.int 0)]) E.x dX12_init_490 (Nat.le_of_ble_eq_true rfl) rfl rfl rfl ?_
  exact kX12_b E hnm hret hlk 82 0 rfl
def kf_X12s10 (b : Nat) : List Value := [.int 2, .ref (b + 1 + 0), .ref (b + 1 + 1), .ref (b + 1 + 2), .ref (b + 1 + 3), .ref (b + 1 + 4), .ref (b + 1 + 5), .ref (b + 1 + 6), .ref (b + 1 + 7), .ref (b + 1 + 8), .ref (b + 1 + 9), .int 0, .ref (b + 1 + 10), .ref (b + 1 + 11), .ref (b + 1 + 12), .ref (b + 1 + 13), .ref (b + 1 + 14), .ref (b + 1 + 15), .ref (b + 1 + 16), .ref (b + 1 + 17), .ref (b + 1 + 18), .ref (b + 1 + 19), .ref (b + 1 + 20), .ref (b + 1 + 21), .int 0, .ref (b + 1 + 22), .ref (b + 1 + 23), .ref (b + 1 + 24), .ref (b + 1 + 25), .ref (b + 1 + 26), .ref (b + 1 + 27), .ref (b + 1 + 28), .ref (b + 1 + 29), .ref (b + 1 + 30), .int 0, .ref (b + 1 + 31), .ref (b + 1 + 32), .ref (b + 1 + 33), .ref (b + 1 + 34), .ref (b + 1 + 35), .ref (b + 1 + 36), .ref (b + 1 + 37), .ref (b + 1 + 38), .ref (b + 1 + 39), .int 0, .int 1, .ref (b + 1 + 40), .ref (b + 1 + 41), .ref (b + 1 + 42), .ref (b + 1 + 43), .ref (b + 1 + 44), .ref (b + 1 + 45), .int 0, .ref (b + 1 + 46), .ref (b + 1 + 47), .null, .null, .null, .null, .null, .null, .null, .null, .int 0, .int 0, .null, .int 0]
def kw_X12s10 (cI cZ : ClassId) : List va_E := [.inl (cI, 82, .inl (fun _ => 0)), .inl (cI, 82, .inl (fun _ => 0)), .inl (cI, 328, .inl (fun _ => 0)), .inl (cI, 3280, .inl (fun _ => 0)), .inl (cI, 82, .inl (fun _ => 0)), .inl (cI, 82, .inl (fun _ => 0)), .inl (cI, 82, .inl (fun _ => 0)), .inl (cI, 82, .inl (fun _ => 0)), .inl (cI, 2, .inl (fun _ => 0)), .inl (cI, 2, .inl (fun _ => 0)), .inl (cI, 20, .inl (fun _ => 0)), .inl (cI, 20, .inl (fun _ => 0)), .inl (cI, 20, .inl (fun _ => 0)), .inl (cZ, 20, .inl (fun _ => 0)), .inl (cZ, 20, .inl (fun _ => 0)), .inl (cI, 20, .inl (fun _ => 0)), .inl (cI, 20, .inl (fun _ => 0)), .inl (cI, 20, .inl (fun _ => 0)), .inl (cI, 20, .inl (fun _ => 0)), .inl (cI, 20, .inl (fun _ => 0)), .inl (cI, 960, .inl (fun _ => 0)), .inl (cI, 6, .inl (fun _ => 0)), .inl (cI, 60, .inl (fun _ => 0)), .inl (cI, 60, .inl (fun _ => 0)), .inl (cI, 60, .inl (fun _ => 0)), .inl (cI, 60, .inl (fun _ => 0)), .inl (cI, 60, .inl (fun _ => 0)), .inl (cI, 60, .inl (fun _ => 0)), .inl (cI, 60, .inl (fun _ => 0)), .inl (cZ, 60, .inl (fun _ => 0)), .inl (cZ, 60, .inl (fun _ => 0)), .inl (cI, 40, .inl (fun _ => 0)), .inl (cI, 40, .inl (fun _ => 0)), .inl (cI, 40, .inl (fun _ => 0)), .inl (cI, 40, .inl (fun _ => 0)), .inl (cI, 40, .inl (fun _ => 0)), .inl (cI, 40, .inl (fun _ => 0)), .inl (cI, 14, .inl (fun _ => 0)), .inl (cZ, 14, .inl (fun _ => 0)), .inl (cZ, 4, .inl (fun _ => 0)), .inl (cI, 20, .inl (fun _ => 0)), .inl (cI, 20, .inl (fun _ => 0)), .inl (cI, 20, .inl (fun _ => 0)), .inl (cZ, 20, .inl (fun _ => 0)), .inl (cI, 2, .inl (fun _ => 0)), .inl (cI, 6, .inl (fun _ => 0)), .inl (cI, 121, .inl (fun _ => 0)), .inl (cI, 10, .inl (fun _ => 0))]
set_option maxRecDepth 100000 in
set_option maxHeartbeats 8000000 in
theorem kX12_s10 {p : Program} {l : Launch} {e : Env} {s : State} {m : MethodId} {args : Array Value} {below : List Frame} {meth : Method} {c : Code} {D : va_G} {cI cZ cO : ClassId} {de b : Nat} (E : rK_E D cI cZ cO de b (fun q => b ≤ q) RX12 cX12_init 2 p s m args c) (hnm : meth.name = "<init>") (hret : meth.sig.returnType = none) (hlk : meth.locks = false) : rv_M (rK_G D s.heap b 13) (fun q => b ≤ q) p l e rmK_X12_init s m args below meth c 48 6301 (fun _ : Unit => MQ below (rK_Q D b 13 (kf_X12a b, kw_X12_init cI cZ)) args s 57 6705 (fun q => b ≤ q)) (some ()) 397 [some (.ref b), none] [] ((kf_X12s10 b, kw_X12s10 cI cZ) : rK_mu) := by
  unfold kf_X12s10 kw_X12s10
  refine rv_aload_n (q := 398) E.x dX12_init_397 rfl rfl ?_
  refine rv_bipush (q := 400) E.x dX12_init_398 rK_kb60 rfl ?_
  refine rK_newI (q := 402) (N := 60) (k := 48) E (by decide) (by decide) rfl (by decide) (Nat.le_of_ble_eq_true rfl) (Nat.le_of_ble_eq_true rfl) dX12_init_400 rfl ?_
  refine rK_putF (q := 405) (ty := .array .int) E hnm 55 rfl wl12 tyX12_ok nmX12 (rv_al (rv_t7 (List.mem_of_getElem? (i := 137) rfl)) rfl) rfl rfl (Nat.le_of_ble_eq_true rfl) rfl rfl rfl (Nat.le_of_ble_eq_true rfl) dX12_init_402 rfl ?_
  refine rv_aload_n (q := 406) E.x dX12_init_405 rfl rfl ?_
  refine rv_bipush (q := 408) E.x dX12_init_406 rK_kb60 rfl ?_
  refine rK_newI (q := 410) (N := 60) (k := 49) E (by decide) (by decide) rfl (by decide) (Nat.le_of_ble_eq_true rfl) (Nat.le_of_ble_eq_true rfl) dX12_init_408 rfl ?_
  refine rK_putF (q := 413) (ty := .array .int) E hnm 56 rfl wl12 tyX12_ok nmX12 (rv_al (rv_t7 (List.mem_of_getElem? (i := 138) rfl)) rfl) rfl rfl (Nat.le_of_ble_eq_true rfl) rfl rfl rfl (Nat.le_of_ble_eq_true rfl) dX12_init_410 rfl ?_
  refine rv_aload_n (q := 414) E.x dX12_init_413 rfl rfl ?_
  refine rv_bipush (q := 416) E.x dX12_init_414 rK_kb60 rfl ?_
  refine rK_newI (q := 418) (N := 60) (k := 50) E (by decide) (by decide) rfl (by decide) (Nat.le_of_ble_eq_true rfl) (Nat.le_of_ble_eq_true rfl) dX12_init_416 rfl ?_
  refine rK_putF (q := 421) (ty := .array .int) E hnm 57 rfl wl12 tyX12_ok nmX12 (rv_al (rv_t7 (List.mem_of_getElem? (i := 139) rfl)) rfl) rfl rfl (Nat.le_of_ble_eq_true rfl) rfl rfl rfl (Nat.le_of_ble_eq_true rfl) dX12_init_418 rfl ?_
  refine rv_aload_n (q := 422) E.x dX12_init_421 rfl rfl ?_
  refine rv_bipush (q := 424) E.x dX12_init_422 rK_kb60 rfl ?_
  refine rK_newI (q := 426) (N := 60) (k := 51) E (by decide) (by decide) rfl (by decide) (Nat.le_of_ble_eq_true rfl) (Nat.le_of_ble_eq_true rfl) dX12_init_424 rfl ?_
  refine rK_putF (q := 429) (ty := .array .int) E hnm 58 rfl wl12 tyX12_ok nmX12 (rv_al (rv_t7 (List.mem_of_getElem? (i := 140) rfl)) rfl) rfl rfl (Nat.le_of_ble_eq_true rfl) rfl rfl rfl (Nat.le_of_ble_eq_true rfl) dX12_init_426 rfl ?_
  refine rv_aload_n (q := 430) E.x dX12_init_429 rfl rfl ?_
  refine rv_bipush (q := 432) E.x dX12_init_430 rK_kb60 rfl ?_
  refine rK_newI (q := 434) (N := 60) (k := 52) E (by decide) (by decide) rfl (by decide) (Nat.le_of_ble_eq_true rfl) (Nat.le_of_ble_eq_true rfl) dX12_init_432 rfl ?_
  refine rK_putF (q := 437) (ty := .array .int) E hnm 59 rfl wl12 tyX12_ok nmX12 (rv_al (rv_t7 (List.mem_of_getElem? (i := 141) rfl)) rfl) rfl rfl (Nat.le_of_ble_eq_true rfl) rfl rfl rfl (Nat.le_of_ble_eq_true rfl) dX12_init_434 rfl ?_
  exact kX12_s11 E hnm hret hlk
def kf_X12s9 (b : Nat) : List Value := [.int 2, .ref (b + 1 + 0), .ref (b + 1 + 1), .ref (b + 1 + 2), .ref (b + 1 + 3), .ref (b + 1 + 4), .ref (b + 1 + 5), .ref (b + 1 + 6), .ref (b + 1 + 7), .ref (b + 1 + 8), .ref (b + 1 + 9), .int 0, .ref (b + 1 + 10), .ref (b + 1 + 11), .ref (b + 1 + 12), .ref (b + 1 + 13), .ref (b + 1 + 14), .ref (b + 1 + 15), .ref (b + 1 + 16), .ref (b + 1 + 17), .ref (b + 1 + 18), .ref (b + 1 + 19), .ref (b + 1 + 20), .ref (b + 1 + 21), .int 0, .ref (b + 1 + 22), .ref (b + 1 + 23), .ref (b + 1 + 24), .ref (b + 1 + 25), .ref (b + 1 + 26), .ref (b + 1 + 27), .ref (b + 1 + 28), .ref (b + 1 + 29), .ref (b + 1 + 30), .int 0, .ref (b + 1 + 31), .ref (b + 1 + 32), .ref (b + 1 + 33), .ref (b + 1 + 34), .ref (b + 1 + 35), .ref (b + 1 + 36), .ref (b + 1 + 37), .ref (b + 1 + 38), .ref (b + 1 + 39), .int 0, .int 1, .ref (b + 1 + 40), .ref (b + 1 + 41), .ref (b + 1 + 42), .null, .null, .null, .int 0, .null, .null, .null, .null, .null, .null, .null, .null, .null, .null, .int 0, .int 0, .null, .int 0]
def kw_X12s9 (cI cZ : ClassId) : List va_E := [.inl (cI, 82, .inl (fun _ => 0)), .inl (cI, 82, .inl (fun _ => 0)), .inl (cI, 328, .inl (fun _ => 0)), .inl (cI, 3280, .inl (fun _ => 0)), .inl (cI, 82, .inl (fun _ => 0)), .inl (cI, 82, .inl (fun _ => 0)), .inl (cI, 82, .inl (fun _ => 0)), .inl (cI, 82, .inl (fun _ => 0)), .inl (cI, 2, .inl (fun _ => 0)), .inl (cI, 2, .inl (fun _ => 0)), .inl (cI, 20, .inl (fun _ => 0)), .inl (cI, 20, .inl (fun _ => 0)), .inl (cI, 20, .inl (fun _ => 0)), .inl (cZ, 20, .inl (fun _ => 0)), .inl (cZ, 20, .inl (fun _ => 0)), .inl (cI, 20, .inl (fun _ => 0)), .inl (cI, 20, .inl (fun _ => 0)), .inl (cI, 20, .inl (fun _ => 0)), .inl (cI, 20, .inl (fun _ => 0)), .inl (cI, 20, .inl (fun _ => 0)), .inl (cI, 960, .inl (fun _ => 0)), .inl (cI, 6, .inl (fun _ => 0)), .inl (cI, 60, .inl (fun _ => 0)), .inl (cI, 60, .inl (fun _ => 0)), .inl (cI, 60, .inl (fun _ => 0)), .inl (cI, 60, .inl (fun _ => 0)), .inl (cI, 60, .inl (fun _ => 0)), .inl (cI, 60, .inl (fun _ => 0)), .inl (cI, 60, .inl (fun _ => 0)), .inl (cZ, 60, .inl (fun _ => 0)), .inl (cZ, 60, .inl (fun _ => 0)), .inl (cI, 40, .inl (fun _ => 0)), .inl (cI, 40, .inl (fun _ => 0)), .inl (cI, 40, .inl (fun _ => 0)), .inl (cI, 40, .inl (fun _ => 0)), .inl (cI, 40, .inl (fun _ => 0)), .inl (cI, 40, .inl (fun _ => 0)), .inl (cI, 14, .inl (fun _ => 0)), .inl (cZ, 14, .inl (fun _ => 0)), .inl (cZ, 4, .inl (fun _ => 0)), .inl (cI, 20, .inl (fun _ => 0)), .inl (cI, 20, .inl (fun _ => 0)), .inl (cI, 20, .inl (fun _ => 0))]
set_option maxRecDepth 100000 in
set_option maxHeartbeats 8000000 in
theorem kX12_s9 {p : Program} {l : Launch} {e : Env} {s : State} {m : MethodId} {args : Array Value} {below : List Frame} {meth : Method} {c : Code} {D : va_G} {cI cZ cO : ClassId} {de b : Nat} (E : rK_E D cI cZ cO de b (fun q => b ≤ q) RX12 cX12_init 2 p s m args c) (hnm : meth.name = "<init>") (hret : meth.sig.returnType = none) (hlk : meth.locks = false) : rv_M (rK_G D s.heap b 13) (fun q => b ≤ q) p l e rmK_X12_init s m args below meth c 43 6142 (fun _ : Unit => MQ below (rK_Q D b 13 (kf_X12a b, kw_X12_init cI cZ)) args s 57 6705 (fun q => b ≤ q)) (some ()) 358 [some (.ref b), none] [] ((kf_X12s9 b, kw_X12s9 cI cZ) : rK_mu) := by
  unfold kf_X12s9 kw_X12s9
  refine rv_aload_n (q := 359) E.x dX12_init_358 rfl rfl ?_
  refine rv_bipush (q := 361) E.x dX12_init_359 rK_kb20 rfl ?_
  refine rK_newZ (q := 363) (N := 20) (k := 43) E (by decide) (by decide) rfl (by decide) (Nat.le_of_ble_eq_true rfl) (Nat.le_of_ble_eq_true rfl) dX12_init_361 rfl ?_
  refine rK_putF (q := 366) (ty := .array .boolean) E hnm 49 rfl wl12 tyX12_ok nmX12 (rv_al (rv_t7 (List.mem_of_getElem? (i := 131) rfl)) rfl) rfl rfl (Nat.le_of_ble_eq_true rfl) rfl rfl rfl (Nat.le_of_ble_eq_true rfl) dX12_init_363 rfl ?_
  refine rv_aload_n (q := 367) E.x dX12_init_366 rfl rfl ?_
  refine rv_iconst (q := 368) E.x dX12_init_367 rK_ki2 rfl ?_
  refine rK_newI (q := 370) (N := 2) (k := 44) E (by decide) (by decide) rfl (by decide) (Nat.le_of_ble_eq_true rfl) (Nat.le_of_ble_eq_true rfl) dX12_init_368 rfl ?_
  refine rK_putF (q := 373) (ty := .array .int) E hnm 50 rfl wl12 tyX12_ok nmX12 (rv_al (rv_t7 (List.mem_of_getElem? (i := 132) rfl)) rfl) rfl rfl (Nat.le_of_ble_eq_true rfl) rfl rfl rfl (Nat.le_of_ble_eq_true rfl) dX12_init_370 rfl ?_
  refine rv_aload_n (q := 374) E.x dX12_init_373 rfl rfl ?_
  refine rv_bipush (q := 376) E.x dX12_init_374 rK_kb6 rfl ?_
  refine rK_newI (q := 378) (N := 6) (k := 45) E (by decide) (by decide) rfl (by decide) (Nat.le_of_ble_eq_true rfl) (Nat.le_of_ble_eq_true rfl) dX12_init_376 rfl ?_
  refine rK_putF (q := 381) (ty := .array .int) E hnm 51 rfl wl12 tyX12_ok nmX12 (rv_al (rv_t7 (List.mem_of_getElem? (i := 133) rfl)) rfl) rfl rfl (Nat.le_of_ble_eq_true rfl) rfl rfl rfl (Nat.le_of_ble_eq_true rfl) dX12_init_378 rfl ?_
  refine rv_aload_n (q := 382) E.x dX12_init_381 rfl rfl ?_
  refine rv_bipush (q := 384) E.x dX12_init_382 rK_kb121 rfl ?_
  refine rK_newI (q := 386) (N := 121) (k := 46) E (by decide) (by decide) rfl (by decide) (Nat.le_of_ble_eq_true rfl) (Nat.le_of_ble_eq_true rfl) dX12_init_384 rfl ?_
  refine rK_putF (q := 389) (ty := .array .int) E hnm 53 rfl wl12 tyX12_ok nmX12 (rv_al (rv_t7 (List.mem_of_getElem? (i := 135) rfl)) rfl) rfl rfl (Nat.le_of_ble_eq_true rfl) rfl rfl rfl (Nat.le_of_ble_eq_true rfl) dX12_init_386 rfl ?_
  refine rv_aload_n (q := 390) E.x dX12_init_389 rfl rfl ?_
  refine rv_bipush (q := 392) E.x dX12_init_390 rK_kb10 rfl ?_
  refine rK_newI (q := 394) (N := 10) (k := 47) E (by decide) (by decide) rfl (by decide) (Nat.le_of_ble_eq_true rfl) (Nat.le_of_ble_eq_true rfl) dX12_init_392 rfl ?_
  refine rK_putF (q := 397) (ty := .array .int) E hnm 54 rfl wl12 tyX12_ok nmX12 (rv_al (rv_t7 (List.mem_of_getElem? (i := 136) rfl)) rfl) rfl rfl (Nat.le_of_ble_eq_true rfl) rfl rfl rfl (Nat.le_of_ble_eq_true rfl) dX12_init_394 rfl ?_
  exact kX12_s10 E hnm hret hlk
def kf_X12s8 (b : Nat) : List Value := [.int 2, .ref (b + 1 + 0), .ref (b + 1 + 1), .ref (b + 1 + 2), .ref (b + 1 + 3), .ref (b + 1 + 4), .ref (b + 1 + 5), .ref (b + 1 + 6), .ref (b + 1 + 7), .ref (b + 1 + 8), .ref (b + 1 + 9), .int 0, .ref (b + 1 + 10), .ref (b + 1 + 11), .ref (b + 1 + 12), .ref (b + 1 + 13), .ref (b + 1 + 14), .ref (b + 1 + 15), .ref (b + 1 + 16), .ref (b + 1 + 17), .ref (b + 1 + 18), .ref (b + 1 + 19), .ref (b + 1 + 20), .ref (b + 1 + 21), .int 0, .ref (b + 1 + 22), .ref (b + 1 + 23), .ref (b + 1 + 24), .ref (b + 1 + 25), .ref (b + 1 + 26), .ref (b + 1 + 27), .ref (b + 1 + 28), .ref (b + 1 + 29), .ref (b + 1 + 30), .int 0, .ref (b + 1 + 31), .ref (b + 1 + 32), .ref (b + 1 + 33), .ref (b + 1 + 34), .ref (b + 1 + 35), .ref (b + 1 + 36), .ref (b + 1 + 37), .ref (b + 1 + 38), .null, .int 0, .int 0, .null, .null, .null, .null, .null, .null, .int 0, .null, .null, .null, .null, .null, .null, .null, .null, .null, .null, .int 0, .int 0, .null, .int 0]
def kw_X12s8 (cI cZ : ClassId) : List va_E := [.inl (cI, 82, .inl (fun _ => 0)), .inl (cI, 82, .inl (fun _ => 0)), .inl (cI, 328, .inl (fun _ => 0)), .inl (cI, 3280, .inl (fun _ => 0)), .inl (cI, 82, .inl (fun _ => 0)), .inl (cI, 82, .inl (fun _ => 0)), .inl (cI, 82, .inl (fun _ => 0)), .inl (cI, 82, .inl (fun _ => 0)), .inl (cI, 2, .inl (fun _ => 0)), .inl (cI, 2, .inl (fun _ => 0)), .inl (cI, 20, .inl (fun _ => 0)), .inl (cI, 20, .inl (fun _ => 0)), .inl (cI, 20, .inl (fun _ => 0)), .inl (cZ, 20, .inl (fun _ => 0)), .inl (cZ, 20, .inl (fun _ => 0)), .inl (cI, 20, .inl (fun _ => 0)), .inl (cI, 20, .inl (fun _ => 0)), .inl (cI, 20, .inl (fun _ => 0)), .inl (cI, 20, .inl (fun _ => 0)), .inl (cI, 20, .inl (fun _ => 0)), .inl (cI, 960, .inl (fun _ => 0)), .inl (cI, 6, .inl (fun _ => 0)), .inl (cI, 60, .inl (fun _ => 0)), .inl (cI, 60, .inl (fun _ => 0)), .inl (cI, 60, .inl (fun _ => 0)), .inl (cI, 60, .inl (fun _ => 0)), .inl (cI, 60, .inl (fun _ => 0)), .inl (cI, 60, .inl (fun _ => 0)), .inl (cI, 60, .inl (fun _ => 0)), .inl (cZ, 60, .inl (fun _ => 0)), .inl (cZ, 60, .inl (fun _ => 0)), .inl (cI, 40, .inl (fun _ => 0)), .inl (cI, 40, .inl (fun _ => 0)), .inl (cI, 40, .inl (fun _ => 0)), .inl (cI, 40, .inl (fun _ => 0)), .inl (cI, 40, .inl (fun _ => 0)), .inl (cI, 40, .inl (fun _ => 0)), .inl (cI, 14, .inl (fun _ => 0)), .inl (cZ, 14, .inl (fun _ => 0))]
set_option maxRecDepth 100000 in
set_option maxHeartbeats 8000000 in
theorem kX12_s8 {p : Program} {l : Launch} {e : Env} {s : State} {m : MethodId} {args : Array Value} {below : List Frame} {meth : Method} {c : Code} {D : va_G} {cI cZ cO : ClassId} {de b : Nat} (E : rK_E D cI cZ cO de b (fun q => b ≤ q) RX12 cX12_init 2 p s m args c) (hnm : meth.name = "<init>") (hret : meth.sig.returnType = none) (hlk : meth.locks = false) : rv_M (rK_G D s.heap b 13) (fun q => b ≤ q) p l e rmK_X12_init s m args below meth c 39 6078 (fun _ : Unit => MQ below (rK_Q D b 13 (kf_X12a b, kw_X12_init cI cZ)) args s 57 6705 (fun q => b ≤ q)) (some ()) 322 [some (.ref b), none] [] ((kf_X12s8 b, kw_X12s8 cI cZ) : rK_mu) := by
  unfold kf_X12s8 kw_X12s8
  refine rv_aload_n (q := 323) E.x dX12_init_322 rfl rfl ?_
  refine rv_iconst (q := 324) E.x dX12_init_323 rK_ki4 rfl ?_
  refine rK_newZ (q := 326) (N := 4) (k := 39) E (by decide) (by decide) rfl (by decide) (Nat.le_of_ble_eq_true rfl) (Nat.le_of_ble_eq_true rfl) dX12_init_324 rfl ?_
  refine rK_putF (q := 329) (ty := .array .boolean) E hnm 43 rfl wl12 tyX12_ok nmX12 (rv_al (rv_t7 (List.mem_of_getElem? (i := 125) rfl)) rfl) rfl rfl (Nat.le_of_ble_eq_true rfl) rfl rfl rfl (Nat.le_of_ble_eq_true rfl) dX12_init_326 rfl ?_
  refine rv_aload_n (q := 330) E.x dX12_init_329 rfl rfl ?_
  refine rv_iconst (q := 331) E.x dX12_init_330 rK_ki1 rfl ?_
  refine rK_putN (q := 334) (ty := .int) E 45 rfl wl12 tyX12_ok nmX12 (rv_al (rv_t7 (List.mem_of_getElem? (i := 127) rfl)) rfl) rfl (Nat.le_of_ble_eq_true rfl) rfl rfl rfl (Nat.le_of_ble_eq_true rfl) dX12_init_331 rfl ?_
  refine rv_aload_n (q := 335) E.x dX12_init_334 rfl rfl ?_
  refine rv_bipush (q := 337) E.x dX12_init_335 rK_kb20 rfl ?_
  refine rK_newI (q := 339) (N := 20) (k := 40) E (by decide) (by decide) rfl (by decide) (Nat.le_of_ble_eq_true rfl) (Nat.le_of_ble_eq_true rfl) dX12_init_337 rfl ?_
  refine rK_putF (q := 342) (ty := .array .int) E hnm 46 rfl wl12 tyX12_ok nmX12 (rv_al (rv_t7 (List.mem_of_getElem? (i := 128) rfl)) rfl) rfl rfl (Nat.le_of_ble_eq_true rfl) rfl rfl rfl (Nat.le_of_ble_eq_true rfl) dX12_init_339 rfl ?_
  refine rv_aload_n (q := 343) E.x dX12_init_342 rfl rfl ?_
  refine rv_bipush (q := 345) E.x dX12_init_343 rK_kb20 rfl ?_
  refine rK_newI (q := 347) (N := 20) (k := 41) E (by decide) (by decide) rfl (by decide) (Nat.le_of_ble_eq_true rfl) (Nat.le_of_ble_eq_true rfl) dX12_init_345 rfl ?_
  refine rK_putF (q := 350) (ty := .array .int) E hnm 47 rfl wl12 tyX12_ok nmX12 (rv_al (rv_t7 (List.mem_of_getElem? (i := 129) rfl)) rfl) rfl rfl (Nat.le_of_ble_eq_true rfl) rfl rfl rfl (Nat.le_of_ble_eq_true rfl) dX12_init_347 rfl ?_
  refine rv_aload_n (q := 351) E.x dX12_init_350 rfl rfl ?_
  refine rv_bipush (q := 353) E.x dX12_init_351 rK_kb20 rfl ?_
  refine rK_newI (q := 355) (N := 20) (k := 42) E (by decide) (by decide) rfl (by decide) (Nat.le_of_ble_eq_true rfl) (Nat.le_of_ble_eq_true rfl) dX12_init_353 rfl ?_
  refine rK_putF (q := 358) (ty := .array .int) E hnm 48 rfl wl12 tyX12_ok nmX12 (rv_al (rv_t7 (List.mem_of_getElem? (i := 130) rfl)) rfl) rfl rfl (Nat.le_of_ble_eq_true rfl) rfl rfl rfl (Nat.le_of_ble_eq_true rfl) dX12_init_355 rfl ?_
  exact kX12_s9 E hnm hret hlk
def kf_X12s7 (b : Nat) : List Value := [.int 2, .ref (b + 1 + 0), .ref (b + 1 + 1), .ref (b + 1 + 2), .ref (b + 1 + 3), .ref (b + 1 + 4), .ref (b + 1 + 5), .ref (b + 1 + 6), .ref (b + 1 + 7), .ref (b + 1 + 8), .ref (b + 1 + 9), .int 0, .ref (b + 1 + 10), .ref (b + 1 + 11), .ref (b + 1 + 12), .ref (b + 1 + 13), .ref (b + 1 + 14), .ref (b + 1 + 15), .ref (b + 1 + 16), .ref (b + 1 + 17), .ref (b + 1 + 18), .ref (b + 1 + 19), .ref (b + 1 + 20), .ref (b + 1 + 21), .int 0, .ref (b + 1 + 22), .ref (b + 1 + 23), .ref (b + 1 + 24), .ref (b + 1 + 25), .ref (b + 1 + 26), .ref (b + 1 + 27), .ref (b + 1 + 28), .ref (b + 1 + 29), .ref (b + 1 + 30), .int 0, .ref (b + 1 + 31), .ref (b + 1 + 32), .ref (b + 1 + 33), .null, .null, .null, .null, .null, .null, .int 0, .int 0, .null, .null, .null, .null, .null, .null, .int 0, .null, .null, .null, .null, .null, .null, .null, .null, .null, .null, .int 0, .int 0, .null, .int 0]
def kw_X12s7 (cI cZ : ClassId) : List va_E := [.inl (cI, 82, .inl (fun _ => 0)), .inl (cI, 82, .inl (fun _ => 0)), .inl (cI, 328, .inl (fun _ => 0)), .inl (cI, 3280, .inl (fun _ => 0)), .inl (cI, 82, .inl (fun _ => 0)), .inl (cI, 82, .inl (fun _ => 0)), .inl (cI, 82, .inl (fun _ => 0)), .inl (cI, 82, .inl (fun _ => 0)), .inl (cI, 2, .inl (fun _ => 0)), .inl (cI, 2, .inl (fun _ => 0)), .inl (cI, 20, .inl (fun _ => 0)), .inl (cI, 20, .inl (fun _ => 0)), .inl (cI, 20, .inl (fun _ => 0)), .inl (cZ, 20, .inl (fun _ => 0)), .inl (cZ, 20, .inl (fun _ => 0)), .inl (cI, 20, .inl (fun _ => 0)), .inl (cI, 20, .inl (fun _ => 0)), .inl (cI, 20, .inl (fun _ => 0)), .inl (cI, 20, .inl (fun _ => 0)), .inl (cI, 20, .inl (fun _ => 0)), .inl (cI, 960, .inl (fun _ => 0)), .inl (cI, 6, .inl (fun _ => 0)), .inl (cI, 60, .inl (fun _ => 0)), .inl (cI, 60, .inl (fun _ => 0)), .inl (cI, 60, .inl (fun _ => 0)), .inl (cI, 60, .inl (fun _ => 0)), .inl (cI, 60, .inl (fun _ => 0)), .inl (cI, 60, .inl (fun _ => 0)), .inl (cI, 60, .inl (fun _ => 0)), .inl (cZ, 60, .inl (fun _ => 0)), .inl (cZ, 60, .inl (fun _ => 0)), .inl (cI, 40, .inl (fun _ => 0)), .inl (cI, 40, .inl (fun _ => 0)), .inl (cI, 40, .inl (fun _ => 0))]
set_option maxRecDepth 100000 in
set_option maxHeartbeats 8000000 in
theorem kX12_s7 {p : Program} {l : Launch} {e : Env} {s : State} {m : MethodId} {args : Array Value} {below : List Frame} {meth : Method} {c : Code} {D : va_G} {cI cZ cO : ClassId} {de b : Nat} (E : rK_E D cI cZ cO de b (fun q => b ≤ q) RX12 cX12_init 2 p s m args c) (hnm : meth.name = "<init>") (hret : meth.sig.returnType = none) (hlk : meth.locks = false) : rv_M (rK_G D s.heap b 13) (fun q => b ≤ q) p l e rmK_X12_init s m args below meth c 34 5930 (fun _ : Unit => MQ below (rK_Q D b 13 (kf_X12a b, kw_X12_init cI cZ)) args s 57 6705 (fun q => b ≤ q)) (some ()) 282 [some (.ref b), none] [] ((kf_X12s7 b, kw_X12s7 cI cZ) : rK_mu) := by
  unfold kf_X12s7 kw_X12s7
  refine rv_aload_n (q := 283) E.x dX12_init_282 rfl rfl ?_
  refine rv_bipush (q := 285) E.x dX12_init_283 rK_kb40 rfl ?_
  refine rK_newI (q := 287) (N := 40) (k := 34) E (by decide) (by decide) rfl (by decide) (Nat.le_of_ble_eq_true rfl) (Nat.le_of_ble_eq_true rfl) dX12_init_285 rfl ?_
  refine rK_putF (q := 290) (ty := .array .int) E hnm 38 rfl wl12 tyX12_ok nmX12 (rv_al (rv_t7 (List.mem_of_getElem? (i := 120) rfl)) rfl) rfl rfl (Nat.le_of_ble_eq_true rfl) rfl rfl rfl (Nat.le_of_ble_eq_true rfl) dX12_init_287 rfl ?_
  refine rv_aload_n (q := 291) E.x dX12_init_290 rfl rfl ?_
  refine rv_bipush (q := 293) E.x dX12_init_291 rK_kb40 rfl ?_
  refine rK_newI (q := 295) (N := 40) (k := 35) E (by decide) (by decide) rfl (by decide) (Nat.le_of_ble_eq_true rfl) (Nat.le_of_ble_eq_true rfl) dX12_init_293 rfl ?_
  refine rK_putF (q := 298) (ty := .array .int) E hnm 39 rfl wl12 tyX12_ok nmX12 (rv_al (rv_t7 (List.mem_of_getElem? (i := 121) rfl)) rfl) rfl rfl (Nat.le_of_ble_eq_true rfl) rfl rfl rfl (Nat.le_of_ble_eq_true rfl) dX12_init_295 rfl ?_
  refine rv_aload_n (q := 299) E.x dX12_init_298 rfl rfl ?_
  refine rv_bipush (q := 301) E.x dX12_init_299 rK_kb40 rfl ?_
  refine rK_newI (q := 303) (N := 40) (k := 36) E (by decide) (by decide) rfl (by decide) (Nat.le_of_ble_eq_true rfl) (Nat.le_of_ble_eq_true rfl) dX12_init_301 rfl ?_
  refine rK_putF (q := 306) (ty := .array .int) E hnm 40 rfl wl12 tyX12_ok nmX12 (rv_al (rv_t7 (List.mem_of_getElem? (i := 122) rfl)) rfl) rfl rfl (Nat.le_of_ble_eq_true rfl) rfl rfl rfl (Nat.le_of_ble_eq_true rfl) dX12_init_303 rfl ?_
  refine rv_aload_n (q := 307) E.x dX12_init_306 rfl rfl ?_
  refine rv_bipush (q := 309) E.x dX12_init_307 rK_kb14 rfl ?_
  refine rK_newI (q := 311) (N := 14) (k := 37) E (by decide) (by decide) rfl (by decide) (Nat.le_of_ble_eq_true rfl) (Nat.le_of_ble_eq_true rfl) dX12_init_309 rfl ?_
  refine rK_putF (q := 314) (ty := .array .int) E hnm 41 rfl wl12 tyX12_ok nmX12 (rv_al (rv_t7 (List.mem_of_getElem? (i := 123) rfl)) rfl) rfl rfl (Nat.le_of_ble_eq_true rfl) rfl rfl rfl (Nat.le_of_ble_eq_true rfl) dX12_init_311 rfl ?_
  refine rv_aload_n (q := 315) E.x dX12_init_314 rfl rfl ?_
  refine rv_bipush (q := 317) E.x dX12_init_315 rK_kb14 rfl ?_
  refine rK_newZ (q := 319) (N := 14) (k := 38) E (by decide) (by decide) rfl (by decide) (Nat.le_of_ble_eq_true rfl) (Nat.le_of_ble_eq_true rfl) dX12_init_317 rfl ?_
  refine rK_putF (q := 322) (ty := .array .boolean) E hnm 42 rfl wl12 tyX12_ok nmX12 (rv_al (rv_t7 (List.mem_of_getElem? (i := 124) rfl)) rfl) rfl rfl (Nat.le_of_ble_eq_true rfl) rfl rfl rfl (Nat.le_of_ble_eq_true rfl) dX12_init_319 rfl ?_
  exact kX12_s8 E hnm hret hlk
def kf_X12s6 (b : Nat) : List Value := [.int 2, .ref (b + 1 + 0), .ref (b + 1 + 1), .ref (b + 1 + 2), .ref (b + 1 + 3), .ref (b + 1 + 4), .ref (b + 1 + 5), .ref (b + 1 + 6), .ref (b + 1 + 7), .ref (b + 1 + 8), .ref (b + 1 + 9), .int 0, .ref (b + 1 + 10), .ref (b + 1 + 11), .ref (b + 1 + 12), .ref (b + 1 + 13), .ref (b + 1 + 14), .ref (b + 1 + 15), .ref (b + 1 + 16), .ref (b + 1 + 17), .ref (b + 1 + 18), .ref (b + 1 + 19), .ref (b + 1 + 20), .ref (b + 1 + 21), .int 0, .ref (b + 1 + 22), .ref (b + 1 + 23), .ref (b + 1 + 24), .ref (b + 1 + 25), .ref (b + 1 + 26), .ref (b + 1 + 27), .ref (b + 1 + 28), .null, .null, .int 0, .null, .null, .null, .null, .null, .null, .null, .null, .null, .int 0, .int 0, .null, .null, .null, .null, .null, .null, .int 0, .null, .null, .null, .null, .null, .null, .null, .null, .null, .null, .int 0, .int 0, .null, .int 0]
def kw_X12s6 (cI cZ : ClassId) : List va_E := [.inl (cI, 82, .inl (fun _ => 0)), .inl (cI, 82, .inl (fun _ => 0)), .inl (cI, 328, .inl (fun _ => 0)), .inl (cI, 3280, .inl (fun _ => 0)), .inl (cI, 82, .inl (fun _ => 0)), .inl (cI, 82, .inl (fun _ => 0)), .inl (cI, 82, .inl (fun _ => 0)), .inl (cI, 82, .inl (fun _ => 0)), .inl (cI, 2, .inl (fun _ => 0)), .inl (cI, 2, .inl (fun _ => 0)), .inl (cI, 20, .inl (fun _ => 0)), .inl (cI, 20, .inl (fun _ => 0)), .inl (cI, 20, .inl (fun _ => 0)), .inl (cZ, 20, .inl (fun _ => 0)), .inl (cZ, 20, .inl (fun _ => 0)), .inl (cI, 20, .inl (fun _ => 0)), .inl (cI, 20, .inl (fun _ => 0)), .inl (cI, 20, .inl (fun _ => 0)), .inl (cI, 20, .inl (fun _ => 0)), .inl (cI, 20, .inl (fun _ => 0)), .inl (cI, 960, .inl (fun _ => 0)), .inl (cI, 6, .inl (fun _ => 0)), .inl (cI, 60, .inl (fun _ => 0)), .inl (cI, 60, .inl (fun _ => 0)), .inl (cI, 60, .inl (fun _ => 0)), .inl (cI, 60, .inl (fun _ => 0)), .inl (cI, 60, .inl (fun _ => 0)), .inl (cI, 60, .inl (fun _ => 0)), .inl (cI, 60, .inl (fun _ => 0))]
set_option maxRecDepth 100000 in
set_option maxHeartbeats 8000000 in
theorem kX12_s6 {p : Program} {l : Launch} {e : Env} {s : State} {m : MethodId} {args : Array Value} {below : List Frame} {meth : Method} {c : Code} {D : va_G} {cI cZ cO : ClassId} {de b : Nat} (E : rK_E D cI cZ cO de b (fun q => b ≤ q) RX12 cX12_init 2 p s m args c) (hnm : meth.name = "<init>") (hret : meth.sig.returnType = none) (hlk : meth.locks = false) : rv_M (rK_G D s.heap b 13) (fun q => b ≤ q) p l e rmK_X12_init s m args below meth c 29 5690 (fun _ : Unit => MQ below (rK_Q D b 13 (kf_X12a b, kw_X12_init cI cZ)) args s 57 6705 (fun q => b ≤ q)) (some ()) 242 [some (.ref b), none] [] ((kf_X12s6 b, kw_X12s6 cI cZ) : rK_mu) := by
  unfold kf_X12s6 kw_X12s6
  refine rv_aload_n (q := 243) E.x dX12_init_242 rfl rfl ?_
  refine rv_bipush (q := 245) E.x dX12_init_243 rK_kb60 rfl ?_
  refine rK_newZ (q := 247) (N := 60) (k := 29) E (by decide) (by decide) rfl (by decide) (Nat.le_of_ble_eq_true rfl) (Nat.le_of_ble_eq_true rfl) dX12_init_245 rfl ?_
  refine rK_putF (q := 250) (ty := .array .boolean) E hnm 32 rfl wl12 tyX12_ok nmX12 (rv_al (rv_t7 (List.mem_of_getElem? (i := 114) rfl)) rfl) rfl rfl (Nat.le_of_ble_eq_true rfl) rfl rfl rfl (Nat.le_of_ble_eq_true rfl) dX12_init_247 rfl ?_
  refine rv_aload_n (q := 251) E.x dX12_init_250 rfl rfl ?_
  refine rv_bipush (q := 253) E.x dX12_init_251 rK_kb60 rfl ?_
  refine rK_newZ (q := 255) (N := 60) (k := 30) E (by decide) (by decide) rfl (by decide) (Nat.le_of_ble_eq_true rfl) (Nat.le_of_ble_eq_true rfl) dX12_init_253 rfl ?_
  refine rK_putF (q := 258) (ty := .array .boolean) E hnm 33 rfl wl12 tyX12_ok nmX12 (rv_al (rv_t7 (List.mem_of_getElem? (i := 115) rfl)) rfl) rfl rfl (Nat.le_of_ble_eq_true rfl) rfl rfl rfl (Nat.le_of_ble_eq_true rfl) dX12_init_255 rfl ?_
  refine rv_aload_n (q := 259) E.x dX12_init_258 rfl rfl ?_
  refine rv_bipush (q := 261) E.x dX12_init_259 rK_kb40 rfl ?_
  refine rK_newI (q := 263) (N := 40) (k := 31) E (by decide) (by decide) rfl (by decide) (Nat.le_of_ble_eq_true rfl) (Nat.le_of_ble_eq_true rfl) dX12_init_261 rfl ?_
  refine rK_putF (q := 266) (ty := .array .int) E hnm 35 rfl wl12 tyX12_ok nmX12 (rv_al (rv_t7 (List.mem_of_getElem? (i := 117) rfl)) rfl) rfl rfl (Nat.le_of_ble_eq_true rfl) rfl rfl rfl (Nat.le_of_ble_eq_true rfl) dX12_init_263 rfl ?_
  refine rv_aload_n (q := 267) E.x dX12_init_266 rfl rfl ?_
  refine rv_bipush (q := 269) E.x dX12_init_267 rK_kb40 rfl ?_
  refine rK_newI (q := 271) (N := 40) (k := 32) E (by decide) (by decide) rfl (by decide) (Nat.le_of_ble_eq_true rfl) (Nat.le_of_ble_eq_true rfl) dX12_init_269 rfl ?_
  refine rK_putF (q := 274) (ty := .array .int) E hnm 36 rfl wl12 tyX12_ok nmX12 (rv_al (rv_t7 (List.mem_of_getElem? (i := 118) rfl)) rfl) rfl rfl (Nat.le_of_ble_eq_true rfl) rfl rfl rfl (Nat.le_of_ble_eq_true rfl) dX12_init_271 rfl ?_
  refine rv_aload_n (q := 275) E.x dX12_init_274 rfl rfl ?_
  refine rv_bipush (q := 277) E.x dX12_init_275 rK_kb40 rfl ?_
  refine rK_newI (q := 279) (N := 40) (k := 33) E (by decide) (by decide) rfl (by decide) (Nat.le_of_ble_eq_true rfl) (Nat.le_of_ble_eq_true rfl) dX12_init_277 rfl ?_
  refine rK_putF (q := 282) (ty := .array .int) E hnm 37 rfl wl12 tyX12_ok nmX12 (rv_al (rv_t7 (List.mem_of_getElem? (i := 119) rfl)) rfl) rfl rfl (Nat.le_of_ble_eq_true rfl) rfl rfl rfl (Nat.le_of_ble_eq_true rfl) dX12_init_279 rfl ?_
  exact kX12_s7 E hnm hret hlk
def kf_X12s5 (b : Nat) : List Value := [.int 2, .ref (b + 1 + 0), .ref (b + 1 + 1), .ref (b + 1 + 2), .ref (b + 1 + 3), .ref (b + 1 + 4), .ref (b + 1 + 5), .ref (b + 1 + 6), .ref (b + 1 + 7), .ref (b + 1 + 8), .ref (b + 1 + 9), .int 0, .ref (b + 1 + 10), .ref (b + 1 + 11), .ref (b + 1 + 12), .ref (b + 1 + 13), .ref (b + 1 + 14), .ref (b + 1 + 15), .ref (b + 1 + 16), .ref (b + 1 + 17), .ref (b + 1 + 18), .ref (b + 1 + 19), .ref (b + 1 + 20), .ref (b + 1 + 21), .int 0, .ref (b + 1 + 22), .ref (b + 1 + 23), .null, .null, .null, .null, .null, .null, .null, .int 0, .null, .null, .null, .null, .null, .null, .null, .null, .null, .int 0, .int 0, .null, .null, .null, .null, .null, .null, .int 0, .null, .null, .null, .null, .null, .null, .null, .null, .null, .null, .int 0, .int 0, .null, .int 0]
def kw_X12s5 (cI cZ : ClassId) : List va_E := [.inl (cI, 82, .inl (fun _ => 0)), .inl (cI, 82, .inl (fun _ => 0)), .inl (cI, 328, .inl (fun _ => 0)), .inl (cI, 3280, .inl (fun _ => 0)), .inl (cI, 82, .inl (fun _ => 0)), .inl (cI, 82, .inl (fun _ => 0)), .inl (cI, 82, .inl (fun _ => 0)), .inl (cI, 82, .inl (fun _ => 0)), .inl (cI, 2, .inl (fun _ => 0)), .inl (cI, 2, .inl (fun _ => 0)), .inl (cI, 20, .inl (fun _ => 0)), .inl (cI, 20, .inl (fun _ => 0)), .inl (cI, 20, .inl (fun _ => 0)), .inl (cZ, 20, .inl (fun _ => 0)), .inl (cZ, 20, .inl (fun _ => 0)), .inl (cI, 20, .inl (fun _ => 0)), .inl (cI, 20, .inl (fun _ => 0)), .inl (cI, 20, .inl (fun _ => 0)), .inl (cI, 20, .inl (fun _ => 0)), .inl (cI, 20, .inl (fun _ => 0)), .inl (cI, 960, .inl (fun _ => 0)), .inl (cI, 6, .inl (fun _ => 0)), .inl (cI, 60, .inl (fun _ => 0)), .inl (cI, 60, .inl (fun _ => 0))]
set_option maxRecDepth 100000 in
set_option maxHeartbeats 8000000 in
theorem kX12_s5 {p : Program} {l : Launch} {e : Env} {s : State} {m : MethodId} {args : Array Value} {below : List Frame} {meth : Method} {c : Code} {D : va_G} {cI cZ cO : ClassId} {de b : Nat} (E : rK_E D cI cZ cO de b (fun q => b ≤ q) RX12 cX12_init 2 p s m args c) (hnm : meth.name = "<init>") (hret : meth.sig.returnType = none) (hlk : meth.locks = false) : rv_M (rK_G D s.heap b 13) (fun q => b ≤ q) p l e rmK_X12_init s m args below meth c 24 5390 (fun _ : Unit => MQ below (rK_Q D b 13 (kf_X12a b, kw_X12_init cI cZ)) args s 57 6705 (fun q => b ≤ q)) (some ()) 202 [some (.ref b), none] [] ((kf_X12s5 b, kw_X12s5 cI cZ) : rK_mu) := by
  unfold kf_X12s5 kw_X12s5
  refine rv_aload_n (q := 203) E.x dX12_init_202 rfl rfl ?_
  refine rv_bipush (q := 205) E.x dX12_init_203 rK_kb60 rfl ?_
  refine rK_newI (q := 207) (N := 60) (k := 24) E (by decide) (by decide) rfl (by decide) (Nat.le_of_ble_eq_true rfl) (Nat.le_of_ble_eq_true rfl) dX12_init_205 rfl ?_
  refine rK_putF (q := 210) (ty := .array .int) E hnm 27 rfl wl12 tyX12_ok nmX12 (rv_al (rv_t7 (List.mem_of_getElem? (i := 109) rfl)) rfl) rfl rfl (Nat.le_of_ble_eq_true rfl) rfl rfl rfl (Nat.le_of_ble_eq_true rfl) dX12_init_207 rfl ?_
  refine rv_aload_n (q := 211) E.x dX12_init_210 rfl rfl ?_
  refine rv_bipush (q := 213) E.x dX12_init_211 rK_kb60 rfl ?_
  refine rK_newI (q := 215) (N := 60) (k := 25) E (by decide) (by decide) rfl (by decide) (Nat.le_of_ble_eq_true rfl) (Nat.le_of_ble_eq_true rfl) dX12_init_213 rfl ?_
  refine rK_putF (q := 218) (ty := .array .int) E hnm 28 rfl wl12 tyX12_ok nmX12 (rv_al (rv_t7 (List.mem_of_getElem? (i := 110) rfl)) rfl) rfl rfl (Nat.le_of_ble_eq_true rfl) rfl rfl rfl (Nat.le_of_ble_eq_true rfl) dX12_init_215 rfl ?_
  refine rv_aload_n (q := 219) E.x dX12_init_218 rfl rfl ?_
  refine rv_bipush (q := 221) E.x dX12_init_219 rK_kb60 rfl ?_
  refine rK_newI (q := 223) (N := 60) (k := 26) E (by decide) (by decide) rfl (by decide) (Nat.le_of_ble_eq_true rfl) (Nat.le_of_ble_eq_true rfl) dX12_init_221 rfl ?_
  refine rK_putF (q := 226) (ty := .array .int) E hnm 29 rfl wl12 tyX12_ok nmX12 (rv_al (rv_t7 (List.mem_of_getElem? (i := 111) rfl)) rfl) rfl rfl (Nat.le_of_ble_eq_true rfl) rfl rfl rfl (Nat.le_of_ble_eq_true rfl) dX12_init_223 rfl ?_
  refine rv_aload_n (q := 227) E.x dX12_init_226 rfl rfl ?_
  refine rv_bipush (q := 229) E.x dX12_init_227 rK_kb60 rfl ?_
  refine rK_newI (q := 231) (N := 60) (k := 27) E (by decide) (by decide) rfl (by decide) (Nat.le_of_ble_eq_true rfl) (Nat.le_of_ble_eq_true rfl) dX12_init_229 rfl ?_
  refine rK_putF (q := 234) (ty := .array .int) E hnm 30 rfl wl12 tyX12_ok nmX12 (rv_al (rv_t7 (List.mem_of_getElem? (i := 112) rfl)) rfl) rfl rfl (Nat.le_of_ble_eq_true rfl) rfl rfl rfl (Nat.le_of_ble_eq_true rfl) dX12_init_231 rfl ?_
  refine rv_aload_n (q := 235) E.x dX12_init_234 rfl rfl ?_
  refine rv_bipush (q := 237) E.x dX12_init_235 rK_kb60 rfl ?_
  refine rK_newI (q := 239) (N := 60) (k := 28) E (by decide) (by decide) rfl (by decide) (Nat.le_of_ble_eq_true rfl) (Nat.le_of_ble_eq_true rfl) dX12_init_237 rfl ?_
  refine rK_putF (q := 242) (ty := .array .int) E hnm 31 rfl wl12 tyX12_ok nmX12 (rv_al (rv_t7 (List.mem_of_getElem? (i := 113) rfl)) rfl) rfl rfl (Nat.le_of_ble_eq_true rfl) rfl rfl rfl (Nat.le_of_ble_eq_true rfl) dX12_init_239 rfl ?_
  exact kX12_s6 E hnm hret hlk
def kf_X12s4 (b : Nat) : List Value := [.int 2, .ref (b + 1 + 0), .ref (b + 1 + 1), .ref (b + 1 + 2), .ref (b + 1 + 3), .ref (b + 1 + 4), .ref (b + 1 + 5), .ref (b + 1 + 6), .ref (b + 1 + 7), .ref (b + 1 + 8), .ref (b + 1 + 9), .int 0, .ref (b + 1 + 10), .ref (b + 1 + 11), .ref (b + 1 + 12), .ref (b + 1 + 13), .ref (b + 1 + 14), .ref (b + 1 + 15), .ref (b + 1 + 16), .ref (b + 1 + 17), .ref (b + 1 + 18), .null, .null, .null, .int 0, .null, .null, .null, .null, .null, .null, .null, .null, .null, .int 0, .null, .null, .null, .null, .null, .null, .null, .null, .null, .int 0, .int 0, .null, .null, .null, .null, .null, .null, .int 0, .null, .null, .null, .null, .null, .null, .null, .null, .null, .null, .int 0, .int 0, .null, .int 0]
def kw_X12s4 (cI cZ : ClassId) : List va_E := [.inl (cI, 82, .inl (fun _ => 0)), .inl (cI, 82, .inl (fun _ => 0)), .inl (cI, 328, .inl (fun _ => 0)), .inl (cI, 3280, .inl (fun _ => 0)), .inl (cI, 82, .inl (fun _ => 0)), .inl (cI, 82, .inl (fun _ => 0)), .inl (cI, 82, .inl (fun _ => 0)), .inl (cI, 82, .inl (fun _ => 0)), .inl (cI, 2, .inl (fun _ => 0)), .inl (cI, 2, .inl (fun _ => 0)), .inl (cI, 20, .inl (fun _ => 0)), .inl (cI, 20, .inl (fun _ => 0)), .inl (cI, 20, .inl (fun _ => 0)), .inl (cZ, 20, .inl (fun _ => 0)), .inl (cZ, 20, .inl (fun _ => 0)), .inl (cI, 20, .inl (fun _ => 0)), .inl (cI, 20, .inl (fun _ => 0)), .inl (cI, 20, .inl (fun _ => 0)), .inl (cI, 20, .inl (fun _ => 0))]
set_option maxRecDepth 100000 in
set_option maxHeartbeats 8000000 in
theorem kX12_s4 {p : Program} {l : Launch} {e : Env} {s : State} {m : MethodId} {args : Array Value} {below : List Frame} {meth : Method} {c : Code} {D : va_G} {cI cZ cO : ClassId} {de b : Nat} (E : rK_E D cI cZ cO de b (fun q => b ≤ q) RX12 cX12_init 2 p s m args c) (hnm : meth.name = "<init>") (hret : meth.sig.returnType = none) (hlk : meth.locks = false) : rv_M (rK_G D s.heap b 13) (fun q => b ≤ q) p l e rmK_X12_init s m args below meth c 19 4284 (fun _ : Unit => MQ below (rK_Q D b 13 (kf_X12a b, kw_X12_init cI cZ)) args s 57 6705 (fun q => b ≤ q)) (some ()) 161 [some (.ref b), none] [] ((kf_X12s4 b, kw_X12s4 cI cZ) : rK_mu) := by
  unfold kf_X12s4 kw_X12s4
  refine rv_aload_n (q := 162) E.x dX12_init_161 rfl rfl ?_
  refine rv_bipush (q := 164) E.x dX12_init_162 rK_kb20 rfl ?_
  refine rK_newI (q := 166) (N := 20) (k := 19) E (by decide) (by decide) rfl (by decide) (Nat.le_of_ble_eq_true rfl) (Nat.le_of_ble_eq_true rfl) dX12_init_164 rfl ?_
  refine rK_putF (q := 169) (ty := .array .int) E hnm 21 rfl wl12 tyX12_ok nmX12 (rv_al (rv_t7 (List.mem_of_getElem? (i := 103) rfl)) rfl) rfl rfl (Nat.le_of_ble_eq_true rfl) rfl rfl rfl (Nat.le_of_ble_eq_true rfl) dX12_init_166 rfl ?_
  refine rv_aload_n (q := 170) E.x dX12_init_169 rfl rfl ?_
  refine rv_sipush (q := 173) E.x dX12_init_170 rK_ks960 rfl ?_
  refine rK_newI (q := 175) (N := 960) (k := 20) E (by decide) (by decide) rfl (by decide) (Nat.le_of_ble_eq_true rfl) (Nat.le_of_ble_eq_true rfl) dX12_init_173 rfl ?_
  refine rK_putF (q := 178) (ty := .array .int) E hnm 22 rfl wl12 tyX12_ok nmX12 (rv_al (rv_t7 (List.mem_of_getElem? (i := 104) rfl)) rfl) rfl rfl (Nat.le_of_ble_eq_true rfl) rfl rfl rfl (Nat.le_of_ble_eq_true rfl) dX12_init_175 rfl ?_
  refine rv_aload_n (q := 179) E.x dX12_init_178 rfl rfl ?_
  refine rv_bipush (q := 181) E.x dX12_init_179 rK_kb6 rfl ?_
  refine rK_newI (q := 183) (N := 6) (k := 21) E (by decide) (by decide) rfl (by decide) (Nat.le_of_ble_eq_true rfl) (Nat.le_of_ble_eq_true rfl) dX12_init_181 rfl ?_
  refine rK_putF (q := 186) (ty := .array .int) E hnm 23 rfl wl12 tyX12_ok nmX12 (rv_al (rv_t7 (List.mem_of_getElem? (i := 105) rfl)) rfl) rfl rfl (Nat.le_of_ble_eq_true rfl) rfl rfl rfl (Nat.le_of_ble_eq_true rfl) dX12_init_183 rfl ?_
  refine rv_aload_n (q := 187) E.x dX12_init_186 rfl rfl ?_
  refine rv_bipush (q := 189) E.x dX12_init_187 rK_kb60 rfl ?_
  refine rK_newI (q := 191) (N := 60) (k := 22) E (by decide) (by decide) rfl (by decide) (Nat.le_of_ble_eq_true rfl) (Nat.le_of_ble_eq_true rfl) dX12_init_189 rfl ?_
  refine rK_putF (q := 194) (ty := .array .int) E hnm 25 rfl wl12 tyX12_ok nmX12 (rv_al (rv_t7 (List.mem_of_getElem? (i := 107) rfl)) rfl) rfl rfl (Nat.le_of_ble_eq_true rfl) rfl rfl rfl (Nat.le_of_ble_eq_true rfl) dX12_init_191 rfl ?_
  refine rv_aload_n (q := 195) E.x dX12_init_194 rfl rfl ?_
  refine rv_bipush (q := 197) E.x dX12_init_195 rK_kb60 rfl ?_
  refine rK_newI (q := 199) (N := 60) (k := 23) E (by decide) (by decide) rfl (by decide) (Nat.le_of_ble_eq_true rfl) (Nat.le_of_ble_eq_true rfl) dX12_init_197 rfl ?_
  refine rK_putF (q := 202) (ty := .array .int) E hnm 26 rfl wl12 tyX12_ok nmX12 (rv_al (rv_t7 (List.mem_of_getElem? (i := 108) rfl)) rfl) rfl rfl (Nat.le_of_ble_eq_true rfl) rfl rfl rfl (Nat.le_of_ble_eq_true rfl) dX12_init_199 rfl ?_
  exact kX12_s5 E hnm hret hlk
def kf_X12s3 (b : Nat) : List Value := [.int 2, .ref (b + 1 + 0), .ref (b + 1 + 1), .ref (b + 1 + 2), .ref (b + 1 + 3), .ref (b + 1 + 4), .ref (b + 1 + 5), .ref (b + 1 + 6), .ref (b + 1 + 7), .ref (b + 1 + 8), .ref (b + 1 + 9), .int 0, .ref (b + 1 + 10), .ref (b + 1 + 11), .ref (b + 1 + 12), .ref (b + 1 + 13), .null, .null, .null, .null, .null, .null, .null, .null, .int 0, .null, .null, .null, .null, .null, .null, .null, .null, .null, .int 0, .null, .null, .null, .null, .null, .null, .null, .null, .null, .int 0, .int 0, .null, .null, .null, .null, .null, .null, .int 0, .null, .null, .null, .null, .null, .null, .null, .null, .null, .null, .int 0, .int 0, .null, .int 0]
def kw_X12s3 (cI cZ : ClassId) : List va_E := [.inl (cI, 82, .inl (fun _ => 0)), .inl (cI, 82, .inl (fun _ => 0)), .inl (cI, 328, .inl (fun _ => 0)), .inl (cI, 3280, .inl (fun _ => 0)), .inl (cI, 82, .inl (fun _ => 0)), .inl (cI, 82, .inl (fun _ => 0)), .inl (cI, 82, .inl (fun _ => 0)), .inl (cI, 82, .inl (fun _ => 0)), .inl (cI, 2, .inl (fun _ => 0)), .inl (cI, 2, .inl (fun _ => 0)), .inl (cI, 20, .inl (fun _ => 0)), .inl (cI, 20, .inl (fun _ => 0)), .inl (cI, 20, .inl (fun _ => 0)), .inl (cZ, 20, .inl (fun _ => 0))]
set_option maxRecDepth 100000 in
set_option maxHeartbeats 8000000 in
theorem kX12_s3 {p : Program} {l : Launch} {e : Env} {s : State} {m : MethodId} {args : Array Value} {below : List Frame} {meth : Method} {c : Code} {D : va_G} {cI cZ cO : ClassId} {de b : Nat} (E : rK_E D cI cZ cO de b (fun q => b ≤ q) RX12 cX12_init 2 p s m args c) (hnm : meth.name = "<init>") (hret : meth.sig.returnType = none) (hlk : meth.locks = false) : rv_M (rK_G D s.heap b 13) (fun q => b ≤ q) p l e rmK_X12_init s m args below meth c 14 4184 (fun _ : Unit => MQ below (rK_Q D b 13 (kf_X12a b, kw_X12_init cI cZ)) args s 57 6705 (fun q => b ≤ q)) (some ()) 121 [some (.ref b), none] [] ((kf_X12s3 b, kw_X12s3 cI cZ) : rK_mu) := by
  unfold kf_X12s3 kw_X12s3
  refine rv_aload_n (q := 122) E.x dX12_init_121 rfl rfl ?_
  refine rv_bipush (q := 124) E.x dX12_init_122 rK_kb20 rfl ?_
  refine rK_newZ (q := 126) (N := 20) (k := 14) E (by decide) (by decide) rfl (by decide) (Nat.le_of_ble_eq_true rfl) (Nat.le_of_ble_eq_true rfl) dX12_init_124 rfl ?_
  refine rK_putF (q := 129) (ty := .array .boolean) E hnm 16 rfl wl12 tyX12_ok nmX12 (rv_al (rv_t7 (List.mem_of_getElem? (i := 98) rfl)) rfl) rfl rfl (Nat.le_of_ble_eq_true rfl) rfl rfl rfl (Nat.le_of_ble_eq_true rfl) dX12_init_126 rfl ?_
  refine rv_aload_n (q := 130) E.x dX12_init_129 rfl rfl ?_
  refine rv_bipush (q := 132) E.x dX12_init_130 rK_kb20 rfl ?_
  refine rK_newI (q := 134) (N := 20) (k := 15) E (by decide) (by decide) rfl (by decide) (Nat.le_of_ble_eq_true rfl) (Nat.le_of_ble_eq_true rfl) dX12_init_132 rfl ?_
  refine rK_putF (q := 137) (ty := .array .int) E hnm 17 rfl wl12 tyX12_ok nmX12 (rv_al (rv_t7 (List.mem_of_getElem? (i := 99) rfl)) rfl) rfl rfl (Nat.le_of_ble_eq_true rfl) rfl rfl rfl (Nat.le_of_ble_eq_true rfl) dX12_init_134 rfl ?_
  refine rv_aload_n (q := 138) E.x dX12_init_137 rfl rfl ?_
  refine rv_bipush (q := 140) E.x dX12_init_138 rK_kb20 rfl ?_
  refine rK_newI (q := 142) (N := 20) (k := 16) E (by decide) (by decide) rfl (by decide) (Nat.le_of_ble_eq_true rfl) (Nat.le_of_ble_eq_true rfl) dX12_init_140 rfl ?_
  refine rK_putF (q := 145) (ty := .array .int) E hnm 18 rfl wl12 tyX12_ok nmX12 (rv_al (rv_t7 (List.mem_of_getElem? (i := 100) rfl)) rfl) rfl rfl (Nat.le_of_ble_eq_true rfl) rfl rfl rfl (Nat.le_of_ble_eq_true rfl) dX12_init_142 rfl ?_
  refine rv_aload_n (q := 146) E.x dX12_init_145 rfl rfl ?_
  refine rv_bipush (q := 148) E.x dX12_init_146 rK_kb20 rfl ?_
  refine rK_newI (q := 150) (N := 20) (k := 17) E (by decide) (by decide) rfl (by decide) (Nat.le_of_ble_eq_true rfl) (Nat.le_of_ble_eq_true rfl) dX12_init_148 rfl ?_
  refine rK_putF (q := 153) (ty := .array .int) E hnm 19 rfl wl12 tyX12_ok nmX12 (rv_al (rv_t7 (List.mem_of_getElem? (i := 101) rfl)) rfl) rfl rfl (Nat.le_of_ble_eq_true rfl) rfl rfl rfl (Nat.le_of_ble_eq_true rfl) dX12_init_150 rfl ?_
  refine rv_aload_n (q := 154) E.x dX12_init_153 rfl rfl ?_
  refine rv_bipush (q := 156) E.x dX12_init_154 rK_kb20 rfl ?_
  refine rK_newI (q := 158) (N := 20) (k := 18) E (by decide) (by decide) rfl (by decide) (Nat.le_of_ble_eq_true rfl) (Nat.le_of_ble_eq_true rfl) dX12_init_156 rfl ?_
  refine rK_putF (q := 161) (ty := .array .int) E hnm 20 rfl wl12 tyX12_ok nmX12 (rv_al (rv_t7 (List.mem_of_getElem? (i := 102) rfl)) rfl) rfl rfl (Nat.le_of_ble_eq_true rfl) rfl rfl rfl (Nat.le_of_ble_eq_true rfl) dX12_init_158 rfl ?_
  exact kX12_s4 E hnm hret hlk
def kf_X12s2 (b : Nat) : List Value := [.int 2, .ref (b + 1 + 0), .ref (b + 1 + 1), .ref (b + 1 + 2), .ref (b + 1 + 3), .ref (b + 1 + 4), .ref (b + 1 + 5), .ref (b + 1 + 6), .ref (b + 1 + 7), .ref (b + 1 + 8), .null, .int 0, .null, .null, .null, .null, .null, .null, .null, .null, .null, .null, .null, .null, .int 0, .null, .null, .null, .null, .null, .null, .null, .null, .null, .int 0, .null, .null, .null, .null, .null, .null, .null, .null, .null, .int 0, .int 0, .null, .null, .null, .null, .null, .null, .int 0, .null, .null, .null, .null, .null, .null, .null, .null, .null, .null, .int 0, .int 0, .null, .int 0]
def kw_X12s2 (cI cZ : ClassId) : List va_E := [.inl (cI, 82, .inl (fun _ => 0)), .inl (cI, 82, .inl (fun _ => 0)), .inl (cI, 328, .inl (fun _ => 0)), .inl (cI, 3280, .inl (fun _ => 0)), .inl (cI, 82, .inl (fun _ => 0)), .inl (cI, 82, .inl (fun _ => 0)), .inl (cI, 82, .inl (fun _ => 0)), .inl (cI, 82, .inl (fun _ => 0)), .inl (cI, 2, .inl (fun _ => 0))]
set_option maxRecDepth 100000 in
set_option maxHeartbeats 8000000 in
theorem kX12_s2 {p : Program} {l : Launch} {e : Env} {s : State} {m : MethodId} {args : Array Value} {below : List Frame} {meth : Method} {c : Code} {D : va_G} {cI cZ cO : ClassId} {de b : Nat} (E : rK_E D cI cZ cO de b (fun q => b ≤ q) RX12 cX12_init 2 p s m args c) (hnm : meth.name = "<init>") (hret : meth.sig.returnType = none) (hlk : meth.locks = false) : rv_M (rK_G D s.heap b 13) (fun q => b ≤ q) p l e rmK_X12_init s m args below meth c 9 4102 (fun _ : Unit => MQ below (rK_Q D b 13 (kf_X12a b, kw_X12_init cI cZ)) args s 57 6705 (fun q => b ≤ q)) (some ()) 82 [some (.ref b), none] [] ((kf_X12s2 b, kw_X12s2 cI cZ) : rK_mu) := by
  unfold kf_X12s2 kw_X12s2
  refine rv_aload_n (q := 83) E.x dX12_init_82 rfl rfl ?_
  refine rv_iconst (q := 84) E.x dX12_init_83 rK_ki2 rfl ?_
  refine rK_newI (q := 86) (N := 2) (k := 9) E (by decide) (by decide) rfl (by decide) (Nat.le_of_ble_eq_true rfl) (Nat.le_of_ble_eq_true rfl) dX12_init_84 rfl ?_
  refine rK_putF (q := 89) (ty := .array .int) E hnm 10 rfl wl12 tyX12_ok nmX12 (rv_al (rv_t7 (List.mem_of_getElem? (i := 92) rfl)) rfl) rfl rfl (Nat.le_of_ble_eq_true rfl) rfl rfl rfl (Nat.le_of_ble_eq_true rfl) dX12_init_86 rfl ?_
  refine rv_aload_n (q := 90) E.x dX12_init_89 rfl rfl ?_
  refine rv_bipush (q := 92) E.x dX12_init_90 rK_kb20 rfl ?_
  refine rK_newI (q := 94) (N := 20) (k := 10) E (by decide) (by decide) rfl (by decide) (Nat.le_of_ble_eq_true rfl) (Nat.le_of_ble_eq_true rfl) dX12_init_92 rfl ?_
  refine rK_putF (q := 97) (ty := .array .int) E hnm 12 rfl wl12 tyX12_ok nmX12 (rv_al (rv_t7 (List.mem_of_getElem? (i := 94) rfl)) rfl) rfl rfl (Nat.le_of_ble_eq_true rfl) rfl rfl rfl (Nat.le_of_ble_eq_true rfl) dX12_init_94 rfl ?_
  refine rv_aload_n (q := 98) E.x dX12_init_97 rfl rfl ?_
  refine rv_bipush (q := 100) E.x dX12_init_98 rK_kb20 rfl ?_
  refine rK_newI (q := 102) (N := 20) (k := 11) E (by decide) (by decide) rfl (by decide) (Nat.le_of_ble_eq_true rfl) (Nat.le_of_ble_eq_true rfl) dX12_init_100 rfl ?_
  refine rK_putF (q := 105) (ty := .array .int) E hnm 13 rfl wl12 tyX12_ok nmX12 (rv_al (rv_t7 (List.mem_of_getElem? (i := 95) rfl)) rfl) rfl rfl (Nat.le_of_ble_eq_true rfl) rfl rfl rfl (Nat.le_of_ble_eq_true rfl) dX12_init_102 rfl ?_
  refine rv_aload_n (q := 106) E.x dX12_init_105 rfl rfl ?_
  refine rv_bipush (q := 108) E.x dX12_init_106 rK_kb20 rfl ?_
  refine rK_newI (q := 110) (N := 20) (k := 12) E (by decide) (by decide) rfl (by decide) (Nat.le_of_ble_eq_true rfl) (Nat.le_of_ble_eq_true rfl) dX12_init_108 rfl ?_
  refine rK_putF (q := 113) (ty := .array .int) E hnm 14 rfl wl12 tyX12_ok nmX12 (rv_al (rv_t7 (List.mem_of_getElem? (i := 96) rfl)) rfl) rfl rfl (Nat.le_of_ble_eq_true rfl) rfl rfl rfl (Nat.le_of_ble_eq_true rfl) dX12_init_110 rfl ?_
  refine rv_aload_n (q := 114) E.x dX12_init_113 rfl rfl ?_
  refine rv_bipush (q := 116) E.x dX12_init_114 rK_kb20 rfl ?_
  refine rK_newZ (q := 118) (N := 20) (k := 13) E (by decide) (by decide) rfl (by decide) (Nat.le_of_ble_eq_true rfl) (Nat.le_of_ble_eq_true rfl) dX12_init_116 rfl ?_
  refine rK_putF (q := 121) (ty := .array .boolean) E hnm 15 rfl wl12 tyX12_ok nmX12 (rv_al (rv_t7 (List.mem_of_getElem? (i := 97) rfl)) rfl) rfl rfl (Nat.le_of_ble_eq_true rfl) rfl rfl rfl (Nat.le_of_ble_eq_true rfl) dX12_init_118 rfl ?_
  exact kX12_s3 E hnm hret hlk
def kf_X12s1 (b : Nat) : List Value := [.int 2, .ref (b + 1 + 0), .ref (b + 1 + 1), .ref (b + 1 + 2), .ref (b + 1 + 3), .null, .null, .null, .null, .null, .null, .int 0, .null, .null, .null, .null, .null, .null, .null, .null, .null, .null, .null, .null, .int 0, .null, .null, .null, .null, .null, .null, .null, .null, .null, .int 0, .null, .null, .null, .null, .null, .null, .null, .null, .null, .int 0, .int 0, .null, .null, .null, .null, .null, .null, .int 0, .null, .null, .null, .null, .null, .null, .null, .null, .null, .null, .int 0, .int 0, .null, .int 0]
def kw_X12s1 (cI cZ : ClassId) : List va_E := [.inl (cI, 82, .inl (fun _ => 0)), .inl (cI, 82, .inl (fun _ => 0)), .inl (cI, 328, .inl (fun _ => 0)), .inl (cI, 3280, .inl (fun _ => 0))]
set_option maxRecDepth 100000 in
set_option maxHeartbeats 8000000 in
theorem kX12_s1 {p : Program} {l : Launch} {e : Env} {s : State} {m : MethodId} {args : Array Value} {below : List Frame} {meth : Method} {c : Code} {D : va_G} {cI cZ cO : ClassId} {de b : Nat} (E : rK_E D cI cZ cO de b (fun q => b ≤ q) RX12 cX12_init 2 p s m args c) (hnm : meth.name = "<init>") (hret : meth.sig.returnType = none) (hlk : meth.locks = false) : rv_M (rK_G D s.heap b 13) (fun q => b ≤ q) p l e rmK_X12_init s m args below meth c 4 3772 (fun _ : Unit => MQ below (rK_Q D b 13 (kf_X12a b, kw_X12_init cI cZ)) args s 57 6705 (fun q => b ≤ q)) (some ()) 43 [some (.ref b), none] [] ((kf_X12s1 b, kw_X12s1 cI cZ) : rK_mu) := by
  unfold kf_X12s1 kw_X12s1
  refine rv_aload_n (q := 44) E.x dX12_init_43 rfl rfl ?_
  refine rv_bipush (q := 46) E.x dX12_init_44 rK_kb82 rfl ?_
  refine rK_newI (q := 48) (N := 82) (k := 4) E (by decide) (by decide) rfl (by decide) (Nat.le_of_ble_eq_true rfl) (Nat.le_of_ble_eq_true rfl) dX12_init_46 rfl ?_
  refine rK_putF (q := 51) (ty := .array .int) E hnm 5 rfl wl12 tyX12_ok nmX12 (rv_al (rv_t7 (List.mem_of_getElem? (i := 87) rfl)) rfl) rfl rfl (Nat.le_of_ble_eq_true rfl) rfl rfl rfl (Nat.le_of_ble_eq_true rfl) dX12_init_48 rfl ?_
  refine rv_aload_n (q := 52) E.x dX12_init_51 rfl rfl ?_
  refine rv_bipush (q := 54) E.x dX12_init_52 rK_kb82 rfl ?_
  refine rK_newI (q := 56) (N := 82) (k := 5) E (by decide) (by decide) rfl (by decide) (Nat.le_of_ble_eq_true rfl) (Nat.le_of_ble_eq_true rfl) dX12_init_54 rfl ?_
  refine rK_putF (q := 59) (ty := .array .int) E hnm 6 rfl wl12 tyX12_ok nmX12 (rv_al (rv_t7 (List.mem_of_getElem? (i := 88) rfl)) rfl) rfl rfl (Nat.le_of_ble_eq_true rfl) rfl rfl rfl (Nat.le_of_ble_eq_true rfl) dX12_init_56 rfl ?_
  refine rv_aload_n (q := 60) E.x dX12_init_59 rfl rfl ?_
  refine rv_bipush (q := 62) E.x dX12_init_60 rK_kb82 rfl ?_
  refine rK_newI (q := 64) (N := 82) (k := 6) E (by decide) (by decide) rfl (by decide) (Nat.le_of_ble_eq_true rfl) (Nat.le_of_ble_eq_true rfl) dX12_init_62 rfl ?_
  refine rK_putF (q := 67) (ty := .array .int) E hnm 7 rfl wl12 tyX12_ok nmX12 (rv_al (rv_t7 (List.mem_of_getElem? (i := 89) rfl)) rfl) rfl rfl (Nat.le_of_ble_eq_true rfl) rfl rfl rfl (Nat.le_of_ble_eq_true rfl) dX12_init_64 rfl ?_
  refine rv_aload_n (q := 68) E.x dX12_init_67 rfl rfl ?_
  refine rv_bipush (q := 70) E.x dX12_init_68 rK_kb82 rfl ?_
  refine rK_newI (q := 72) (N := 82) (k := 7) E (by decide) (by decide) rfl (by decide) (Nat.le_of_ble_eq_true rfl) (Nat.le_of_ble_eq_true rfl) dX12_init_70 rfl ?_
  refine rK_putF (q := 75) (ty := .array .int) E hnm 8 rfl wl12 tyX12_ok nmX12 (rv_al (rv_t7 (List.mem_of_getElem? (i := 90) rfl)) rfl) rfl rfl (Nat.le_of_ble_eq_true rfl) rfl rfl rfl (Nat.le_of_ble_eq_true rfl) dX12_init_72 rfl ?_
  refine rv_aload_n (q := 76) E.x dX12_init_75 rfl rfl ?_
  refine rv_iconst (q := 77) E.x dX12_init_76 rK_ki2 rfl ?_
  refine rK_newI (q := 79) (N := 2) (k := 8) E (by decide) (by decide) rfl (by decide) (Nat.le_of_ble_eq_true rfl) (Nat.le_of_ble_eq_true rfl) dX12_init_77 rfl ?_
  refine rK_putF (q := 82) (ty := .array .int) E hnm 9 rfl wl12 tyX12_ok nmX12 (rv_al (rv_t7 (List.mem_of_getElem? (i := 91) rfl)) rfl) rfl rfl (Nat.le_of_ble_eq_true rfl) rfl rfl rfl (Nat.le_of_ble_eq_true rfl) dX12_init_79 rfl ?_
  exact kX12_s2 E hnm hret hlk
set_option maxRecDepth 100000 in
set_option maxHeartbeats 8000000 in
theorem kX12_init {l : Launch} {D : va_G} {cI cZ cO : ClassId} {de b : Nat} : Met l yX12_init (rv_ws yX12_init cX12_init 2 none) rmK_X12_init (va_Pc [.ref b] (rK_P D cI cZ cO de b 13 ([.int 0, .null, .null, .null, .null, .null, .null, .null, .null, .null, .null, .int 0, .null, .null, .null, .null, .null, .null, .null, .null, .null, .null, .null, .null, .int 0, .null, .null, .null, .null, .null, .null, .null, .null, .null, .int 0, .null, .null, .null, .null, .null, .null, .null, .null, .null, .int 0, .int 0, .null, .null, .null, .null, .null, .null, .int 0, .null, .null, .null, .null, .null, .null, .null, .null, .null, .null, .int 0, .int 0, .null, .int 0], []))) (rK_Q D b 13 (kf_X12a b, kw_X12_init cI cZ)) 57 6705 (fun q => b ≤ q) := by
  refine rK_met (own := RX12) rfl (by decide) rfl (Nat.le_of_ble_eq_true rfl) (fun p e s m args below meth c E hnm hret hlk => ?_)
  show rv_M _ _ p l e _ s m args below meth c 0 0 _ (some ()) 0 [some (.ref b), none] [] (([.int 0, .null, .null, .null, .null, .null, .null, .null, .null, .null, .null, .int 0, .null, .null, .null, .null, .null, .null, .null, .null, .null, .null, .null, .null, .int 0, .null, .null, .null, .null, .null, .null, .null, .null, .null, .int 0, .null, .null, .null, .null, .null, .null, .null, .null, .null, .int 0, .int 0, .null, .null, .null, .null, .null, .null, .int 0, .null, .null, .null, .null, .null, .null, .null, .null, .null, .null, .int 0, .int 0, .null, .int 0], []) : rK_mu)
  refine rv_aload_n (q := 1) E.x dX12_init_0 rfl rfl ?_
  refine rK_obj (q := 4) E (rv_al (rv_t7 (List.mem_of_getElem? (i := 81) rfl)) rfl) rfl (Nat.le_of_ble_eq_true rfl) (Nat.le_of_ble_eq_true rfl) dX12_init_1 rfl ?_
  refine rv_aload_n (q := 5) E.x dX12_init_4 rfl rfl ?_
  refine rv_iconst (q := 6) E.x dX12_init_5 rK_ki2 rfl ?_
  refine rK_putN (q := 9) (ty := .int) E 0 rfl wl12 tyX12_ok nmX12 (rv_al (rv_t7 (List.mem_of_getElem? (i := 82) rfl)) rfl) rfl (Nat.le_of_ble_eq_true rfl) rfl rfl rfl (Nat.le_of_ble_eq_true rfl) dX12_init_6 rfl ?_
  refine rv_aload_n (q := 10) E.x dX12_init_9 rfl rfl ?_
  refine rv_bipush (q := 12) E.x dX12_init_10 rK_kb82 rfl ?_
  refine rK_newI (q := 14) (N := 82) (k := 0) E (by decide) (by decide) rfl (by decide) (Nat.le_of_ble_eq_true rfl) (Nat.le_of_ble_eq_true rfl) dX12_init_12 rfl ?_
  refine rK_putF (q := 17) (ty := .array .int) E hnm 1 rfl wl12 tyX12_ok nmX12 (rv_al (rv_t7 (List.mem_of_getElem? (i := 83) rfl)) rfl) rfl rfl (Nat.le_of_ble_eq_true rfl) rfl rfl rfl (Nat.le_of_ble_eq_true rfl) dX12_init_14 rfl ?_
  refine rv_aload_n (q := 18) E.x dX12_init_17 rfl rfl ?_
  refine rv_bipush (q := 20) E.x dX12_init_18 rK_kb82 rfl ?_
  refine rK_newI (q := 22) (N := 82) (k := 1) E (by decide) (by decide) rfl (by decide) (Nat.le_of_ble_eq_true rfl) (Nat.le_of_ble_eq_true rfl) dX12_init_20 rfl ?_
  refine rK_putF (q := 25) (ty := .array .int) E hnm 2 rfl wl12 tyX12_ok nmX12 (rv_al (rv_t7 (List.mem_of_getElem? (i := 84) rfl)) rfl) rfl rfl (Nat.le_of_ble_eq_true rfl) rfl rfl rfl (Nat.le_of_ble_eq_true rfl) dX12_init_22 rfl ?_
  refine rv_aload_n (q := 26) E.x dX12_init_25 rfl rfl ?_
  refine rv_sipush (q := 29) E.x dX12_init_26 rK_ks328 rfl ?_
  refine rK_newI (q := 31) (N := 328) (k := 2) E (by decide) (by decide) rfl (by decide) (Nat.le_of_ble_eq_true rfl) (Nat.le_of_ble_eq_true rfl) dX12_init_29 rfl ?_
  refine rK_putF (q := 34) (ty := .array .int) E hnm 3 rfl wl12 tyX12_ok nmX12 (rv_al (rv_t7 (List.mem_of_getElem? (i := 85) rfl)) rfl) rfl rfl (Nat.le_of_ble_eq_true rfl) rfl rfl rfl (Nat.le_of_ble_eq_true rfl) dX12_init_31 rfl ?_
  refine rv_aload_n (q := 35) E.x dX12_init_34 rfl rfl ?_
  refine rv_sipush (q := 38) E.x dX12_init_35 rK_ks3280 rfl ?_
  refine rK_newI (q := 40) (N := 3280) (k := 3) E (by decide) (by decide) rfl (by decide) (Nat.le_of_ble_eq_true rfl) (Nat.le_of_ble_eq_true rfl) dX12_init_38 rfl ?_
  refine rK_putF (q := 43) (ty := .array .int) E hnm 4 rfl wl12 tyX12_ok nmX12 (rv_al (rv_t7 (List.mem_of_getElem? (i := 86) rfl)) rfl) rfl rfl (Nat.le_of_ble_eq_true rfl) rfl rfl rfl (Nat.le_of_ble_eq_true rfl) dX12_init_40 rfl ?_
  exact kX12_s1 E hnm hret hlk
