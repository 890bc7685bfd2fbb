/-! THE LAW FROM ITS START, out of what the pure part owes -/
theorem st_ot12 : ∀ j, j < 12 → defaultValue (tyX11 j) = vp_V [.null, .null, .null, .null, .null, .null, .null, .null, .null, .null, .null, .int 0] j := fun j hj => match j, hj with | 0, _ => rfl | 1, _ => rfl | 2, _ => rfl | 3, _ => rfl | 4, _ => rfl | 5, _ => rfl | 6, _ => rfl | 7, _ => rfl | 8, _ => rfl | 9, _ => rfl | 10, _ => rfl | 11, _ => rfl | j + 12, h => absurd h (by omega)
set_option maxRecDepth 100000 in
set_option maxHeartbeats 8000000 in
theorem whole_of {p : Program} {e : Env} {s : State} {m : MethodId} {below : List Frame} {meth : Method} {c : Code} (l : Launch) (hflags : l.flags = flags0) {b L : Nat} {xs : Nat → Int32} (C0 : lw_At p s m meth c b L xs) {r : rC_gh × rv_Mem × rv_Mem} (hgp : gp_law_23 L xs m0_gh m0_C (fun _ _ => 0) = some (true, r)) : W p l e room_1 s m #[Value.ref b] below meth c s.heap [] 0 0 (lw_Z below #[Value.ref b] s) (entryFrame m ([Value.ref b] : List Value).toArray 19) := by
  obtain ⟨hx, hb, hr, hml, hown, hts, hX, hbl, hlk, hgv⟩ := C0
  have hs : ∀ w ∈ st_fl, w.before #[Value.ref b] s = true := flat_of_before _ hgv
  obtain ⟨D, cI, cZ, cO, hK⟩ := st_K hts hgv
  have htk := st_tk hts hs
  obtain ⟨mi, de, hmt, hde⟩ := st_mk hts hs
  have hLA := st_LA hs hK hde
  have hlt : de < s.heap.size := hLA.lt
  have hfl : l.stackTraces = false := by unfold Launch.stackTraces; rw [hflags]; decide
  have hta : ∀ w ∈ rv_AL, w.before #[Value.ref b] s = true := fun w hw => hts w (rv_ALin hw)
  have E1 : CallFix p m c cL_law 19 s #[.ref b] rv_AL RL := ⟨hx, hb, hml, hown, hta⟩
  have hKX : rK_X D cI cZ cO de (fun q => s.heap.size ≤ q) s s.heap := ⟨hK, hmt.2.2.2.1, st_rK_N hts⟩
  have k0 : ∀ ls : Array Slot, rv_has ls (some (.ref b) :: List.replicate 18 none) → W p l e room_1 s m #[Value.ref b] below meth c s.heap [] 0 0 (lw_Z below #[Value.ref b] s) (F0 m 0 ls []) := by
    intro ls hl
    have hKn := hK.1 12 _ rfl
    refine W.newcK hx hb hown (hta _ (rv_al (rv_t1 (List.mem_of_getElem? (i := 29) rfl)) rfl)) (hta _ (rv_al (rv_t1 (List.mem_of_getElem? (i := 30) rfl)) rfl)) (hta _ (rv_al (rv_t1 (List.mem_of_getElem? (i := 1) rfl)) rfl)) rfl dL_law_0 (Nat.le_of_ble_eq_true rfl) (Nat.le_of_ble_eq_true rfl) hKn.2.1 rfl fun H1 kC hkC e1 z1 o1 => ?_
    have c1 : va_at D vwCl (s.heap.size, .inr (12, [.null, .null, .null, .null, .null, .null, .null, .null, .null, .null, .null, .int 0])) H1 := ⟨_, rfl, (u_born tyX11 hta wlX11 hKn hkC e1 tyX11_ok).to st_ot12⟩
    have hS1 : va_S (fun q => s.heap.size ≤ q) s.heap H1 [] := ⟨by omega, fun q h1 _ => o1 q h1, fun l9 h9 => by cases h9⟩
    have w1 : rK_W D s.heap.size 12 ([.null, .null, .null, .null, .null, .null, .null, .null, .null, .null, .null, .int 0], []) H1 := ⟨z1, c1, fun i x hx => by simp at hx⟩
    refine lv_dup hx hb dL_law_3 rfl ?_
    refine va_callv (va_runI (As := []) (rest := [.ref s.heap.size]) E1 kX11_init (cwI 0 hta (rv_gN (rv_al (rv_t1 (List.mem_of_getElem? (i := 33) rfl)) rfl)) rfl rfl rfl (hta _ (rv_al (rv_t1 (List.mem_of_getElem? (i := 1) rfl)) rfl)) (hta _ (rv_al (rv_t1 (List.mem_of_getElem? (i := 31) rfl)) rfl)) (hta _ (rv_al (rv_t1 (List.mem_of_getElem? (i := 32) rfl)) rfl)) rfl (by decide +kernel) ⟨Nat.le_of_ble_eq_true rfl, Nat.le_of_ble_eq_true rfl⟩) ⟨rK_P.bl, fun U hU hW => ⟨rfl, rK_P.go (b2 := s.heap.size) hU hW hKX hS1 (fun q h => h) w1⟩⟩ rfl rfl hl.1 rfl (Nat.le_of_ble_eq_true rfl) dL_law_4 ⟨Nat.le_of_ble_eq_true rfl, Nat.le_of_ble_eq_true rfl⟩) hS1 (fun q _ h => h) (fun q h => h) (fun u t H2 locs2 ht hvm hw hB hz2 hk2 hS2 => ?_)
    have hB : rK_W D s.heap.size 12 (kf_X11_init s.heap.size, kw_X11_init cI cZ cO de s.heap.size) t.heap := hB
    rw [ht] at hB
    have z2 : H2.size = s.heap.size + 53 := hB.1
    have hLA2 : rC_LA D cO de 0 0 (fun _ => none) H2 := hLA.kept (hS2.2.1 de hlt (Nat.not_le.mpr hlt))
    have hGC2 := m0_G hB hLA2 hlt
    refine lv_astore_n hx hb dL_law_7 rfl (rv_has_k hl) (Nat.le_of_ble_eq_true rfl) rfl (fun ls2 hl' => ?_)
    have hl2 : rv_has ls2 (some (.ref b) :: some (.ref s.heap.size) :: List.replicate 17 none) := rv_has_set (i := 1) (Nat.le_of_ble_eq_true rfl) rfl hl'
    refine lv_bipush (v := 32) hx hb dL_law_8 (by decide) ?_
    refine va_newaK (N := 32) hx hb (hta _ (rv_al (rv_t1 (List.mem_of_getElem? (i := 84) rfl)) rfl)) rfl dL_law_10 rfl (by decide) (by decide) (Nat.le_of_ble_eq_true rfl) (Nat.le_of_ble_eq_true rfl) (Nat.le_of_ble_eq_true rfl) z2 (fun H3 cA e3 z3 o3 hA3 hf3 => ?_)
    have hcA : cA = cI := Option.some.inj (hf3.symm.trans (hK.2 0 _ rfl).2)
    subst hcA
    have a3 : va_at D vwCl (s.heap.size + 53, .inl (cA, 32, .inl (fun _ => 0))) H3 := e3
    have hS3 : va_S (fun q => s.heap.size ≤ q) s.heap H3 locs2 := ⟨by omega, fun q h1 h2 => (o3 q (by omega)).trans (hS2.2.1 q h1 h2), hS2.2.2⟩
    refine lv_astore_n hx hb dL_law_12 rfl (rv_has_k hl2) (Nat.le_of_ble_eq_true rfl) rfl (fun ls3 hl' => ?_)
    have hl3 : rv_has ls3 (some (.ref b) :: some (.ref s.heap.size) :: some (.ref (s.heap.size + 53)) :: List.replicate 16 none) := rv_has_set (i := 2) (Nat.le_of_ble_eq_true rfl) rfl hl'
    refine lv_bipush (v := 60) hx hb dL_law_13 (by decide) ?_
    refine va_newaK (N := 60) hx hb (hta _ (rv_al (rv_t1 (List.mem_of_getElem? (i := 84) rfl)) rfl)) rfl dL_law_15 rfl (by decide) (by decide) (Nat.le_of_ble_eq_true rfl) (Nat.le_of_ble_eq_true rfl) (Nat.le_of_ble_eq_true rfl) z3 (fun H4 cA4 e4 z4 o4 hA4 hf4 => ?_)
    have hcA4 : cA4 = cA := Option.some.inj (hf4.symm.trans (hK.2 0 _ rfl).2)
    subst hcA4
    have a4 : va_at D vwCl (s.heap.size + 53 + 1, .inl (cA4, 60, .inl (fun _ => 0))) H4 := e4
    have hS4 : va_S (fun q => s.heap.size ≤ q) s.heap H4 locs2 := ⟨by omega, fun q h1 h2 => (o4 q (by omega)).trans (hS3.2.1 q h1 h2), hS3.2.2⟩
    refine lv_astore_n hx hb dL_law_17 rfl (rv_has_k hl3) (Nat.le_of_ble_eq_true rfl) rfl (fun ls4 hl' => ?_)
    have hl4 : rv_has ls4 (some (.ref b) :: some (.ref s.heap.size) :: some (.ref (s.heap.size + 53)) :: some (.ref (s.heap.size + 54)) :: List.replicate 15 none) := rv_has_set (i := 3) (Nat.le_of_ble_eq_true rfl) rfl hl'
    refine lv_iconst (v := 2) hx hb dL_law_18 (by decide) ?_
    refine va_newaK (N := 2) hx hb (hta _ (rv_al (rv_t1 (List.mem_of_getElem? (i := 84) rfl)) rfl)) rfl dL_law_19 rfl (by decide) (by decide) (Nat.le_of_ble_eq_true rfl) (Nat.le_of_ble_eq_true rfl) (Nat.le_of_ble_eq_true rfl) z4 (fun H5 cA5 e5 z5 o5 hA5 hf5 => ?_)
    have hcA5 : cA5 = cA4 := Option.some.inj (hf5.symm.trans (hK.2 0 _ rfl).2)
    subst hcA5
    have a5 : va_at D vwCl (s.heap.size + 53 + 1 + 1, .inl (cA5, 2, .inl (fun _ => 0))) H5 := e5
    have hS5 : va_S (fun q => s.heap.size ≤ q) s.heap H5 locs2 := ⟨by omega, fun q h1 h2 => (o5 q (by omega)).trans (hS4.2.1 q h1 h2), hS4.2.2⟩
    refine lv_astore hx hb dL_law_21 (rv_has_k hl4) (Nat.le_of_ble_eq_true rfl) rfl (fun ls5 hl' => ?_)
    have hl5 : rv_has ls5 (some (.ref b) :: some (.ref s.heap.size) :: some (.ref (s.heap.size + 53)) :: some (.ref (s.heap.size + 54)) :: some (.ref (s.heap.size + 55)) :: List.replicate 14 none) := rv_has_set (i := 4) (Nat.le_of_ble_eq_true rfl) rfl hl'
    have E : lk_E D cA5 cZ cO mi de s.heap.size b L (fun i => s.heap.size + 53 + i) xs cL_law 19 (some .boolean) p l s m #[.ref b] meth c := ⟨E1, ⟨hK, st_rC_nw hts, htk, hmt, st_xt hgv, hX, Nat.le_refl _⟩, ⟨hfl, hbl, hlt, fun i hi => (by show s.heap.size ≤ s.heap.size + 53 + i; omega), fun i j hi hj h => (by have h : s.heap.size + 53 + i = s.heap.size + 53 + j := h; omega)⟩, hr, hlk⟩
    have b3 : va_at D vwCl (s.heap.size + 53, .inl (cA5, 32, .inl (fun _ => 0))) H5 := (a3.kept (o4 _ (by omega))).kept (o5 _ (by omega))
    have b4 : va_at D vwCl (s.heap.size + 53 + 1, .inl (cA5, 60, .inl (fun _ => 0))) H5 := a4.kept (o5 _ (by omega))
    have hG : lk_G D cA5 cZ cO de s.heap.size s.heap.size (fun i => s.heap.size + 53 + i) (m0_gh, m0_C, fun _ _ => 0) H5 := by
      refine ⟨m0_ad s.heap.size de, rfl, m0_I, fun q h => ?_, rC_kept hGC2 (fun q hq => (o5 q (by omega)).trans ((o4 q (by omega)).trans (o3 q (by omega)))), fun i hi => ?_⟩
      · have h9 := m0_in h
        exact ⟨h9.1, fun i hi z => (by have z : q = s.heap.size + 53 + i := z; omega)⟩
      · match i, hi with
        | 0, _ => exact b3
        | 1, _ => exact b4
        | 2, _ => exact a5
    exact (rv_wd 60 8000 (Nat.le_of_ble_eq_true rfl) (Nat.le_of_ble_eq_true rfl) (bp_law E ⟨Nat.le_refl _, rfl⟩ m0_gh m0_C (fun _ _ => 0))) _ hgp H5 locs2 ls5 hG hS5 hl5
  rw [lg_entry_eq]
  exact k0 _ (rv_entryL [.ref b] (Nat.le_of_ble_eq_true rfl) (lv_entry [.ref b] (n := 19) (Nat.le_of_ble_eq_true rfl)))
