set_option maxRecDepth 100000 in
theorem bp_law_1896 {p : Program} {l : Launch} {e : Env} {s : State} {m : MethodId} {args : Array Value} {below : List Frame} {meth : Method} {c : Code} {D : va_G} {cI cZ cO : ClassId} {mi de z0 o b L : Nat} {k : Nat → Nat} {xs : Nat → Int32} (E : lk_E D cI cZ cO mi de z0 b L k xs cL_law 19 (some .boolean) p l s m args meth c) (HL : s.heap.size ≤ z0 ∧ args = #[Value.ref b])  (k69 : rC_gh → rv_Mem → rv_Mem → Bool → Int32 → Option (Bool × rC_gh × rv_Mem × rv_Mem)) (y1 y2 : Nat) (hy1 : y1 + 518 ≤ 48223) (hy2 : y2 + 24782 ≤ 2312135) (h69 : ∀ (gh : rC_gh) (M : rv_Mem) (A : rv_Mem) (x5 : Bool) (x6 : Int32), rv_M (lk_G D cI cZ cO de z0 o k) (fun q => z0 ≤ q) p l e room_1 s m args below meth c (y1 + 518) (y2 + 24782) (lk_qL below args s) (k69 gh M A x5 x6) 69 [some (.ref b), some (.ref o), some (.ref (k 0)), some (.ref (k 1)), some (.ref (k 2)), some (.int (rv_i x5)), some (.int x6), none, none, none, none, none, none, none, none, none, none, none, none] [] (gh, M, A)) : ∀ (gh : rC_gh) (M : rv_Mem) (A : rv_Mem) (x6 : Int32) (s0 : Bool), rv_M (lk_G D cI cZ cO de z0 o k) (fun q => z0 ≤ q) p l e room_1 s m args below meth c (y1 + 518) (y2 + 24782) (lk_qL below args s) (gp_law_1896 L xs k69 gh M A x6 s0) 1896 [some (.ref b), some (.ref o), some (.ref (k 0)), some (.ref (k 1)), some (.ref (k 2)), none, some (.int x6), none, none, none, none, none, none, none, none, none, none, none, none] [.int (rv_i s0)] (gh, M, A) := by
  intro gh M A x6 s0
  unfold gp_law_1896
  refine rv_istore (q := 1898) (lv' := [_, _, _, _, _, _, _, _, _, _, _, _, _, _, _, _, _, _, _]) E.x dL_law_1896 (Nat.le_of_ble_eq_true rfl) rfl rfl rfl ?_
  refine rv_iinc (q := 1901) (lv' := [_, _, _, _, _, _, _, _, _, _, _, _, _, _, _, _, _, _, _]) E.x dL_law_1898 rv_ki1 rfl rfl rfl rfl ?_
  refine rv_goto (q := 69) E.x dL_law_1901 (by decide) ?_
  refine rv_wk [true, true, true, true, true, true, true, false, false, false, false, false, false, false, false, false, false, false, false] ?_
  exact h69 gh M A s0 (x6 + 1)
set_option maxRecDepth 100000 in
theorem bp_law_1891 {p : Program} {l : Launch} {e : Env} {s : State} {m : MethodId} {args : Array Value} {below : List Frame} {meth : Method} {c : Code} {D : va_G} {cI cZ cO : ClassId} {mi de z0 o b L : Nat} {k : Nat → Nat} {xs : Nat → Int32} (E : lk_E D cI cZ cO mi de z0 b L k xs cL_law 19 (some .boolean) p l s m args meth c) (HL : s.heap.size ≤ z0 ∧ args = #[Value.ref b])  (k69 : rC_gh → rv_Mem → rv_Mem → Bool → Int32 → Option (Bool × rC_gh × rv_Mem × rv_Mem)) (y1 y2 : Nat) (hy1 : y1 + 518 ≤ 48223) (hy2 : y2 + 24782 ≤ 2312135) (h69 : ∀ (gh : rC_gh) (M : rv_Mem) (A : rv_Mem) (x5 : Bool) (x6 : Int32), rv_M (lk_G D cI cZ cO de z0 o k) (fun q => z0 ≤ q) p l e room_1 s m args below meth c (y1 + 518) (y2 + 24782) (lk_qL below args s) (k69 gh M A x5 x6) 69 [some (.ref b), some (.ref o), some (.ref (k 0)), some (.ref (k 1)), some (.ref (k 2)), some (.int (rv_i x5)), some (.int x6), none, none, none, none, none, none, none, none, none, none, none, none] [] (gh, M, A)) : ∀ (gh : rC_gh) (M : rv_Mem) (A : rv_Mem) (x6 : Int32), rv_M (lk_G D cI cZ cO de z0 o k) (fun q => z0 ≤ q) p l e room_1 s m args below meth c (y1 + 518) (y2 + 24782) (lk_qL below args s) (gp_law_1891 L xs k69 gh M A x6) 1891 [some (.ref b), some (.ref o), some (.ref (k 0)), some (.ref (k 1)), some (.ref (k 2)), none, some (.int x6), none, none, none, none, none, none, none, none, none, none, none, none] [] (gh, M, A) := by
  intro gh M A x6
  unfold gp_law_1891
  refine rv_iconst (q := 1892) E.x dL_law_1891 rv_ki1 rfl ?_
  refine rv_goto (q := 1896) E.x dL_law_1892 (by decide) ?_
  refine rv_wk [true, true, true, true, true, false, true, false, false, false, false, false, false, false, false, false, false, false, false] ?_
  exact bp_law_1896 E HL k69 y1 y2 hy1 hy2 h69 gh M A x6 true
set_option maxRecDepth 100000 in
theorem bp_law_1895 {p : Program} {l : Launch} {e : Env} {s : State} {m : MethodId} {args : Array Value} {below : List Frame} {meth : Method} {c : Code} {D : va_G} {cI cZ cO : ClassId} {mi de z0 o b L : Nat} {k : Nat → Nat} {xs : Nat → Int32} (E : lk_E D cI cZ cO mi de z0 b L k xs cL_law 19 (some .boolean) p l s m args meth c) (HL : s.heap.size ≤ z0 ∧ args = #[Value.ref b])  (k69 : rC_gh → rv_Mem → rv_Mem → Bool → Int32 → Option (Bool × rC_gh × rv_Mem × rv_Mem)) (y1 y2 : Nat) (hy1 : y1 + 518 ≤ 48223) (hy2 : y2 + 24782 ≤ 2312135) (h69 : ∀ (gh : rC_gh) (M : rv_Mem) (A : rv_Mem) (x5 : Bool) (x6 : Int32), rv_M (lk_G D cI cZ cO de z0 o k) (fun q => z0 ≤ q) p l e room_1 s m args below meth c (y1 + 518) (y2 + 24782) (lk_qL below args s) (k69 gh M A x5 x6) 69 [some (.ref b), some (.ref o), some (.ref (k 0)), some (.ref (k 1)), some (.ref (k 2)), some (.int (rv_i x5)), some (.int x6), none, none, none, none, none, none, none, none, none, none, none, none] [] (gh, M, A)) : ∀ (gh : rC_gh) (M : rv_Mem) (A : rv_Mem) (x6 : Int32), rv_M (lk_G D cI cZ cO de z0 o k) (fun q => z0 ≤ q) p l e room_1 s m args below meth c (y1 + 518) (y2 + 24782) (lk_qL below args s) (gp_law_1895 L xs k69 gh M A x6) 1895 [some (.ref b), some (.ref o), some (.ref (k 0)), some (.ref (k 1)), some (.ref (k 2)), none, some (.int x6), none, none, none, none, none, none, none, none, none, none, none, none] [] (gh, M, A) := by
  intro gh M A x6
  unfold gp_law_1895
  refine rv_iconst (q := 1896) E.x dL_law_1895 rv_ki0 rfl ?_
  refine rv_wk [true, true, true, true, true, false, true, false, false, false, false, false, false, false, false, false, false, false, false] ?_
  exact bp_law_1896 E HL k69 y1 y2 hy1 hy2 h69 gh M A x6 false
set_option maxRecDepth 100000 in
theorem bp_law_1869 {p : Program} {l : Launch} {e : Env} {s : State} {m : MethodId} {args : Array Value} {below : List Frame} {meth : Method} {c : Code} {D : va_G} {cI cZ cO : ClassId} {mi de z0 o b L : Nat} {k : Nat → Nat} {xs : Nat → Int32} (E : lk_E D cI cZ cO mi de z0 b L k xs cL_law 19 (some .boolean) p l s m args meth c) (HL : s.heap.size ≤ z0 ∧ args = #[Value.ref b])  (k69 : rC_gh → rv_Mem → rv_Mem → Bool → Int32 → Option (Bool × rC_gh × rv_Mem × rv_Mem)) (y1 y2 : Nat) (hy1 : y1 + 518 ≤ 48223) (hy2 : y2 + 24782 ≤ 2312135) (h69 : ∀ (gh : rC_gh) (M : rv_Mem) (A : rv_Mem) (x5 : Bool) (x6 : Int32), rv_M (lk_G D cI cZ cO de z0 o k) (fun q => z0 ≤ q) p l e room_1 s m args below meth c (y1 + 518) (y2 + 24782) (lk_qL below args s) (k69 gh M A x5 x6) 69 [some (.ref b), some (.ref o), some (.ref (k 0)), some (.ref (k 1)), some (.ref (k 2)), some (.int (rv_i x5)), some (.int x6), none, none, none, none, none, none, none, none, none, none, none, none] [] (gh, M, A)) : ∀ (gh : rC_gh) (M : rv_Mem) (A : rv_Mem) (x6 : Int32) (x7 : Int32), rv_M (lk_G D cI cZ cO de z0 o k) (fun q => z0 ≤ q) p l e room_1 s m args below meth c (y1 + 7) (y2 + 392) (lk_qL below args s) (gp_law_1869 L xs k69 gh M A x6 x7) 1869 [some (.ref b), some (.ref o), some (.ref (k 0)), some (.ref (k 1)), some (.ref (k 2)), none, some (.int x6), some (.int x7), none, none, none, none, none, none, none, none, none, none, none] [] (gh, M, A) := by
  intro gh M A x6 x7
  unfold gp_law_1869
  refine rv_iload (q := 1871) E.x dL_law_1869 rfl rfl ?_
  refine rv_bipush (q := 1873) E.x dL_law_1871 rv_kb20 rfl ?_
  refine rv_irem (q := 1874) E.x dL_law_1873 (by decide) rfl ?_
  refine rv_if_gt (q := 1877) (tgt := 1891) E.x dL_law_1874 (by decide) rfl ?_ ?_
  · refine rv_aload_n (q := 1878) E.x dL_law_1877 rfl rfl ?_
    refine rv_aload_n (q := 1879) E.x dL_law_1878 rfl rfl ?_
    refine rv_aload (q := 1881) E.x dL_law_1879 rfl rfl ?_
    refine rv_iload (q := 1883) E.x dL_law_1881 rfl rfl ?_
    refine rv_iconst (q := 1884) E.x dL_law_1883 rv_ki3 rfl ?_
    refine rv_idiv (q := 1885) E.x dL_law_1884 (by decide) rfl ?_
    refine lk_b3 (fun r2 g4 M3 e1 => ?_)
    refine lk_cs (q := 1888) (v := (rv_i r2)) (σ' := (g4, M3, A)) E (wP_isRefused E.2.2.1 e1) gPs_253 hP_isRefused ⟨rfl, rfl⟩ ⟨Nat.le_of_ble_eq_true rfl, Nat.le_of_ble_eq_true rfl⟩ ⟨lk_le2 hy1 (Nat.le_of_ble_eq_true rfl) (Nat.le_of_ble_eq_true rfl), lk_le2 hy2 (Nat.le_of_ble_eq_true rfl) (Nat.le_of_ble_eq_true rfl)⟩ rfl rfl rfl (Nat.le_of_ble_eq_true rfl) dL_law_1885 rfl ?_
    refine rv_wd (y1 + 518) (y2 + 24782) (Nat.le_of_eq (Nat.add_assoc _ _ _)) (Nat.le_of_eq (Nat.add_assoc _ _ _)) ?_
    refine rv_ifz_eq (q := 1891) (tgt := 1895) E.x dL_law_1888 (by decide) rfl ?_ ?_
    · refine rv_wk [true, true, true, true, true, false, true, false, false, false, false, false, false, false, false, false, false, false, false] ?_
      exact bp_law_1891 E HL k69 y1 y2 hy1 hy2 h69 g4 M3 A x6
    · refine rv_wk [true, true, true, true, true, false, true, false, false, false, false, false, false, false, false, false, false, false, false] ?_
      exact bp_law_1895 E HL k69 y1 y2 hy1 hy2 h69 g4 M3 A x6
  · refine rv_wk [true, true, true, true, true, false, true, false, false, false, false, false, false, false, false, false, false, false, false] ?_
    refine rv_wd (y1 + 518) (y2 + 24782) (Nat.add_le_add_left (Nat.le_of_ble_eq_true rfl) _) (Nat.add_le_add_left (Nat.le_of_ble_eq_true rfl) _) ?_
    exact bp_law_1891 E HL k69 y1 y2 hy1 hy2 h69 gh M A x6
set_option maxRecDepth 100000 in
theorem bp_law_1835 {p : Program} {l : Launch} {e : Env} {s : State} {m : MethodId} {args : Array Value} {below : List Frame} {meth : Method} {c : Code} {D : va_G} {cI cZ cO : ClassId} {mi de z0 o b L : Nat} {k : Nat → Nat} {xs : Nat → Int32} (E : lk_E D cI cZ cO mi de z0 b L k xs cL_law 19 (some .boolean) p l s m args meth c) (HL : s.heap.size ≤ z0 ∧ args = #[Value.ref b])  (k69 : rC_gh → rv_Mem → rv_Mem → Bool → Int32 → Option (Bool × rC_gh × rv_Mem × rv_Mem)) (y1 y2 : Nat) (hy1 : y1 + 518 ≤ 48223) (hy2 : y2 + 24782 ≤ 2312135) (h69 : ∀ (gh : rC_gh) (M : rv_Mem) (A : rv_Mem) (x5 : Bool) (x6 : Int32), rv_M (lk_G D cI cZ cO de z0 o k) (fun q => z0 ≤ q) p l e room_1 s m args below meth c (y1 + 518) (y2 + 24782) (lk_qL below args s) (k69 gh M A x5 x6) 69 [some (.ref b), some (.ref o), some (.ref (k 0)), some (.ref (k 1)), some (.ref (k 2)), some (.int (rv_i x5)), some (.int x6), none, none, none, none, none, none, none, none, none, none, none, none] [] (gh, M, A)) : ∀ (gh : rC_gh) (M : rv_Mem) (A : rv_Mem) (x6 : Int32) (x7 : Int32) (x8 : Int32), rv_M (lk_G D cI cZ cO de z0 o k) (fun q => z0 ≤ q) p l e room_1 s m args below meth c (y1 + 6) (y2 + 386) (lk_qL below args s) (gp_law_1835 L xs k69 gh M A x6 x7 x8) 1835 [some (.ref b), some (.ref o), some (.ref (k 0)), some (.ref (k 1)), some (.ref (k 2)), none, some (.int x6), some (.int x7), some (.int x8), none, none, none, none, none, none, none, none, none, none] [] (gh, M, A) := by
  intro gh M A x6 x7 x8
  unfold gp_law_1835
  refine rv_iload (q := 1837) E.x dL_law_1835 rfl rfl ?_
  refine rv_iconst (q := 1838) E.x dL_law_1837 rv_ki2 rfl ?_
  refine rv_irem (q := 1839) E.x dL_law_1838 (by decide) rfl ?_
  refine rv_if_gt (q := 1842) (tgt := 1869) E.x dL_law_1839 (by decide) rfl ?_ ?_
  · refine rv_aload (q := 1844) E.x dL_law_1842 rfl rfl ?_
    refine rv_iconst (q := 1845) E.x dL_law_1844 rv_ki0 rfl ?_
    refine lk_ald (q := 1846) E 2 (by decide) dL_law_1845 rfl ?_
    refine rv_if_eq (q := 1849) (tgt := 1869) E.x dL_law_1846 (by decide) rfl ?_ ?_
    · refine rv_aload_n (q := 1850) E.x dL_law_1849 rfl rfl ?_
      refine rv_aload_n (q := 1851) E.x dL_law_1850 rfl rfl ?_
      refine rv_iload (q := 1853) E.x dL_law_1851 rfl rfl ?_
      refine rv_aload (q := 1855) E.x dL_law_1853 rfl rfl ?_
      refine rv_iconst (q := 1856) E.x dL_law_1855 rv_ki0 rfl ?_
      refine lk_ald (q := 1857) E 2 (by decide) dL_law_1856 rfl ?_
      refine rv_iremg (q := 1858) E.x dL_law_1857 rfl ?_
      refine rv_iload (q := 1860) E.x dL_law_1858 rfl rfl ?_
      refine rv_bipush (q := 1862) E.x dL_law_1860 rv_kb60 rfl ?_
      refine rv_idiv (q := 1863) E.x dL_law_1862 (by decide) rfl ?_
      refine rv_b2 (fun r2 M3 e1 => ?_)
      refine lk_cs (q := 1866) (v := (rv_i r2)) (σ' := (gh, M3, A)) E (wP_isShown E.2.2.1 e1) gPs_271 hP_isShown ⟨rfl, rfl⟩ ⟨Nat.le_of_ble_eq_true rfl, Nat.le_of_ble_eq_true rfl⟩ ⟨lk_le2 hy1 (Nat.le_of_ble_eq_true rfl) (Nat.le_of_ble_eq_true rfl), lk_le2 hy2 (Nat.le_of_ble_eq_true rfl) (Nat.le_of_ble_eq_true rfl)⟩ rfl rfl rfl (Nat.le_of_ble_eq_true rfl) dL_law_1863 rfl ?_
      refine rv_wd (y1 + 7) (y2 + 392) (Nat.le_of_eq (Nat.add_assoc _ _ _)) (Nat.le_of_eq (Nat.add_assoc _ _ _)) ?_
      refine rv_ifz_eq (q := 1869) (tgt := 1895) E.x dL_law_1866 (by decide) rfl ?_ ?_
      · refine rv_wk [true, true, true, true, true, false, true, true, false, false, false, false, false, false, false, false, false, false, false] ?_
        exact bp_law_1869 E HL k69 y1 y2 hy1 hy2 h69 gh M3 A x6 x7
      · refine rv_wk [true, true, true, true, true, false, true, false, false, false, false, false, false, false, false, false, false, false, false] ?_
        refine rv_wd (y1 + 518) (y2 + 24782) (Nat.add_le_add_left (Nat.le_of_ble_eq_true rfl) _) (Nat.add_le_add_left (Nat.le_of_ble_eq_true rfl) _) ?_
        exact bp_law_1895 E HL k69 y1 y2 hy1 hy2 h69 gh M3 A x6
    · refine rv_wk [true, true, true, true, true, false, true, true, false, false, false, false, false, false, false, false, false, false, false] ?_
      refine rv_wd (y1 + 7) (y2 + 392) (Nat.add_le_add_left (Nat.le_of_ble_eq_true rfl) _) (Nat.add_le_add_left (Nat.le_of_ble_eq_true rfl) _) ?_
      exact bp_law_1869 E HL k69 y1 y2 hy1 hy2 h69 gh M A x6 x7
  · refine rv_wk [true, true, true, true, true, false, true, true, false, false, false, false, false, false, false, false, false, false, false] ?_
    refine rv_wd (y1 + 7) (y2 + 392) (Nat.add_le_add_left (Nat.le_of_ble_eq_true rfl) _) (Nat.add_le_add_left (Nat.le_of_ble_eq_true rfl) _) ?_
    exact bp_law_1869 E HL k69 y1 y2 hy1 hy2 h69 gh M A x6 x7
set_option maxRecDepth 100000 in
theorem bp_law_1801 {p : Program} {l : Launch} {e : Env} {s : State} {m : MethodId} {args : Array Value} {below : List Frame} {meth : Method} {c : Code} {D : va_G} {cI cZ cO : ClassId} {mi de z0 o b L : Nat} {k : Nat → Nat} {xs : Nat → Int32} (E : lk_E D cI cZ cO mi de z0 b L k xs cL_law 19 (some .boolean) p l s m args meth c) (HL : s.heap.size ≤ z0 ∧ args = #[Value.ref b])  (k69 : rC_gh → rv_Mem → rv_Mem → Bool → Int32 → Option (Bool × rC_gh × rv_Mem × rv_Mem)) (y1 y2 : Nat) (hy1 : y1 + 518 ≤ 48223) (hy2 : y2 + 24782 ≤ 2312135) (h69 : ∀ (gh : rC_gh) (M : rv_Mem) (A : rv_Mem) (x5 : Bool) (x6 : Int32), rv_M (lk_G D cI cZ cO de z0 o k) (fun q => z0 ≤ q) p l e room_1 s m args below meth c (y1 + 518) (y2 + 24782) (lk_qL below args s) (k69 gh M A x5 x6) 69 [some (.ref b), some (.ref o), some (.ref (k 0)), some (.ref (k 1)), some (.ref (k 2)), some (.int (rv_i x5)), some (.int x6), none, none, none, none, none, none, none, none, none, none, none, none] [] (gh, M, A)) : ∀ (gh : rC_gh) (M : rv_Mem) (A : rv_Mem) (x6 : Int32) (x7 : Int32) (x8 : Int32) (x11 : Int32) (x12 : Int32) (x13 : Int32) (x15 : Int32), rv_M (lk_G D cI cZ cO de z0 o k) (fun q => z0 ≤ q) p l e room_1 s m args below meth c (y1 + 6) (y2 + 386) (lk_qL below args s) (gp_law_1801 L xs k69 gh M A x6 x7 x8 x11 x12 x13 x15) 1801 [some (.ref b), some (.ref o), some (.ref (k 0)), some (.ref (k 1)), some (.ref (k 2)), none, some (.int x6), some (.int x7), some (.int x8), none, none, some (.int x11), some (.int x12), some (.int x13), none, some (.int x15), none, none, none] [] (gh, M, A) := by
  intro gh M A x6 x7 x8 x11 x12 x13 x15
  unfold gp_law_1801
  refine rv_iload (q := 1803) E.x dL_law_1801 rfl rfl ?_
  refine rv_if_eq (q := 1806) (tgt := 1835) E.x dL_law_1803 (by decide) rfl ?_ ?_
  · refine rv_aload_n (q := 1807) E.x dL_law_1806 rfl rfl ?_
    refine rv_iload (q := 1809) E.x dL_law_1807 rfl rfl ?_
    refine rv_iload (q := 1811) E.x dL_law_1809 rfl rfl ?_
    refine rv_aload_n (q := 1812) E.x dL_law_1811 rfl rfl ?_
    refine rv_iload (q := 1814) E.x dL_law_1812 rfl rfl ?_
    refine lk_x1r (fun r2 e1 => ?_) (fun w3 e4 => rv_stuck)
    refine lk_ci (q := 1817) (v := r2) (M1 := M) E (fun u hI _ => c11_sets E.2.2.1.1 hI e1) gP_127 hX11_sets ⟨rfl, rfl⟩ ⟨Nat.le_of_ble_eq_true rfl, Nat.le_of_ble_eq_true rfl⟩ ⟨lk_le1 hy1 (Nat.le_of_ble_eq_true rfl) (Nat.le_of_ble_eq_true rfl), lk_le1 hy2 (Nat.le_of_ble_eq_true rfl) (Nat.le_of_ble_eq_true rfl)⟩ rfl rfl rfl (Nat.le_of_ble_eq_true rfl) dL_law_1814 rfl ?_
    refine rv_iremg (q := 1818) E.x dL_law_1817 rfl ?_
    refine rv_iload (q := 1820) E.x dL_law_1818 rfl rfl ?_
    refine rv_aload_n (q := 1821) E.x dL_law_1820 rfl rfl ?_
    refine rv_iload (q := 1823) E.x dL_law_1821 rfl rfl ?_
    refine lk_x1r (fun r6 e5 => ?_) (fun w7 e8 => rv_stuck)
    refine lk_ci (q := 1826) (v := r6) (M1 := M) E (fun u hI _ => c11_sets E.2.2.1.1 hI e5) gP_127 hX11_sets ⟨rfl, rfl⟩ ⟨Nat.le_of_ble_eq_true rfl, Nat.le_of_ble_eq_true rfl⟩ ⟨lk_le1 hy1 (Nat.le_of_ble_eq_true rfl) (Nat.le_of_ble_eq_true rfl), lk_le1 hy2 (Nat.le_of_ble_eq_true rfl) (Nat.le_of_ble_eq_true rfl)⟩ rfl rfl rfl (Nat.le_of_ble_eq_true rfl) dL_law_1823 rfl ?_
    refine rv_iremg (q := 1827) E.x dL_law_1826 rfl ?_
    refine rv_iload (q := 1829) E.x dL_law_1827 rfl rfl ?_
    refine rv_b2 (fun r10 M11 e9 => ?_)
    refine lk_cs0 (q := 1832) (v := (rv_i r10)) (σ' := (gh, M11, A)) E (wP_areHunks E.2.2.1 e9) gPs_267 hP_areHunks ⟨rfl, rfl⟩ ⟨Nat.le_of_ble_eq_true rfl, Nat.le_of_ble_eq_true rfl⟩ ⟨lk_le1 hy1 (Nat.le_of_ble_eq_true rfl) (Nat.le_of_ble_eq_true rfl), lk_le1 hy2 (Nat.le_of_ble_eq_true rfl) (Nat.le_of_ble_eq_true rfl)⟩ rfl rfl rfl (Nat.le_of_ble_eq_true rfl) dL_law_1829 rfl ?_
    refine rv_ifz_eq (q := 1835) (tgt := 1895) E.x dL_law_1832 (by decide) rfl ?_ ?_
    · refine rv_wk [true, true, true, true, true, false, true, true, true, false, false, false, false, false, false, false, false, false, false] ?_
      exact bp_law_1835 E HL k69 y1 y2 hy1 hy2 h69 gh M11 A x6 x7 x8
    · refine rv_wk [true, true, true, true, true, false, true, false, false, false, false, false, false, false, false, false, false, false, false] ?_
      refine rv_wd (y1 + 518) (y2 + 24782) (Nat.add_le_add_left (Nat.le_of_ble_eq_true rfl) _) (Nat.add_le_add_left (Nat.le_of_ble_eq_true rfl) _) ?_
      exact bp_law_1895 E HL k69 y1 y2 hy1 hy2 h69 gh M11 A x6
  · refine rv_wk [true, true, true, true, true, false, true, true, true, false, false, false, false, false, false, false, false, false, false] ?_
    exact bp_law_1835 E HL k69 y1 y2 hy1 hy2 h69 gh M A x6 x7 x8
set_option maxRecDepth 100000 in
theorem bp_law_1773 {p : Program} {l : Launch} {e : Env} {s : State} {m : MethodId} {args : Array Value} {below : List Frame} {meth : Method} {c : Code} {D : va_G} {cI cZ cO : ClassId} {mi de z0 o b L : Nat} {k : Nat → Nat} {xs : Nat → Int32} (E : lk_E D cI cZ cO mi de z0 b L k xs cL_law 19 (some .boolean) p l s m args meth c) (HL : s.heap.size ≤ z0 ∧ args = #[Value.ref b])  (k69 : rC_gh → rv_Mem → rv_Mem → Bool → Int32 → Option (Bool × rC_gh × rv_Mem × rv_Mem)) (y1 y2 : Nat) (hy1 : y1 + 518 ≤ 48223) (hy2 : y2 + 24782 ≤ 2312135) (h69 : ∀ (gh : rC_gh) (M : rv_Mem) (A : rv_Mem) (x5 : Bool) (x6 : Int32), rv_M (lk_G D cI cZ cO de z0 o k) (fun q => z0 ≤ q) p l e room_1 s m args below meth c (y1 + 518) (y2 + 24782) (lk_qL below args s) (k69 gh M A x5 x6) 69 [some (.ref b), some (.ref o), some (.ref (k 0)), some (.ref (k 1)), some (.ref (k 2)), some (.int (rv_i x5)), some (.int x6), none, none, none, none, none, none, none, none, none, none, none, none] [] (gh, M, A)) : ∀ (gh : rC_gh) (M : rv_Mem) (A : rv_Mem) (x5 : Bool) (x6 : Int32) (x7 : Int32) (x8 : Int32) (x11 : Int32) (x12 : Int32) (x13 : Int32), rv_M (lk_G D cI cZ cO de z0 o k) (fun q => z0 ≤ q) p l e room_1 s m args below meth c (y1 + 6) (y2 + 386) (lk_qL below args s) (gp_law_1773 L xs k69 gh M A x5 x6 x7 x8 x11 x12 x13) 1773 [some (.ref b), some (.ref o), some (.ref (k 0)), some (.ref (k 1)), some (.ref (k 2)), some (.int (rv_i x5)), some (.int x6), some (.int x7), some (.int x8), none, none, some (.int x11), some (.int x12), some (.int x13), none, none, none, none, none] [] (gh, M, A) := by
  intro gh M A x5 x6 x7 x8 x11 x12 x13
  unfold gp_law_1773
  refine rv_aload_n (q := 1774) E.x dL_law_1773 rfl rfl ?_
  refine rv_b1 (fun r2 e1 => ?_)
  refine lk_cn (q := 1777) (v := r2) (M1 := M) E (fun u hI => c11_changes hI e1) gP_187 hX11_changes ⟨rfl, rfl⟩ ⟨Nat.le_of_ble_eq_true rfl, Nat.le_of_ble_eq_true rfl⟩ ⟨lk_le1 hy1 (Nat.le_of_ble_eq_true rfl) (Nat.le_of_ble_eq_true rfl), lk_le1 hy2 (Nat.le_of_ble_eq_true rfl) (Nat.le_of_ble_eq_true rfl)⟩ rfl rfl rfl (Nat.le_of_ble_eq_true rfl) dL_law_1774 rfl ?_
  refine rv_istore (q := 1779) (lv' := [_, _, _, _, _, _, _, _, _, _, _, _, _, _, _, _, _, _, _]) E.x dL_law_1777 (Nat.le_of_ble_eq_true rfl) rfl rfl rfl ?_
  refine rv_iload (q := 1781) E.x dL_law_1779 rfl rfl ?_
  refine rv_ifz_eq (q := 1784) (tgt := 1895) E.x dL_law_1781 (by decide) rfl ?_ ?_
  · refine rv_iload (q := 1786) E.x dL_law_1784 rfl rfl ?_
    refine rv_iconst (q := 1787) E.x dL_law_1786 rv_ki3 rfl ?_
    refine rv_irem (q := 1788) E.x dL_law_1787 (by decide) rfl ?_
    refine rv_if_gt (q := 1791) (tgt := 1801) E.x dL_law_1788 (by decide) rfl ?_ ?_
    · refine rv_aload_n (q := 1792) E.x dL_law_1791 rfl rfl ?_
      refine rv_aload_n (q := 1793) E.x dL_law_1792 rfl rfl ?_
      refine rv_iload (q := 1795) E.x dL_law_1793 rfl rfl ?_
      refine rv_b2 (fun r4 M5 e3 => ?_)
      refine lk_cs0 (q := 1798) (v := (rv_i r4)) (σ' := (gh, M5, A)) E (wP_areChanges E.2.2.1 e3) gPs_264 hP_areChanges ⟨rfl, rfl⟩ ⟨Nat.le_of_ble_eq_true rfl, Nat.le_of_ble_eq_true rfl⟩ ⟨lk_le1 hy1 (Nat.le_of_ble_eq_true rfl) (Nat.le_of_ble_eq_true rfl), lk_le1 hy2 (Nat.le_of_ble_eq_true rfl) (Nat.le_of_ble_eq_true rfl)⟩ rfl rfl rfl (Nat.le_of_ble_eq_true rfl) dL_law_1795 rfl ?_
      refine rv_ifz_eq (q := 1801) (tgt := 1895) E.x dL_law_1798 (by decide) rfl ?_ ?_
      · refine rv_wk [true, true, true, true, true, false, true, true, true, false, false, true, true, true, false, true, false, false, false] ?_
        exact bp_law_1801 E HL k69 y1 y2 hy1 hy2 h69 gh M5 A x6 x7 x8 x11 x12 x13 r2
      · refine rv_wk [true, true, true, true, true, false, true, false, false, false, false, false, false, false, false, false, false, false, false] ?_
        refine rv_wd (y1 + 518) (y2 + 24782) (Nat.add_le_add_left (Nat.le_of_ble_eq_true rfl) _) (Nat.add_le_add_left (Nat.le_of_ble_eq_true rfl) _) ?_
        exact bp_law_1895 E HL k69 y1 y2 hy1 hy2 h69 gh M5 A x6
    · refine rv_wk [true, true, true, true, true, false, true, true, true, false, false, true, true, true, false, true, false, false, false] ?_
      exact bp_law_1801 E HL k69 y1 y2 hy1 hy2 h69 gh M A x6 x7 x8 x11 x12 x13 r2
  · refine rv_wk [true, true, true, true, true, false, true, false, false, false, false, false, false, false, false, false, false, false, false] ?_
    refine rv_wd (y1 + 518) (y2 + 24782) (Nat.add_le_add_left (Nat.le_of_ble_eq_true rfl) _) (Nat.add_le_add_left (Nat.le_of_ble_eq_true rfl) _) ?_
    exact bp_law_1895 E HL k69 y1 y2 hy1 hy2 h69 gh M A x6
set_option maxRecDepth 100000 in
theorem bp_law_247 {p : Program} {l : Launch} {e : Env} {s : State} {m : MethodId} {args : Array Value} {below : List Frame} {meth : Method} {c : Code} {D : va_G} {cI cZ cO : ClassId} {mi de z0 o b L : Nat} {k : Nat → Nat} {xs : Nat → Int32} (E : lk_E D cI cZ cO mi de z0 b L k xs cL_law 19 (some .boolean) p l s m args meth c) (HL : s.heap.size ≤ z0 ∧ args = #[Value.ref b])  (k69 : rC_gh → rv_Mem → rv_Mem → Bool → Int32 → Option (Bool × rC_gh × rv_Mem × rv_Mem)) (y1 y2 : Nat) (hy1 : y1 + 518 ≤ 48223) (hy2 : y2 + 24782 ≤ 2312135) (h69 : ∀ (gh : rC_gh) (M : rv_Mem) (A : rv_Mem) (x5 : Bool) (x6 : Int32), rv_M (lk_G D cI cZ cO de z0 o k) (fun q => z0 ≤ q) p l e room_1 s m args below meth c (y1 + 518) (y2 + 24782) (lk_qL below args s) (k69 gh M A x5 x6) 69 [some (.ref b), some (.ref o), some (.ref (k 0)), some (.ref (k 1)), some (.ref (k 2)), some (.int (rv_i x5)), some (.int x6), none, none, none, none, none, none, none, none, none, none, none, none] [] (gh, M, A)) : ∀ (gh : rC_gh) (M : rv_Mem) (A : rv_Mem) (x6 : Int32) (x7 : Int32) (x8 : Int32) (x11 : Int32) (x12 : Int32) (x13 : Int32) (s0 : Bool), rv_M (lk_G D cI cZ cO de z0 o k) (fun q => z0 ≤ q) p l e room_1 s m args below meth c (y1 + 3) (y2 + 193) (lk_qL below args s) (gp_law_247 L xs k69 gh M A x6 x7 x8 x11 x12 x13 s0) 247 [some (.ref b), some (.ref o), some (.ref (k 0)), some (.ref (k 1)), some (.ref (k 2)), none, some (.int x6), some (.int x7), some (.int x8), none, none, some (.int x11), some (.int x12), some (.int x13), none, none, none, none, none] [.int (rv_i s0)] (gh, M, A) := by
  intro gh M A x6 x7 x8 x11 x12 x13 s0
  unfold gp_law_247
  refine rv_istore (q := 249) (lv' := [_, _, _, _, _, _, _, _, _, _, _, _, _, _, _, _, _, _, _]) E.x dL_law_247 (Nat.le_of_ble_eq_true rfl) rfl rfl rfl ?_
  refine rv_goto (q := 1773) E.x dL_law_249 (by decide) ?_
  refine rv_wk [true, true, true, true, true, true, true, true, true, false, false, true, true, true, false, false, false, false, false] ?_
  refine rv_wd (y1 + 6) (y2 + 386) (Nat.add_le_add_left (Nat.le_of_ble_eq_true rfl) _) (Nat.add_le_add_left (Nat.le_of_ble_eq_true rfl) _) ?_
  exact bp_law_1773 E HL k69 y1 y2 hy1 hy2 h69 gh M A s0 x6 x7 x8 x11 x12 x13
set_option maxRecDepth 100000 in
theorem bp_law_242 {p : Program} {l : Launch} {e : Env} {s : State} {m : MethodId} {args : Array Value} {below : List Frame} {meth : Method} {c : Code} {D : va_G} {cI cZ cO : ClassId} {mi de z0 o b L : Nat} {k : Nat → Nat} {xs : Nat → Int32} (E : lk_E D cI cZ cO mi de z0 b L k xs cL_law 19 (some .boolean) p l s m args meth c) (HL : s.heap.size ≤ z0 ∧ args = #[Value.ref b])  (k69 : rC_gh → rv_Mem → rv_Mem → Bool → Int32 → Option (Bool × rC_gh × rv_Mem × rv_Mem)) (y1 y2 : Nat) (hy1 : y1 + 518 ≤ 48223) (hy2 : y2 + 24782 ≤ 2312135) (h69 : ∀ (gh : rC_gh) (M : rv_Mem) (A : rv_Mem) (x5 : Bool) (x6 : Int32), rv_M (lk_G D cI cZ cO de z0 o k) (fun q => z0 ≤ q) p l e room_1 s m args below meth c (y1 + 518) (y2 + 24782) (lk_qL below args s) (k69 gh M A x5 x6) 69 [some (.ref b), some (.ref o), some (.ref (k 0)), some (.ref (k 1)), some (.ref (k 2)), some (.int (rv_i x5)), some (.int x6), none, none, none, none, none, none, none, none, none, none, none, none] [] (gh, M, A)) : ∀ (gh : rC_gh) (M : rv_Mem) (A : rv_Mem) (x6 : Int32) (x7 : Int32) (x8 : Int32) (x11 : Int32) (x12 : Int32) (x13 : Int32), rv_M (lk_G D cI cZ cO de z0 o k) (fun q => z0 ≤ q) p l e room_1 s m args below meth c (y1 + 3) (y2 + 193) (lk_qL below args s) (gp_law_242 L xs k69 gh M A x6 x7 x8 x11 x12 x13) 242 [some (.ref b), some (.ref o), some (.ref (k 0)), some (.ref (k 1)), some (.ref (k 2)), none, some (.int x6), some (.int x7), some (.int x8), none, none, some (.int x11), some (.int x12), some (.int x13), none, none, none, none, none] [] (gh, M, A) := by
  intro gh M A x6 x7 x8 x11 x12 x13
  unfold gp_law_242
  refine rv_iconst (q := 243) E.x dL_law_242 rv_ki1 rfl ?_
  refine rv_goto (q := 247) E.x dL_law_243 (by decide) ?_
  refine rv_wk [true, true, true, true, true, false, true, true, true, false, false, true, true, true, false, false, false, false, false] ?_
  exact bp_law_247 E HL k69 y1 y2 hy1 hy2 h69 gh M A x6 x7 x8 x11 x12 x13 true
set_option maxRecDepth 100000 in
theorem bp_law_304 {p : Program} {l : Launch} {e : Env} {s : State} {m : MethodId} {args : Array Value} {below : List Frame} {meth : Method} {c : Code} {D : va_G} {cI cZ cO : ClassId} {mi de z0 o b L : Nat} {k : Nat → Nat} {xs : Nat → Int32} (E : lk_E D cI cZ cO mi de z0 b L k xs cL_law 19 (some .boolean) p l s m args meth c) (HL : s.heap.size ≤ z0 ∧ args = #[Value.ref b])  (k69 : rC_gh → rv_Mem → rv_Mem → Bool → Int32 → Option (Bool × rC_gh × rv_Mem × rv_Mem)) (y1 y2 : Nat) (hy1 : y1 + 518 ≤ 48223) (hy2 : y2 + 24782 ≤ 2312135) (h69 : ∀ (gh : rC_gh) (M : rv_Mem) (A : rv_Mem) (x5 : Bool) (x6 : Int32), rv_M (lk_G D cI cZ cO de z0 o k) (fun q => z0 ≤ q) p l e room_1 s m args below meth c (y1 + 518) (y2 + 24782) (lk_qL below args s) (k69 gh M A x5 x6) 69 [some (.ref b), some (.ref o), some (.ref (k 0)), some (.ref (k 1)), some (.ref (k 2)), some (.int (rv_i x5)), some (.int x6), none, none, none, none, none, none, none, none, none, none, none, none] [] (gh, M, A)) : ∀ (gh : rC_gh) (M : rv_Mem) (A : rv_Mem) (x6 : Int32) (x7 : Int32) (x8 : Int32) (x11 : Int32) (x12 : Int32) (x13 : Int32) (s0 : Bool), rv_M (lk_G D cI cZ cO de z0 o k) (fun q => z0 ≤ q) p l e room_1 s m args below meth c (y1 + 3) (y2 + 193) (lk_qL below args s) (gp_law_304 L xs k69 gh M A x6 x7 x8 x11 x12 x13 s0) 304 [some (.ref b), some (.ref o), some (.ref (k 0)), some (.ref (k 1)), some (.ref (k 2)), none, some (.int x6), some (.int x7), some (.int x8), none, none, some (.int x11), some (.int x12), some (.int x13), none, none, none, none, none] [.int (rv_i s0)] (gh, M, A) := by
  intro gh M A x6 x7 x8 x11 x12 x13 s0
  unfold gp_law_304
  refine rv_istore (q := 306) (lv' := [_, _, _, _, _, _, _, _, _, _, _, _, _, _, _, _, _, _, _]) E.x dL_law_304 (Nat.le_of_ble_eq_true rfl) rfl rfl rfl ?_
  refine rv_goto (q := 1773) E.x dL_law_306 (by decide) ?_
  refine rv_wk [true, true, true, true, true, true, true, true, true, false, false, true, true, true, false, false, false, false, false] ?_
  refine rv_wd (y1 + 6) (y2 + 386) (Nat.add_le_add_left (Nat.le_of_ble_eq_true rfl) _) (Nat.add_le_add_left (Nat.le_of_ble_eq_true rfl) _) ?_
  exact bp_law_1773 E HL k69 y1 y2 hy1 hy2 h69 gh M A s0 x6 x7 x8 x11 x12 x13
set_option maxRecDepth 100000 in
theorem bp_law_299 {p : Program} {l : Launch} {e : Env} {s : State} {m : MethodId} {args : Array Value} {below : List Frame} {meth : Method} {c : Code} {D : va_G} {cI cZ cO : ClassId} {mi de z0 o b L : Nat} {k : Nat → Nat} {xs : Nat → Int32} (E : lk_E D cI cZ cO mi de z0 b L k xs cL_law 19 (some .boolean) p l s m args meth c) (HL : s.heap.size ≤ z0 ∧ args = #[Value.ref b])  (k69 : rC_gh → rv_Mem → rv_Mem → Bool → Int32 → Option (Bool × rC_gh × rv_Mem × rv_Mem)) (y1 y2 : Nat) (hy1 : y1 + 518 ≤ 48223) (hy2 : y2 + 24782 ≤ 2312135) (h69 : ∀ (gh : rC_gh) (M : rv_Mem) (A : rv_Mem) (x5 : Bool) (x6 : Int32), rv_M (lk_G D cI cZ cO de z0 o k) (fun q => z0 ≤ q) p l e room_1 s m args below meth c (y1 + 518) (y2 + 24782) (lk_qL below args s) (k69 gh M A x5 x6) 69 [some (.ref b), some (.ref o), some (.ref (k 0)), some (.ref (k 1)), some (.ref (k 2)), some (.int (rv_i x5)), some (.int x6), none, none, none, none, none, none, none, none, none, none, none, none] [] (gh, M, A)) : ∀ (gh : rC_gh) (M : rv_Mem) (A : rv_Mem) (x6 : Int32) (x7 : Int32) (x8 : Int32) (x11 : Int32) (x12 : Int32) (x13 : Int32), rv_M (lk_G D cI cZ cO de z0 o k) (fun q => z0 ≤ q) p l e room_1 s m args below meth c (y1 + 3) (y2 + 193) (lk_qL below args s) (gp_law_299 L xs k69 gh M A x6 x7 x8 x11 x12 x13) 299 [some (.ref b), some (.ref o), some (.ref (k 0)), some (.ref (k 1)), some (.ref (k 2)), none, some (.int x6), some (.int x7), some (.int x8), none, none, some (.int x11), some (.int x12), some (.int x13), none, none, none, none, none] [] (gh, M, A) := by
  intro gh M A x6 x7 x8 x11 x12 x13
  unfold gp_law_299
  refine rv_iconst (q := 300) E.x dL_law_299 rv_ki1 rfl ?_
  refine rv_goto (q := 304) E.x dL_law_300 (by decide) ?_
  refine rv_wk [true, true, true, true, true, false, true, true, true, false, false, true, true, true, false, false, false, false, false] ?_
  exact bp_law_304 E HL k69 y1 y2 hy1 hy2 h69 gh M A x6 x7 x8 x11 x12 x13 true
set_option maxRecDepth 100000 in
theorem bp_law_303 {p : Program} {l : Launch} {e : Env} {s : State} {m : MethodId} {args : Array Value} {below : List Frame} {meth : Method} {c : Code} {D : va_G} {cI cZ cO : ClassId} {mi de z0 o b L : Nat} {k : Nat → Nat} {xs : Nat → Int32} (E : lk_E D cI cZ cO mi de z0 b L k xs cL_law 19 (some .boolean) p l s m args meth c) (HL : s.heap.size ≤ z0 ∧ args = #[Value.ref b])  (k69 : rC_gh → rv_Mem → rv_Mem → Bool → Int32 → Option (Bool × rC_gh × rv_Mem × rv_Mem)) (y1 y2 : Nat) (hy1 : y1 + 518 ≤ 48223) (hy2 : y2 + 24782 ≤ 2312135) (h69 : ∀ (gh : rC_gh) (M : rv_Mem) (A : rv_Mem) (x5 : Bool) (x6 : Int32), rv_M (lk_G D cI cZ cO de z0 o k) (fun q => z0 ≤ q) p l e room_1 s m args below meth c (y1 + 518) (y2 + 24782) (lk_qL below args s) (k69 gh M A x5 x6) 69 [some (.ref b), some (.ref o), some (.ref (k 0)), some (.ref (k 1)), some (.ref (k 2)), some (.int (rv_i x5)), some (.int x6), none, none, none, none, none, none, none, none, none, none, none, none] [] (gh, M, A)) : ∀ (gh : rC_gh) (M : rv_Mem) (A : rv_Mem) (x6 : Int32) (x7 : Int32) (x8 : Int32) (x11 : Int32) (x12 : Int32) (x13 : Int32), rv_M (lk_G D cI cZ cO de z0 o k) (fun q => z0 ≤ q) p l e room_1 s m args below meth c (y1 + 3) (y2 + 193) (lk_qL below args s) (gp_law_303 L xs k69 gh M A x6 x7 x8 x11 x12 x13) 303 [some (.ref b), some (.ref o), some (.ref (k 0)), some (.ref (k 1)), some (.ref (k 2)), none, some (.int x6), some (.int x7), some (.int x8), none, none, some (.int x11), some (.int x12), some (.int x13), none, none, none, none, none] [] (gh, M, A) := by
  intro gh M A x6 x7 x8 x11 x12 x13
  unfold gp_law_303
  refine rv_iconst (q := 304) E.x dL_law_303 rv_ki0 rfl ?_
  refine rv_wk [true, true, true, true, true, false, true, true, true, false, false, true, true, true, false, false, false, false, false] ?_
  exact bp_law_304 E HL k69 y1 y2 hy1 hy2 h69 gh M A x6 x7 x8 x11 x12 x13 false
set_option maxRecDepth 100000 in
theorem bp_law_394 {p : Program} {l : Launch} {e : Env} {s : State} {m : MethodId} {args : Array Value} {below : List Frame} {meth : Method} {c : Code} {D : va_G} {cI cZ cO : ClassId} {mi de z0 o b L : Nat} {k : Nat → Nat} {xs : Nat → Int32} (E : lk_E D cI cZ cO mi de z0 b L k xs cL_law 19 (some .boolean) p l s m args meth c) (HL : s.heap.size ≤ z0 ∧ args = #[Value.ref b])  (k69 : rC_gh → rv_Mem → rv_Mem → Bool → Int32 → Option (Bool × rC_gh × rv_Mem × rv_Mem)) (y1 y2 : Nat) (hy1 : y1 + 518 ≤ 48223) (hy2 : y2 + 24782 ≤ 2312135) (h69 : ∀ (gh : rC_gh) (M : rv_Mem) (A : rv_Mem) (x5 : Bool) (x6 : Int32), rv_M (lk_G D cI cZ cO de z0 o k) (fun q => z0 ≤ q) p l e room_1 s m args below meth c (y1 + 518) (y2 + 24782) (lk_qL below args s) (k69 gh M A x5 x6) 69 [some (.ref b), some (.ref o), some (.ref (k 0)), some (.ref (k 1)), some (.ref (k 2)), some (.int (rv_i x5)), some (.int x6), none, none, none, none, none, none, none, none, none, none, none, none] [] (gh, M, A)) : ∀ (gh : rC_gh) (M : rv_Mem) (A : rv_Mem) (x6 : Int32) (x7 : Int32) (x8 : Int32) (x11 : Int32) (x12 : Int32) (x13 : Int32) (s0 : Bool), rv_M (lk_G D cI cZ cO de z0 o k) (fun q => z0 ≤ q) p l e room_1 s m args below meth c (y1 + 3) (y2 + 193) (lk_qL below args s) (gp_law_394 L xs k69 gh M A x6 x7 x8 x11 x12 x13 s0) 394 [some (.ref b), some (.ref o), some (.ref (k 0)), some (.ref (k 1)), some (.ref (k 2)), none, some (.int x6), some (.int x7), some (.int x8), none, none, some (.int x11), some (.int x12), some (.int x13), none, none, none, none, none] [.int (rv_i s0)] (gh, M, A) := by
  intro gh M A x6 x7 x8 x11 x12 x13 s0
  unfold gp_law_394
  refine rv_istore (q := 396) (lv' := [_, _, _, _, _, _, _, _, _, _, _, _, _, _, _, _, _, _, _]) E.x dL_law_394 (Nat.le_of_ble_eq_true rfl) rfl rfl rfl ?_
  refine rv_goto (q := 1773) E.x dL_law_396 (by decide) ?_
  refine rv_wk [true, true, true, true, true, true, true, true, true, false, false, true, true, true, false, false, false, false, false] ?_
  refine rv_wd (y1 + 6) (y2 + 386) (Nat.add_le_add_left (Nat.le_of_ble_eq_true rfl) _) (Nat.add_le_add_left (Nat.le_of_ble_eq_true rfl) _) ?_
  exact bp_law_1773 E HL k69 y1 y2 hy1 hy2 h69 gh M A s0 x6 x7 x8 x11 x12 x13
set_option maxRecDepth 100000 in
theorem bp_law_393 {p : Program} {l : Launch} {e : Env} {s : State} {m : MethodId} {args : Array Value} {below : List Frame} {meth : Method} {c : Code} {D : va_G} {cI cZ cO : ClassId} {mi de z0 o b L : Nat} {k : Nat → Nat} {xs : Nat → Int32} (E : lk_E D cI cZ cO mi de z0 b L k xs cL_law 19 (some .boolean) p l s m args meth c) (HL : s.heap.size ≤ z0 ∧ args = #[Value.ref b])  (k69 : rC_gh → rv_Mem → rv_Mem → Bool → Int32 → Option (Bool × rC_gh × rv_Mem × rv_Mem)) (y1 y2 : Nat) (hy1 : y1 + 518 ≤ 48223) (hy2 : y2 + 24782 ≤ 2312135) (h69 : ∀ (gh : rC_gh) (M : rv_Mem) (A : rv_Mem) (x5 : Bool) (x6 : Int32), rv_M (lk_G D cI cZ cO de z0 o k) (fun q => z0 ≤ q) p l e room_1 s m args below meth c (y1 + 518) (y2 + 24782) (lk_qL below args s) (k69 gh M A x5 x6) 69 [some (.ref b), some (.ref o), some (.ref (k 0)), some (.ref (k 1)), some (.ref (k 2)), some (.int (rv_i x5)), some (.int x6), none, none, none, none, none, none, none, none, none, none, none, none] [] (gh, M, A)) : ∀ (gh : rC_gh) (M : rv_Mem) (A : rv_Mem) (x6 : Int32) (x7 : Int32) (x8 : Int32) (x11 : Int32) (x12 : Int32) (x13 : Int32), rv_M (lk_G D cI cZ cO de z0 o k) (fun q => z0 ≤ q) p l e room_1 s m args below meth c (y1 + 3) (y2 + 193) (lk_qL below args s) (gp_law_393 L xs k69 gh M A x6 x7 x8 x11 x12 x13) 393 [some (.ref b), some (.ref o), some (.ref (k 0)), some (.ref (k 1)), some (.ref (k 2)), none, some (.int x6), some (.int x7), some (.int x8), none, none, some (.int x11), some (.int x12), some (.int x13), none, none, none, none, none] [] (gh, M, A) := by
  intro gh M A x6 x7 x8 x11 x12 x13
  unfold gp_law_393
  refine rv_iconst (q := 394) E.x dL_law_393 rv_ki0 rfl ?_
  refine rv_wk [true, true, true, true, true, false, true, true, true, false, false, true, true, true, false, false, false, false, false] ?_
  exact bp_law_394 E HL k69 y1 y2 hy1 hy2 h69 gh M A x6 x7 x8 x11 x12 x13 false
set_option maxRecDepth 100000 in
theorem bp_law_330 {p : Program} {l : Launch} {e : Env} {s : State} {m : MethodId} {args : Array Value} {below : List Frame} {meth : Method} {c : Code} {D : va_G} {cI cZ cO : ClassId} {mi de z0 o b L : Nat} {k : Nat → Nat} {xs : Nat → Int32} (E : lk_E D cI cZ cO mi de z0 b L k xs cL_law 19 (some .boolean) p l s m args meth c) (HL : s.heap.size ≤ z0 ∧ args = #[Value.ref b])  (k69 : rC_gh → rv_Mem → rv_Mem → Bool → Int32 → Option (Bool × rC_gh × rv_Mem × rv_Mem)) (y1 y2 : Nat) (hy1 : y1 + 518 ≤ 48223) (hy2 : y2 + 24782 ≤ 2312135) (h69 : ∀ (gh : rC_gh) (M : rv_Mem) (A : rv_Mem) (x5 : Bool) (x6 : Int32), rv_M (lk_G D cI cZ cO de z0 o k) (fun q => z0 ≤ q) p l e room_1 s m args below meth c (y1 + 518) (y2 + 24782) (lk_qL below args s) (k69 gh M A x5 x6) 69 [some (.ref b), some (.ref o), some (.ref (k 0)), some (.ref (k 1)), some (.ref (k 2)), some (.int (rv_i x5)), some (.int x6), none, none, none, none, none, none, none, none, none, none, none, none] [] (gh, M, A)) : ∀ (gh : rC_gh) (M : rv_Mem) (A : rv_Mem) (x6 : Int32) (x7 : Int32) (x8 : Int32) (x11 : Int32) (x12 : Int32) (x13 : Int32), rv_M (lk_G D cI cZ cO de z0 o k) (fun q => z0 ≤ q) p l e room_1 s m args below meth c (y1 + 0) (y2 + 0) (lk_qL below args s) (gp_law_330 L xs k69 gh M A x6 x7 x8 x11 x12 x13) 330 [some (.ref b), some (.ref o), some (.ref (k 0)), some (.ref (k 1)), some (.ref (k 2)), none, some (.int x6), some (.int x7), some (.int x8), none, none, some (.int x11), some (.int x12), some (.int x13), none, none, none, none, none] [] (gh, M, A) := by
  intro gh M A x6 x7 x8 x11 x12 x13
  unfold gp_law_330
  refine rv_iload (q := 332) E.x dL_law_330 rfl rfl ?_
  refine rv_iconst (q := 333) E.x dL_law_332 rv_ki4 rfl ?_
  refine rv_idiv (q := 334) E.x dL_law_333 (by decide) rfl ?_
  refine rv_aload_n (q := 335) E.x dL_law_334 rfl rfl ?_
  refine rv_b1 (fun r2 e1 => ?_)
  refine lk_cn (q := 338) (v := r2) (M1 := M) E (fun u hI => c11_commits hI e1) gP_181 hX11_commits ⟨rfl, rfl⟩ ⟨Nat.le_of_ble_eq_true rfl, Nat.le_of_ble_eq_true rfl⟩ ⟨lk_le1 hy1 (Nat.le_of_ble_eq_true rfl) (Nat.le_of_ble_eq_true rfl), lk_le1 hy2 (Nat.le_of_ble_eq_true rfl) (Nat.le_of_ble_eq_true rfl)⟩ rfl rfl rfl (Nat.le_of_ble_eq_true rfl) dL_law_335 rfl ?_
  refine rv_iremg (q := 339) E.x dL_law_338 rfl ?_
  refine rv_istore (q := 341) (lv' := [_, _, _, _, _, _, _, _, _, _, _, _, _, _, _, _, _, _, _]) E.x dL_law_339 (Nat.le_of_ble_eq_true rfl) rfl rfl rfl ?_
  refine rv_aload_n (q := 342) E.x dL_law_341 rfl rfl ?_
  refine rv_iconst (q := 343) E.x dL_law_342 rv_ki0 rfl ?_
  refine rv_iload (q := 345) E.x dL_law_343 rfl rfl ?_
  refine rv_iconst (q := 346) E.x dL_law_345 rv_ki0 rfl ?_
  refine rv_iconst (q := 347) E.x dL_law_346 rv_ki0 rfl ?_
  refine rv_iconst (q := 348) E.x dL_law_347 rv_ki0 rfl ?_
  refine rv_iconst (q := 349) E.x dL_law_348 rv_ki0 rfl ?_
  refine lk_b3 (fun r4 g6 M5 e3 => ?_)
  refine lk_csW (q := 352) (v := r4) (σ' := (g6, M5, A)) E (wP_act E.2.2.1 e3) gPs_241 hP_act ⟨rfl, rfl⟩ ⟨Nat.le_of_ble_eq_true rfl, Nat.le_of_ble_eq_true rfl⟩ ⟨lk_le2 hy1 (Nat.le_of_ble_eq_true rfl) (Nat.le_of_ble_eq_true rfl), lk_le2 hy2 (Nat.le_of_ble_eq_true rfl) (Nat.le_of_ble_eq_true rfl)⟩ rfl rfl rfl (Nat.le_of_ble_eq_true rfl) dL_law_349 rfl ?_
  refine rv_wd (y1 + 3) (y2 + 193) (Nat.le_of_eq (Nat.add_assoc _ _ _)) (Nat.le_of_eq (Nat.add_assoc _ _ _)) ?_
  refine rv_aload_n (q := 353) E.x dL_law_352 rfl rfl ?_
  refine rv_iload (q := 355) E.x dL_law_353 rfl rfl ?_
  refine rv_b2 (fun r8 M9 e7 => ?_)
  refine lk_cs0 (q := 358) (v := r8) (σ' := (g6, M9, A)) E (wP_repo E.2.2.1 e7) gPs_226 hP_repo ⟨rfl, rfl⟩ ⟨Nat.le_of_ble_eq_true rfl, Nat.le_of_ble_eq_true rfl⟩ ⟨lk_le1 hy1 (Nat.le_of_ble_eq_true rfl) (Nat.le_of_ble_eq_true rfl), lk_le1 hy2 (Nat.le_of_ble_eq_true rfl) (Nat.le_of_ble_eq_true rfl)⟩ rfl rfl rfl (Nat.le_of_ble_eq_true rfl) dL_law_355 rfl ?_
  refine rv_icmp_ne (q := 361) (tgt := 393) E.x dL_law_358 (by decide) rfl ?_ ?_
  · refine rv_aload_n (q := 362) E.x dL_law_361 rfl rfl ?_
    refine rv_iconst (q := 363) E.x dL_law_362 rv_kim1 rfl ?_
    refine lk_x1r (fun r11 e10 => ?_) (fun w12 e13 => rv_stuck)
    refine lk_ci (q := 366) (v := r11) (M1 := M9) E (fun u hI _ => c11_before E.2.2.1.1 hI e10) gP_115 hX11_before ⟨rfl, rfl⟩ ⟨Nat.le_of_ble_eq_true rfl, Nat.le_of_ble_eq_true rfl⟩ ⟨lk_le1 hy1 (Nat.le_of_ble_eq_true rfl) (Nat.le_of_ble_eq_true rfl), lk_le1 hy2 (Nat.le_of_ble_eq_true rfl) (Nat.le_of_ble_eq_true rfl)⟩ rfl rfl rfl (Nat.le_of_ble_eq_true rfl) dL_law_363 rfl ?_
    refine rv_iload (q := 368) E.x dL_law_366 rfl rfl ?_
    refine rv_icmp_ne (q := 371) (tgt := 393) E.x dL_law_368 (by decide) rfl ?_ ?_
    · refine rv_aload_n (q := 372) E.x dL_law_371 rfl rfl ?_
      refine rv_iconst (q := 373) E.x dL_law_372 rv_kim1 rfl ?_
      refine rv_iload (q := 375) E.x dL_law_373 rfl rfl ?_
      refine rv_b2 (fun r15 M16 e14 => ?_)
      refine lk_cs0 (q := 378) (v := r15) (σ' := (g6, M16, A)) E (wP_size E.2.2.1 e14) gPs_203 hP_size ⟨rfl, rfl⟩ ⟨Nat.le_of_ble_eq_true rfl, Nat.le_of_ble_eq_true rfl⟩ ⟨lk_le1 hy1 (Nat.le_of_ble_eq_true rfl) (Nat.le_of_ble_eq_true rfl), lk_le1 hy2 (Nat.le_of_ble_eq_true rfl) (Nat.le_of_ble_eq_true rfl)⟩ rfl rfl rfl (Nat.le_of_ble_eq_true rfl) dL_law_375 rfl ?_
      refine rv_aload_n (q := 379) E.x dL_law_378 rfl rfl ?_
      refine rv_iload (q := 381) E.x dL_law_379 rfl rfl ?_
      refine rv_iload (q := 383) E.x dL_law_381 rfl rfl ?_
      refine rv_b2 (fun r18 M19 e17 => ?_)
      refine lk_cs0 (q := 386) (v := r18) (σ' := (g6, M19, A)) E (wP_size E.2.2.1 e17) gPs_203 hP_size ⟨rfl, rfl⟩ ⟨Nat.le_of_ble_eq_true rfl, Nat.le_of_ble_eq_true rfl⟩ ⟨lk_le1 hy1 (Nat.le_of_ble_eq_true rfl) (Nat.le_of_ble_eq_true rfl), lk_le1 hy2 (Nat.le_of_ble_eq_true rfl) (Nat.le_of_ble_eq_true rfl)⟩ rfl rfl rfl (Nat.le_of_ble_eq_true rfl) dL_law_383 rfl ?_
      refine rv_icmp_ne (q := 389) (tgt := 393) E.x dL_law_386 (by decide) rfl ?_ ?_
      · refine rv_iconst (q := 390) E.x dL_law_389 rv_ki1 rfl ?_
        refine rv_goto (q := 394) E.x dL_law_390 (by decide) ?_
        refine rv_wk [true, true, true, true, true, false, true, true, true, false, false, true, true, true, false, false, false, false, false] ?_
        exact bp_law_394 E HL k69 y1 y2 hy1 hy2 h69 g6 M19 A x6 x7 x8 x11 x12 x13 true
      · refine rv_wk [true, true, true, true, true, false, true, true, true, false, false, true, true, true, false, false, false, false, false] ?_
        exact bp_law_393 E HL k69 y1 y2 hy1 hy2 h69 g6 M19 A x6 x7 x8 x11 x12 x13
    · refine rv_wk [true, true, true, true, true, false, true, true, true, false, false, true, true, true, false, false, false, false, false] ?_
      exact bp_law_393 E HL k69 y1 y2 hy1 hy2 h69 g6 M9 A x6 x7 x8 x11 x12 x13
  · refine rv_wk [true, true, true, true, true, false, true, true, true, false, false, true, true, true, false, false, false, false, false] ?_
    exact bp_law_393 E HL k69 y1 y2 hy1 hy2 h69 g6 M9 A x6 x7 x8 x11 x12 x13
set_option maxRecDepth 100000 in
theorem bp_law_458 {p : Program} {l : Launch} {e : Env} {s : State} {m : MethodId} {args : Array Value} {below : List Frame} {meth : Method} {c : Code} {D : va_G} {cI cZ cO : ClassId} {mi de z0 o b L : Nat} {k : Nat → Nat} {xs : Nat → Int32} (E : lk_E D cI cZ cO mi de z0 b L k xs cL_law 19 (some .boolean) p l s m args meth c) (HL : s.heap.size ≤ z0 ∧ args = #[Value.ref b])  (k69 : rC_gh → rv_Mem → rv_Mem → Bool → Int32 → Option (Bool × rC_gh × rv_Mem × rv_Mem)) (y1 y2 : Nat) (hy1 : y1 + 518 ≤ 48223) (hy2 : y2 + 24782 ≤ 2312135) (h69 : ∀ (gh : rC_gh) (M : rv_Mem) (A : rv_Mem) (x5 : Bool) (x6 : Int32), rv_M (lk_G D cI cZ cO de z0 o k) (fun q => z0 ≤ q) p l e room_1 s m args below meth c (y1 + 518) (y2 + 24782) (lk_qL below args s) (k69 gh M A x5 x6) 69 [some (.ref b), some (.ref o), some (.ref (k 0)), some (.ref (k 1)), some (.ref (k 2)), some (.int (rv_i x5)), some (.int x6), none, none, none, none, none, none, none, none, none, none, none, none] [] (gh, M, A)) : ∀ (gh : rC_gh) (M : rv_Mem) (A : rv_Mem) (x6 : Int32) (x7 : Int32) (x8 : Int32) (x11 : Int32) (x12 : Int32) (x13 : Int32) (s0 : Bool), rv_M (lk_G D cI cZ cO de z0 o k) (fun q => z0 ≤ q) p l e room_1 s m args below meth c (y1 + 3) (y2 + 193) (lk_qL below args s) (gp_law_458 L xs k69 gh M A x6 x7 x8 x11 x12 x13 s0) 458 [some (.ref b), some (.ref o), some (.ref (k 0)), some (.ref (k 1)), some (.ref (k 2)), none, some (.int x6), some (.int x7), some (.int x8), none, none, some (.int x11), some (.int x12), some (.int x13), none, none, none, none, none] [.int (rv_i s0)] (gh, M, A) := by
  intro gh M A x6 x7 x8 x11 x12 x13 s0
  unfold gp_law_458
  refine rv_istore (q := 460) (lv' := [_, _, _, _, _, _, _, _, _, _, _, _, _, _, _, _, _, _, _]) E.x dL_law_458 (Nat.le_of_ble_eq_true rfl) rfl rfl rfl ?_
  refine rv_goto (q := 1773) E.x dL_law_460 (by decide) ?_
  refine rv_wk [true, true, true, true, true, true, true, true, true, false, false, true, true, true, false, false, false, false, false] ?_
  refine rv_wd (y1 + 6) (y2 + 386) (Nat.add_le_add_left (Nat.le_of_ble_eq_true rfl) _) (Nat.add_le_add_left (Nat.le_of_ble_eq_true rfl) _) ?_
  exact bp_law_1773 E HL k69 y1 y2 hy1 hy2 h69 gh M A s0 x6 x7 x8 x11 x12 x13
set_option maxRecDepth 100000 in
theorem bp_law_457 {p : Program} {l : Launch} {e : Env} {s : State} {m : MethodId} {args : Array Value} {below : List Frame} {meth : Method} {c : Code} {D : va_G} {cI cZ cO : ClassId} {mi de z0 o b L : Nat} {k : Nat → Nat} {xs : Nat → Int32} (E : lk_E D cI cZ cO mi de z0 b L k xs cL_law 19 (some .boolean) p l s m args meth c) (HL : s.heap.size ≤ z0 ∧ args = #[Value.ref b])  (k69 : rC_gh → rv_Mem → rv_Mem → Bool → Int32 → Option (Bool × rC_gh × rv_Mem × rv_Mem)) (y1 y2 : Nat) (hy1 : y1 + 518 ≤ 48223) (hy2 : y2 + 24782 ≤ 2312135) (h69 : ∀ (gh : rC_gh) (M : rv_Mem) (A : rv_Mem) (x5 : Bool) (x6 : Int32), rv_M (lk_G D cI cZ cO de z0 o k) (fun q => z0 ≤ q) p l e room_1 s m args below meth c (y1 + 518) (y2 + 24782) (lk_qL below args s) (k69 gh M A x5 x6) 69 [some (.ref b), some (.ref o), some (.ref (k 0)), some (.ref (k 1)), some (.ref (k 2)), some (.int (rv_i x5)), some (.int x6), none, none, none, none, none, none, none, none, none, none, none, none] [] (gh, M, A)) : ∀ (gh : rC_gh) (M : rv_Mem) (A : rv_Mem) (x6 : Int32) (x7 : Int32) (x8 : Int32) (x11 : Int32) (x12 : Int32) (x13 : Int32), rv_M (lk_G D cI cZ cO de z0 o k) (fun q => z0 ≤ q) p l e room_1 s m args below meth c (y1 + 3) (y2 + 193) (lk_qL below args s) (gp_law_457 L xs k69 gh M A x6 x7 x8 x11 x12 x13) 457 [some (.ref b), some (.ref o), some (.ref (k 0)), some (.ref (k 1)), some (.ref (k 2)), none, some (.int x6), some (.int x7), some (.int x8), none, none, some (.int x11), some (.int x12), some (.int x13), none, none, none, none, none] [] (gh, M, A) := by
  intro gh M A x6 x7 x8 x11 x12 x13
  unfold gp_law_457
  refine rv_iconst (q := 458) E.x dL_law_457 rv_ki0 rfl ?_
  refine rv_wk [true, true, true, true, true, false, true, true, true, false, false, true, true, true, false, false, false, false, false] ?_
  exact bp_law_458 E HL k69 y1 y2 hy1 hy2 h69 gh M A x6 x7 x8 x11 x12 x13 false
set_option maxRecDepth 100000 in
theorem bp_law_567 {p : Program} {l : Launch} {e : Env} {s : State} {m : MethodId} {args : Array Value} {below : List Frame} {meth : Method} {c : Code} {D : va_G} {cI cZ cO : ClassId} {mi de z0 o b L : Nat} {k : Nat → Nat} {xs : Nat → Int32} (E : lk_E D cI cZ cO mi de z0 b L k xs cL_law 19 (some .boolean) p l s m args meth c) (HL : s.heap.size ≤ z0 ∧ args = #[Value.ref b])  (k69 : rC_gh → rv_Mem → rv_Mem → Bool → Int32 → Option (Bool × rC_gh × rv_Mem × rv_Mem)) (y1 y2 : Nat) (hy1 : y1 + 518 ≤ 48223) (hy2 : y2 + 24782 ≤ 2312135) (h69 : ∀ (gh : rC_gh) (M : rv_Mem) (A : rv_Mem) (x5 : Bool) (x6 : Int32), rv_M (lk_G D cI cZ cO de z0 o k) (fun q => z0 ≤ q) p l e room_1 s m args below meth c (y1 + 518) (y2 + 24782) (lk_qL below args s) (k69 gh M A x5 x6) 69 [some (.ref b), some (.ref o), some (.ref (k 0)), some (.ref (k 1)), some (.ref (k 2)), some (.int (rv_i x5)), some (.int x6), none, none, none, none, none, none, none, none, none, none, none, none] [] (gh, M, A)) : ∀ (gh : rC_gh) (M : rv_Mem) (A : rv_Mem) (x6 : Int32) (x7 : Int32) (x8 : Int32) (x11 : Int32) (x12 : Int32) (x13 : Int32) (s0 : Bool), rv_M (lk_G D cI cZ cO de z0 o k) (fun q => z0 ≤ q) p l e room_1 s m args below meth c (y1 + 3) (y2 + 193) (lk_qL below args s) (gp_law_567 L xs k69 gh M A x6 x7 x8 x11 x12 x13 s0) 567 [some (.ref b), some (.ref o), some (.ref (k 0)), some (.ref (k 1)), some (.ref (k 2)), none, some (.int x6), some (.int x7), some (.int x8), none, none, some (.int x11), some (.int x12), some (.int x13), none, none, none, none, none] [.int (rv_i s0)] (gh, M, A) := by
  intro gh M A x6 x7 x8 x11 x12 x13 s0
  unfold gp_law_567
  refine rv_istore (q := 569) (lv' := [_, _, _, _, _, _, _, _, _, _, _, _, _, _, _, _, _, _, _]) E.x dL_law_567 (Nat.le_of_ble_eq_true rfl) rfl rfl rfl ?_
  refine rv_goto (q := 1773) E.x dL_law_569 (by decide) ?_
  refine rv_wk [true, true, true, true, true, true, true, true, true, false, false, true, true, true, false, false, false, false, false] ?_
  refine rv_wd (y1 + 6) (y2 + 386) (Nat.add_le_add_left (Nat.le_of_ble_eq_true rfl) _) (Nat.add_le_add_left (Nat.le_of_ble_eq_true rfl) _) ?_
  exact bp_law_1773 E HL k69 y1 y2 hy1 hy2 h69 gh M A s0 x6 x7 x8 x11 x12 x13
set_option maxRecDepth 100000 in
theorem bp_law_566 {p : Program} {l : Launch} {e : Env} {s : State} {m : MethodId} {args : Array Value} {below : List Frame} {meth : Method} {c : Code} {D : va_G} {cI cZ cO : ClassId} {mi de z0 o b L : Nat} {k : Nat → Nat} {xs : Nat → Int32} (E : lk_E D cI cZ cO mi de z0 b L k xs cL_law 19 (some .boolean) p l s m args meth c) (HL : s.heap.size ≤ z0 ∧ args = #[Value.ref b])  (k69 : rC_gh → rv_Mem → rv_Mem → Bool → Int32 → Option (Bool × rC_gh × rv_Mem × rv_Mem)) (y1 y2 : Nat) (hy1 : y1 + 518 ≤ 48223) (hy2 : y2 + 24782 ≤ 2312135) (h69 : ∀ (gh : rC_gh) (M : rv_Mem) (A : rv_Mem) (x5 : Bool) (x6 : Int32), rv_M (lk_G D cI cZ cO de z0 o k) (fun q => z0 ≤ q) p l e room_1 s m args below meth c (y1 + 518) (y2 + 24782) (lk_qL below args s) (k69 gh M A x5 x6) 69 [some (.ref b), some (.ref o), some (.ref (k 0)), some (.ref (k 1)), some (.ref (k 2)), some (.int (rv_i x5)), some (.int x6), none, none, none, none, none, none, none, none, none, none, none, none] [] (gh, M, A)) : ∀ (gh : rC_gh) (M : rv_Mem) (A : rv_Mem) (x6 : Int32) (x7 : Int32) (x8 : Int32) (x11 : Int32) (x12 : Int32) (x13 : Int32), rv_M (lk_G D cI cZ cO de z0 o k) (fun q => z0 ≤ q) p l e room_1 s m args below meth c (y1 + 3) (y2 + 193) (lk_qL below args s) (gp_law_566 L xs k69 gh M A x6 x7 x8 x11 x12 x13) 566 [some (.ref b), some (.ref o), some (.ref (k 0)), some (.ref (k 1)), some (.ref (k 2)), none, some (.int x6), some (.int x7), some (.int x8), none, none, some (.int x11), some (.int x12), some (.int x13), none, none, none, none, none] [] (gh, M, A) := by
  intro gh M A x6 x7 x8 x11 x12 x13
  unfold gp_law_566
  refine rv_iconst (q := 567) E.x dL_law_566 rv_ki0 rfl ?_
  refine rv_wk [true, true, true, true, true, false, true, true, true, false, false, true, true, true, false, false, false, false, false] ?_
  exact bp_law_567 E HL k69 y1 y2 hy1 hy2 h69 gh M A x6 x7 x8 x11 x12 x13 false
set_option maxRecDepth 100000 in
theorem bp_law_592 {p : Program} {l : Launch} {e : Env} {s : State} {m : MethodId} {args : Array Value} {below : List Frame} {meth : Method} {c : Code} {D : va_G} {cI cZ cO : ClassId} {mi de z0 o b L : Nat} {k : Nat → Nat} {xs : Nat → Int32} (E : lk_E D cI cZ cO mi de z0 b L k xs cL_law 19 (some .boolean) p l s m args meth c) (HL : s.heap.size ≤ z0 ∧ args = #[Value.ref b])  (k69 : rC_gh → rv_Mem → rv_Mem → Bool → Int32 → Option (Bool × rC_gh × rv_Mem × rv_Mem)) (y1 y2 : Nat) (hy1 : y1 + 518 ≤ 48223) (hy2 : y2 + 24782 ≤ 2312135) (h69 : ∀ (gh : rC_gh) (M : rv_Mem) (A : rv_Mem) (x5 : Bool) (x6 : Int32), rv_M (lk_G D cI cZ cO de z0 o k) (fun q => z0 ≤ q) p l e room_1 s m args below meth c (y1 + 518) (y2 + 24782) (lk_qL below args s) (k69 gh M A x5 x6) 69 [some (.ref b), some (.ref o), some (.ref (k 0)), some (.ref (k 1)), some (.ref (k 2)), some (.int (rv_i x5)), some (.int x6), none, none, none, none, none, none, none, none, none, none, none, none] [] (gh, M, A)) : ∀ (gh : rC_gh) (M : rv_Mem) (A : rv_Mem) (x6 : Int32) (x7 : Int32) (x8 : Int32) (x11 : Int32) (x12 : Int32) (x13 : Int32) (s0 : Bool), rv_M (lk_G D cI cZ cO de z0 o k) (fun q => z0 ≤ q) p l e room_1 s m args below meth c (y1 + 0) (y2 + 0) (lk_qL below args s) (gp_law_592 L xs k69 gh M A x6 x7 x8 x11 x12 x13 s0) 592 [some (.ref b), some (.ref o), some (.ref (k 0)), some (.ref (k 1)), some (.ref (k 2)), none, some (.int x6), some (.int x7), some (.int x8), none, none, some (.int x11), some (.int x12), some (.int x13), none, none, none, none, none] [.int (rv_i s0)] (gh, M, A) := by
  intro gh M A x6 x7 x8 x11 x12 x13 s0
  unfold gp_law_592
  refine rv_istore (q := 594) (lv' := [_, _, _, _, _, _, _, _, _, _, _, _, _, _, _, _, _, _, _]) E.x dL_law_592 (Nat.le_of_ble_eq_true rfl) rfl rfl rfl ?_
  refine rv_goto (q := 1773) E.x dL_law_594 (by decide) ?_
  refine rv_wk [true, true, true, true, true, true, true, true, true, false, false, true, true, true, false, false, false, false, false] ?_
  refine rv_wd (y1 + 6) (y2 + 386) (Nat.add_le_add_left (Nat.le_of_ble_eq_true rfl) _) (Nat.add_le_add_left (Nat.le_of_ble_eq_true rfl) _) ?_
  exact bp_law_1773 E HL k69 y1 y2 hy1 hy2 h69 gh M A s0 x6 x7 x8 x11 x12 x13
set_option maxRecDepth 100000 in
theorem bp_law_697 {p : Program} {l : Launch} {e : Env} {s : State} {m : MethodId} {args : Array Value} {below : List Frame} {meth : Method} {c : Code} {D : va_G} {cI cZ cO : ClassId} {mi de z0 o b L : Nat} {k : Nat → Nat} {xs : Nat → Int32} (E : lk_E D cI cZ cO mi de z0 b L k xs cL_law 19 (some .boolean) p l s m args meth c) (HL : s.heap.size ≤ z0 ∧ args = #[Value.ref b])  (k69 : rC_gh → rv_Mem → rv_Mem → Bool → Int32 → Option (Bool × rC_gh × rv_Mem × rv_Mem)) (y1 y2 : Nat) (hy1 : y1 + 518 ≤ 48223) (hy2 : y2 + 24782 ≤ 2312135) (h69 : ∀ (gh : rC_gh) (M : rv_Mem) (A : rv_Mem) (x5 : Bool) (x6 : Int32), rv_M (lk_G D cI cZ cO de z0 o k) (fun q => z0 ≤ q) p l e room_1 s m args below meth c (y1 + 518) (y2 + 24782) (lk_qL below args s) (k69 gh M A x5 x6) 69 [some (.ref b), some (.ref o), some (.ref (k 0)), some (.ref (k 1)), some (.ref (k 2)), some (.int (rv_i x5)), some (.int x6), none, none, none, none, none, none, none, none, none, none, none, none] [] (gh, M, A)) : ∀ (gh : rC_gh) (M : rv_Mem) (A : rv_Mem) (x6 : Int32) (x7 : Int32) (x8 : Int32) (x11 : Int32) (x12 : Int32) (x13 : Int32) (s0 : Bool), rv_M (lk_G D cI cZ cO de z0 o k) (fun q => z0 ≤ q) p l e room_1 s m args below meth c (y1 + 3) (y2 + 193) (lk_qL below args s) (gp_law_697 L xs k69 gh M A x6 x7 x8 x11 x12 x13 s0) 697 [some (.ref b), some (.ref o), some (.ref (k 0)), some (.ref (k 1)), some (.ref (k 2)), none, some (.int x6), some (.int x7), some (.int x8), none, none, some (.int x11), some (.int x12), some (.int x13), none, none, none, none, none] [.int (rv_i s0)] (gh, M, A) := by
  intro gh M A x6 x7 x8 x11 x12 x13 s0
  unfold gp_law_697
  refine rv_istore (q := 699) (lv' := [_, _, _, _, _, _, _, _, _, _, _, _, _, _, _, _, _, _, _]) E.x dL_law_697 (Nat.le_of_ble_eq_true rfl) rfl rfl rfl ?_
  refine rv_goto (q := 1773) E.x dL_law_699 (by decide) ?_
  refine rv_wk [true, true, true, true, true, true, true, true, true, false, false, true, true, true, false, false, false, false, false] ?_
  refine rv_wd (y1 + 6) (y2 + 386) (Nat.add_le_add_left (Nat.le_of_ble_eq_true rfl) _) (Nat.add_le_add_left (Nat.le_of_ble_eq_true rfl) _) ?_
  exact bp_law_1773 E HL k69 y1 y2 hy1 hy2 h69 gh M A s0 x6 x7 x8 x11 x12 x13
set_option maxRecDepth 100000 in
theorem bp_law_696 {p : Program} {l : Launch} {e : Env} {s : State} {m : MethodId} {args : Array Value} {below : List Frame} {meth : Method} {c : Code} {D : va_G} {cI cZ cO : ClassId} {mi de z0 o b L : Nat} {k : Nat → Nat} {xs : Nat → Int32} (E : lk_E D cI cZ cO mi de z0 b L k xs cL_law 19 (some .boolean) p l s m args meth c) (HL : s.heap.size ≤ z0 ∧ args = #[Value.ref b])  (k69 : rC_gh → rv_Mem → rv_Mem → Bool → Int32 → Option (Bool × rC_gh × rv_Mem × rv_Mem)) (y1 y2 : Nat) (hy1 : y1 + 518 ≤ 48223) (hy2 : y2 + 24782 ≤ 2312135) (h69 : ∀ (gh : rC_gh) (M : rv_Mem) (A : rv_Mem) (x5 : Bool) (x6 : Int32), rv_M (lk_G D cI cZ cO de z0 o k) (fun q => z0 ≤ q) p l e room_1 s m args below meth c (y1 + 518) (y2 + 24782) (lk_qL below args s) (k69 gh M A x5 x6) 69 [some (.ref b), some (.ref o), some (.ref (k 0)), some (.ref (k 1)), some (.ref (k 2)), some (.int (rv_i x5)), some (.int x6), none, none, none, none, none, none, none, none, none, none, none, none] [] (gh, M, A)) : ∀ (gh : rC_gh) (M : rv_Mem) (A : rv_Mem) (x6 : Int32) (x7 : Int32) (x8 : Int32) (x11 : Int32) (x12 : Int32) (x13 : Int32), rv_M (lk_G D cI cZ cO de z0 o k) (fun q => z0 ≤ q) p l e room_1 s m args below meth c (y1 + 3) (y2 + 193) (lk_qL below args s) (gp_law_696 L xs k69 gh M A x6 x7 x8 x11 x12 x13) 696 [some (.ref b), some (.ref o), some (.ref (k 0)), some (.ref (k 1)), some (.ref (k 2)), none, some (.int x6), some (.int x7), some (.int x8), none, none, some (.int x11), some (.int x12), some (.int x13), none, none, none, none, none] [] (gh, M, A) := by
  intro gh M A x6 x7 x8 x11 x12 x13
  unfold gp_law_696
  refine rv_iconst (q := 697) E.x dL_law_696 rv_ki0 rfl ?_
  refine rv_wk [true, true, true, true, true, false, true, true, true, false, false, true, true, true, false, false, false, false, false] ?_
  exact bp_law_697 E HL k69 y1 y2 hy1 hy2 h69 gh M A x6 x7 x8 x11 x12 x13 false
set_option maxRecDepth 100000 in
theorem bp_law_810 {p : Program} {l : Launch} {e : Env} {s : State} {m : MethodId} {args : Array Value} {below : List Frame} {meth : Method} {c : Code} {D : va_G} {cI cZ cO : ClassId} {mi de z0 o b L : Nat} {k : Nat → Nat} {xs : Nat → Int32} (E : lk_E D cI cZ cO mi de z0 b L k xs cL_law 19 (some .boolean) p l s m args meth c) (HL : s.heap.size ≤ z0 ∧ args = #[Value.ref b])  (k69 : rC_gh → rv_Mem → rv_Mem → Bool → Int32 → Option (Bool × rC_gh × rv_Mem × rv_Mem)) (y1 y2 : Nat) (hy1 : y1 + 518 ≤ 48223) (hy2 : y2 + 24782 ≤ 2312135) (h69 : ∀ (gh : rC_gh) (M : rv_Mem) (A : rv_Mem) (x5 : Bool) (x6 : Int32), rv_M (lk_G D cI cZ cO de z0 o k) (fun q => z0 ≤ q) p l e room_1 s m args below meth c (y1 + 518) (y2 + 24782) (lk_qL below args s) (k69 gh M A x5 x6) 69 [some (.ref b), some (.ref o), some (.ref (k 0)), some (.ref (k 1)), some (.ref (k 2)), some (.int (rv_i x5)), some (.int x6), none, none, none, none, none, none, none, none, none, none, none, none] [] (gh, M, A)) : ∀ (gh : rC_gh) (M : rv_Mem) (A : rv_Mem) (x6 : Int32) (x7 : Int32) (x8 : Int32) (x11 : Int32) (x12 : Int32) (x13 : Int32) (s0 : Bool), rv_M (lk_G D cI cZ cO de z0 o k) (fun q => z0 ≤ q) p l e room_1 s m args below meth c (y1 + 3) (y2 + 193) (lk_qL below args s) (gp_law_810 L xs k69 gh M A x6 x7 x8 x11 x12 x13 s0) 810 [some (.ref b), some (.ref o), some (.ref (k 0)), some (.ref (k 1)), some (.ref (k 2)), none, some (.int x6), some (.int x7), some (.int x8), none, none, some (.int x11), some (.int x12), some (.int x13), none, none, none, none, none] [.int (rv_i s0)] (gh, M, A) := by
  intro gh M A x6 x7 x8 x11 x12 x13 s0
  unfold gp_law_810
  refine rv_istore (q := 812) (lv' := [_, _, _, _, _, _, _, _, _, _, _, _, _, _, _, _, _, _, _]) E.x dL_law_810 (Nat.le_of_ble_eq_true rfl) rfl rfl rfl ?_
  refine rv_goto (q := 1773) E.x dL_law_812 (by decide) ?_
  refine rv_wk [true, true, true, true, true, true, true, true, true, false, false, true, true, true, false, false, false, false, false] ?_
  refine rv_wd (y1 + 6) (y2 + 386) (Nat.add_le_add_left (Nat.le_of_ble_eq_true rfl) _) (Nat.add_le_add_left (Nat.le_of_ble_eq_true rfl) _) ?_
  exact bp_law_1773 E HL k69 y1 y2 hy1 hy2 h69 gh M A s0 x6 x7 x8 x11 x12 x13
set_option maxRecDepth 100000 in
theorem bp_law_809 {p : Program} {l : Launch} {e : Env} {s : State} {m : MethodId} {args : Array Value} {below : List Frame} {meth : Method} {c : Code} {D : va_G} {cI cZ cO : ClassId} {mi de z0 o b L : Nat} {k : Nat → Nat} {xs : Nat → Int32} (E : lk_E D cI cZ cO mi de z0 b L k xs cL_law 19 (some .boolean) p l s m args meth c) (HL : s.heap.size ≤ z0 ∧ args = #[Value.ref b])  (k69 : rC_gh → rv_Mem → rv_Mem → Bool → Int32 → Option (Bool × rC_gh × rv_Mem × rv_Mem)) (y1 y2 : Nat) (hy1 : y1 + 518 ≤ 48223) (hy2 : y2 + 24782 ≤ 2312135) (h69 : ∀ (gh : rC_gh) (M : rv_Mem) (A : rv_Mem) (x5 : Bool) (x6 : Int32), rv_M (lk_G D cI cZ cO de z0 o k) (fun q => z0 ≤ q) p l e room_1 s m args below meth c (y1 + 518) (y2 + 24782) (lk_qL below args s) (k69 gh M A x5 x6) 69 [some (.ref b), some (.ref o), some (.ref (k 0)), some (.ref (k 1)), some (.ref (k 2)), some (.int (rv_i x5)), some (.int x6), none, none, none, none, none, none, none, none, none, none, none, none] [] (gh, M, A)) : ∀ (gh : rC_gh) (M : rv_Mem) (A : rv_Mem) (x6 : Int32) (x7 : Int32) (x8 : Int32) (x11 : Int32) (x12 : Int32) (x13 : Int32), rv_M (lk_G D cI cZ cO de z0 o k) (fun q => z0 ≤ q) p l e room_1 s m args below meth c (y1 + 3) (y2 + 193) (lk_qL below args s) (gp_law_809 L xs k69 gh M A x6 x7 x8 x11 x12 x13) 809 [some (.ref b), some (.ref o), some (.ref (k 0)), some (.ref (k 1)), some (.ref (k 2)), none, some (.int x6), some (.int x7), some (.int x8), none, none, some (.int x11), some (.int x12), some (.int x13), none, none, none, none, none] [] (gh, M, A) := by
  intro gh M A x6 x7 x8 x11 x12 x13
  unfold gp_law_809
  refine rv_iconst (q := 810) E.x dL_law_809 rv_ki0 rfl ?_
  refine rv_wk [true, true, true, true, true, false, true, true, true, false, false, true, true, true, false, false, false, false, false] ?_
  exact bp_law_810 E HL k69 y1 y2 hy1 hy2 h69 gh M A x6 x7 x8 x11 x12 x13 false
set_option maxRecDepth 100000 in
theorem bp_law_973 {p : Program} {l : Launch} {e : Env} {s : State} {m : MethodId} {args : Array Value} {below : List Frame} {meth : Method} {c : Code} {D : va_G} {cI cZ cO : ClassId} {mi de z0 o b L : Nat} {k : Nat → Nat} {xs : Nat → Int32} (E : lk_E D cI cZ cO mi de z0 b L k xs cL_law 19 (some .boolean) p l s m args meth c) (HL : s.heap.size ≤ z0 ∧ args = #[Value.ref b])  (k69 : rC_gh → rv_Mem → rv_Mem → Bool → Int32 → Option (Bool × rC_gh × rv_Mem × rv_Mem)) (y1 y2 : Nat) (hy1 : y1 + 518 ≤ 48223) (hy2 : y2 + 24782 ≤ 2312135) (h69 : ∀ (gh : rC_gh) (M : rv_Mem) (A : rv_Mem) (x5 : Bool) (x6 : Int32), rv_M (lk_G D cI cZ cO de z0 o k) (fun q => z0 ≤ q) p l e room_1 s m args below meth c (y1 + 518) (y2 + 24782) (lk_qL below args s) (k69 gh M A x5 x6) 69 [some (.ref b), some (.ref o), some (.ref (k 0)), some (.ref (k 1)), some (.ref (k 2)), some (.int (rv_i x5)), some (.int x6), none, none, none, none, none, none, none, none, none, none, none, none] [] (gh, M, A)) : ∀ (gh : rC_gh) (M : rv_Mem) (A : rv_Mem) (x6 : Int32) (x7 : Int32) (x8 : Int32) (x11 : Int32) (x12 : Int32) (x13 : Int32) (s0 : Bool), rv_M (lk_G D cI cZ cO de z0 o k) (fun q => z0 ≤ q) p l e room_1 s m args below meth c (y1 + 3) (y2 + 193) (lk_qL below args s) (gp_law_973 L xs k69 gh M A x6 x7 x8 x11 x12 x13 s0) 973 [some (.ref b), some (.ref o), some (.ref (k 0)), some (.ref (k 1)), some (.ref (k 2)), none, some (.int x6), some (.int x7), some (.int x8), none, none, some (.int x11), some (.int x12), some (.int x13), none, none, none, none, none] [.int (rv_i s0)] (gh, M, A) := by
  intro gh M A x6 x7 x8 x11 x12 x13 s0
  unfold gp_law_973
  refine rv_istore (q := 975) (lv' := [_, _, _, _, _, _, _, _, _, _, _, _, _, _, _, _, _, _, _]) E.x dL_law_973 (Nat.le_of_ble_eq_true rfl) rfl rfl rfl ?_
  refine rv_goto (q := 1773) E.x dL_law_975 (by decide) ?_
  refine rv_wk [true, true, true, true, true, true, true, true, true, false, false, true, true, true, false, false, false, false, false] ?_
  refine rv_wd (y1 + 6) (y2 + 386) (Nat.add_le_add_left (Nat.le_of_ble_eq_true rfl) _) (Nat.add_le_add_left (Nat.le_of_ble_eq_true rfl) _) ?_
  exact bp_law_1773 E HL k69 y1 y2 hy1 hy2 h69 gh M A s0 x6 x7 x8 x11 x12 x13
set_option maxRecDepth 100000 in
theorem bp_law_968 {p : Program} {l : Launch} {e : Env} {s : State} {m : MethodId} {args : Array Value} {below : List Frame} {meth : Method} {c : Code} {D : va_G} {cI cZ cO : ClassId} {mi de z0 o b L : Nat} {k : Nat → Nat} {xs : Nat → Int32} (E : lk_E D cI cZ cO mi de z0 b L k xs cL_law 19 (some .boolean) p l s m args meth c) (HL : s.heap.size ≤ z0 ∧ args = #[Value.ref b])  (k69 : rC_gh → rv_Mem → rv_Mem → Bool → Int32 → Option (Bool × rC_gh × rv_Mem × rv_Mem)) (y1 y2 : Nat) (hy1 : y1 + 518 ≤ 48223) (hy2 : y2 + 24782 ≤ 2312135) (h69 : ∀ (gh : rC_gh) (M : rv_Mem) (A : rv_Mem) (x5 : Bool) (x6 : Int32), rv_M (lk_G D cI cZ cO de z0 o k) (fun q => z0 ≤ q) p l e room_1 s m args below meth c (y1 + 518) (y2 + 24782) (lk_qL below args s) (k69 gh M A x5 x6) 69 [some (.ref b), some (.ref o), some (.ref (k 0)), some (.ref (k 1)), some (.ref (k 2)), some (.int (rv_i x5)), some (.int x6), none, none, none, none, none, none, none, none, none, none, none, none] [] (gh, M, A)) : ∀ (gh : rC_gh) (M : rv_Mem) (A : rv_Mem) (x6 : Int32) (x7 : Int32) (x8 : Int32) (x11 : Int32) (x12 : Int32) (x13 : Int32), rv_M (lk_G D cI cZ cO de z0 o k) (fun q => z0 ≤ q) p l e room_1 s m args below meth c (y1 + 3) (y2 + 193) (lk_qL below args s) (gp_law_968 L xs k69 gh M A x6 x7 x8 x11 x12 x13) 968 [some (.ref b), some (.ref o), some (.ref (k 0)), some (.ref (k 1)), some (.ref (k 2)), none, some (.int x6), some (.int x7), some (.int x8), none, none, some (.int x11), some (.int x12), some (.int x13), none, none, none, none, none] [] (gh, M, A) := by
  intro gh M A x6 x7 x8 x11 x12 x13
  unfold gp_law_968
  refine rv_iconst (q := 969) E.x dL_law_968 rv_ki1 rfl ?_
  refine rv_goto (q := 973) E.x dL_law_969 (by decide) ?_
  refine rv_wk [true, true, true, true, true, false, true, true, true, false, false, true, true, true, false, false, false, false, false] ?_
  exact bp_law_973 E HL k69 y1 y2 hy1 hy2 h69 gh M A x6 x7 x8 x11 x12 x13 true
set_option maxRecDepth 100000 in
theorem bp_law_972 {p : Program} {l : Launch} {e : Env} {s : State} {m : MethodId} {args : Array Value} {below : List Frame} {meth : Method} {c : Code} {D : va_G} {cI cZ cO : ClassId} {mi de z0 o b L : Nat} {k : Nat → Nat} {xs : Nat → Int32} (E : lk_E D cI cZ cO mi de z0 b L k xs cL_law 19 (some .boolean) p l s m args meth c) (HL : s.heap.size ≤ z0 ∧ args = #[Value.ref b])  (k69 : rC_gh → rv_Mem → rv_Mem → Bool → Int32 → Option (Bool × rC_gh × rv_Mem × rv_Mem)) (y1 y2 : Nat) (hy1 : y1 + 518 ≤ 48223) (hy2 : y2 + 24782 ≤ 2312135) (h69 : ∀ (gh : rC_gh) (M : rv_Mem) (A : rv_Mem) (x5 : Bool) (x6 : Int32), rv_M (lk_G D cI cZ cO de z0 o k) (fun q => z0 ≤ q) p l e room_1 s m args below meth c (y1 + 518) (y2 + 24782) (lk_qL below args s) (k69 gh M A x5 x6) 69 [some (.ref b), some (.ref o), some (.ref (k 0)), some (.ref (k 1)), some (.ref (k 2)), some (.int (rv_i x5)), some (.int x6), none, none, none, none, none, none, none, none, none, none, none, none] [] (gh, M, A)) : ∀ (gh : rC_gh) (M : rv_Mem) (A : rv_Mem) (x6 : Int32) (x7 : Int32) (x8 : Int32) (x11 : Int32) (x12 : Int32) (x13 : Int32), rv_M (lk_G D cI cZ cO de z0 o k) (fun q => z0 ≤ q) p l e room_1 s m args below meth c (y1 + 3) (y2 + 193) (lk_qL below args s) (gp_law_972 L xs k69 gh M A x6 x7 x8 x11 x12 x13) 972 [some (.ref b), some (.ref o), some (.ref (k 0)), some (.ref (k 1)), some (.ref (k 2)), none, some (.int x6), some (.int x7), some (.int x8), none, none, some (.int x11), some (.int x12), some (.int x13), none, none, none, none, none] [] (gh, M, A) := by
  intro gh M A x6 x7 x8 x11 x12 x13
  unfold gp_law_972
  refine rv_iconst (q := 973) E.x dL_law_972 rv_ki0 rfl ?_
  refine rv_wk [true, true, true, true, true, false, true, true, true, false, false, true, true, true, false, false, false, false, false] ?_
  exact bp_law_973 E HL k69 y1 y2 hy1 hy2 h69 gh M A x6 x7 x8 x11 x12 x13 false
set_option maxRecDepth 100000 in
theorem bp_law_885 {p : Program} {l : Launch} {e : Env} {s : State} {m : MethodId} {args : Array Value} {below : List Frame} {meth : Method} {c : Code} {D : va_G} {cI cZ cO : ClassId} {mi de z0 o b L : Nat} {k : Nat → Nat} {xs : Nat → Int32} (E : lk_E D cI cZ cO mi de z0 b L k xs cL_law 19 (some .boolean) p l s m args meth c) (HL : s.heap.size ≤ z0 ∧ args = #[Value.ref b])  (k69 : rC_gh → rv_Mem → rv_Mem → Bool → Int32 → Option (Bool × rC_gh × rv_Mem × rv_Mem)) (y1 y2 : Nat) (hy1 : y1 + 518 ≤ 48223) (hy2 : y2 + 24782 ≤ 2312135) (h69 : ∀ (gh : rC_gh) (M : rv_Mem) (A : rv_Mem) (x5 : Bool) (x6 : Int32), rv_M (lk_G D cI cZ cO de z0 o k) (fun q => z0 ≤ q) p l e room_1 s m args below meth c (y1 + 518) (y2 + 24782) (lk_qL below args s) (k69 gh M A x5 x6) 69 [some (.ref b), some (.ref o), some (.ref (k 0)), some (.ref (k 1)), some (.ref (k 2)), some (.int (rv_i x5)), some (.int x6), none, none, none, none, none, none, none, none, none, none, none, none] [] (gh, M, A)) : ∀ (gh : rC_gh) (M : rv_Mem) (A : rv_Mem) (x6 : Int32) (x7 : Int32) (x8 : Int32) (x11 : Int32) (x12 : Int32) (x13 : Int32) (x15 : Int32) (s0 : Int32), rv_M (lk_G D cI cZ cO de z0 o k) (fun q => z0 ≤ q) p l e room_1 s m args below meth c (y1 + 0) (y2 + 0) (lk_qL below args s) (gp_law_885 L xs k69 gh M A x6 x7 x8 x11 x12 x13 x15 s0) 885 [some (.ref b), some (.ref o), some (.ref (k 0)), some (.ref (k 1)), some (.ref (k 2)), none, some (.int x6), some (.int x7), some (.int x8), none, none, some (.int x11), some (.int x12), some (.int x13), none, some (.int x15), none, none, none] [.int s0] (gh, M, A) := by
  intro gh M A x6 x7 x8 x11 x12 x13 x15 s0
  unfold gp_law_885
  refine rv_istore (q := 887) (lv' := [_, _, _, _, _, _, _, _, _, _, _, _, _, _, _, _, _, _, _]) E.x dL_law_885 (Nat.le_of_ble_eq_true rfl) rfl rfl rfl ?_
  refine rv_aload_n (q := 888) E.x dL_law_887 rfl rfl ?_
  refine rv_bipush (q := 890) E.x dL_law_888 rv_kb15 rfl ?_
  refine rv_iload (q := 892) E.x dL_law_890 rfl rfl ?_
  refine rv_iconst (q := 893) E.x dL_law_892 rv_ki3 rfl ?_
  refine rv_idiv (q := 894) E.x dL_law_893 (by decide) rfl ?_
  refine rv_bipush (q := 896) E.x dL_law_894 rv_kb6 rfl ?_
  refine rv_irem (q := 897) E.x dL_law_896 (by decide) rfl ?_
  refine rv_iload (q := 899) E.x dL_law_897 rfl rfl ?_
  refine rv_iload (q := 901) E.x dL_law_899 rfl rfl ?_
  refine rv_iload (q := 903) E.x dL_law_901 rfl rfl ?_
  refine rv_iload (q := 905) E.x dL_law_903 rfl rfl ?_
  refine lk_b3 (fun r2 g4 M3 e1 => ?_)
  refine lk_csW (q := 908) (v := r2) (σ' := (g4, M3, A)) E (wP_act E.2.2.1 e1) gPs_241 hP_act ⟨rfl, rfl⟩ ⟨Nat.le_of_ble_eq_true rfl, Nat.le_of_ble_eq_true rfl⟩ ⟨lk_le2 hy1 (Nat.le_of_ble_eq_true rfl) (Nat.le_of_ble_eq_true rfl), lk_le2 hy2 (Nat.le_of_ble_eq_true rfl) (Nat.le_of_ble_eq_true rfl)⟩ rfl rfl rfl (Nat.le_of_ble_eq_true rfl) dL_law_905 rfl ?_
  refine rv_wd (y1 + 3) (y2 + 193) (Nat.le_of_eq (Nat.add_assoc _ _ _)) (Nat.le_of_eq (Nat.add_assoc _ _ _)) ?_
  refine rv_istore (q := 910) (lv' := [_, _, _, _, _, _, _, _, _, _, _, _, _, _, _, _, _, _, _]) E.x dL_law_908 (Nat.le_of_ble_eq_true rfl) rfl rfl rfl ?_
  refine rv_iload (q := 912) E.x dL_law_910 rfl rfl ?_
  refine rv_sipush (q := 915) E.x dL_law_912 rv_ksm1263 rfl ?_
  refine rv_icmp_eq (q := 918) (tgt := 968) E.x dL_law_915 (by decide) rfl ?_ ?_
  · refine rv_aload_n (q := 919) E.x dL_law_918 rfl rfl ?_
    refine rv_iload (q := 921) E.x dL_law_919 rfl rfl ?_
    refine rv_iconst (q := 922) E.x dL_law_921 rv_ki3 rfl ?_
    refine rv_idiv (q := 923) E.x dL_law_922 (by decide) rfl ?_
    refine rv_bipush (q := 925) E.x dL_law_923 rv_kb6 rfl ?_
    refine rv_irem (q := 926) E.x dL_law_925 (by decide) rfl ?_
    refine rv_iload (q := 928) E.x dL_law_926 rfl rfl ?_
    refine rv_iload (q := 930) E.x dL_law_928 rfl rfl ?_
    refine rv_iload (q := 932) E.x dL_law_930 rfl rfl ?_
    refine lk_x1r (fun r6 e5 => ?_) (fun w7 e8 => rv_stuck)
    refine lk_ci (q := 935) (v := r6) (M1 := M3) E (fun u hI _ => c11_worth E.2.2.1.1 hI e5) gP_142 hX11_worth ⟨rfl, rfl⟩ ⟨Nat.le_of_ble_eq_true rfl, Nat.le_of_ble_eq_true rfl⟩ ⟨lk_le1 hy1 (Nat.le_of_ble_eq_true rfl) (Nat.le_of_ble_eq_true rfl), lk_le1 hy2 (Nat.le_of_ble_eq_true rfl) (Nat.le_of_ble_eq_true rfl)⟩ rfl rfl rfl (Nat.le_of_ble_eq_true rfl) dL_law_932 rfl ?_
    refine rv_iload (q := 937) E.x dL_law_935 rfl rfl ?_
    refine rv_icmp_ne (q := 940) (tgt := 972) E.x dL_law_937 (by decide) rfl ?_ ?_
    · refine rv_iload (q := 942) E.x dL_law_940 rfl rfl ?_
      refine rv_aload_n (q := 943) E.x dL_law_942 rfl rfl ?_
      refine rv_iload (q := 945) E.x dL_law_943 rfl rfl ?_
      refine rv_iconst (q := 946) E.x dL_law_945 rv_ki3 rfl ?_
      refine rv_idiv (q := 947) E.x dL_law_946 (by decide) rfl ?_
      refine rv_bipush (q := 949) E.x dL_law_947 rv_kb6 rfl ?_
      refine rv_irem (q := 950) E.x dL_law_949 (by decide) rfl ?_
      refine rv_iload (q := 952) E.x dL_law_950 rfl rfl ?_
      refine rv_aload_n (q := 953) E.x dL_law_952 rfl rfl ?_
      refine rv_iload (q := 955) E.x dL_law_953 rfl rfl ?_
      refine lk_x1r (fun r10 e9 => ?_) (fun w11 e12 => rv_stuck)
      refine lk_ci (q := 958) (v := r10) (M1 := M3) E (fun u hI _ => c11_sets E.2.2.1.1 hI e9) gP_127 hX11_sets ⟨rfl, rfl⟩ ⟨Nat.le_of_ble_eq_true rfl, Nat.le_of_ble_eq_true rfl⟩ ⟨lk_le1 hy1 (Nat.le_of_ble_eq_true rfl) (Nat.le_of_ble_eq_true rfl), lk_le1 hy2 (Nat.le_of_ble_eq_true rfl) (Nat.le_of_ble_eq_true rfl)⟩ rfl rfl rfl (Nat.le_of_ble_eq_true rfl) dL_law_955 rfl ?_
      refine rv_iconst (q := 959) E.x dL_law_958 rv_ki1 rfl ?_
      refine rv_isub (q := 960) E.x dL_law_959 rfl ?_
      refine rv_iload (q := 962) E.x dL_law_960 rfl rfl ?_
      refine lk_x1r (fun r14 e13 => ?_) (fun w15 e16 => rv_stuck)
      refine lk_ci (q := 965) (v := r14) (M1 := M3) E (fun u hI _ => c11_worth E.2.2.1.1 hI e13) gP_142 hX11_worth ⟨rfl, rfl⟩ ⟨Nat.le_of_ble_eq_true rfl, Nat.le_of_ble_eq_true rfl⟩ ⟨lk_le1 hy1 (Nat.le_of_ble_eq_true rfl) (Nat.le_of_ble_eq_true rfl), lk_le1 hy2 (Nat.le_of_ble_eq_true rfl) (Nat.le_of_ble_eq_true rfl)⟩ rfl rfl rfl (Nat.le_of_ble_eq_true rfl) dL_law_962 rfl ?_
      refine rv_icmp_ne (q := 968) (tgt := 972) E.x dL_law_965 (by decide) rfl ?_ ?_
      · refine rv_wk [true, true, true, true, true, false, true, true, true, false, false, true, true, true, false, false, false, false, false] ?_
        exact bp_law_968 E HL k69 y1 y2 hy1 hy2 h69 g4 M3 A x6 x7 x8 x11 x12 x13
      · refine rv_wk [true, true, true, true, true, false, true, true, true, false, false, true, true, true, false, false, false, false, false] ?_
        exact bp_law_972 E HL k69 y1 y2 hy1 hy2 h69 g4 M3 A x6 x7 x8 x11 x12 x13
    · refine rv_wk [true, true, true, true, true, false, true, true, true, false, false, true, true, true, false, false, false, false, false] ?_
      exact bp_law_972 E HL k69 y1 y2 hy1 hy2 h69 g4 M3 A x6 x7 x8 x11 x12 x13
  · refine rv_wk [true, true, true, true, true, false, true, true, true, false, false, true, true, true, false, false, false, false, false] ?_
    exact bp_law_968 E HL k69 y1 y2 hy1 hy2 h69 g4 M3 A x6 x7 x8 x11 x12 x13
set_option maxRecDepth 100000 in
theorem bp_law_1175 {p : Program} {l : Launch} {e : Env} {s : State} {m : MethodId} {args : Array Value} {below : List Frame} {meth : Method} {c : Code} {D : va_G} {cI cZ cO : ClassId} {mi de z0 o b L : Nat} {k : Nat → Nat} {xs : Nat → Int32} (E : lk_E D cI cZ cO mi de z0 b L k xs cL_law 19 (some .boolean) p l s m args meth c) (HL : s.heap.size ≤ z0 ∧ args = #[Value.ref b])  (k69 : rC_gh → rv_Mem → rv_Mem → Bool → Int32 → Option (Bool × rC_gh × rv_Mem × rv_Mem)) (y1 y2 : Nat) (hy1 : y1 + 518 ≤ 48223) (hy2 : y2 + 24782 ≤ 2312135) (h69 : ∀ (gh : rC_gh) (M : rv_Mem) (A : rv_Mem) (x5 : Bool) (x6 : Int32), rv_M (lk_G D cI cZ cO de z0 o k) (fun q => z0 ≤ q) p l e room_1 s m args below meth c (y1 + 518) (y2 + 24782) (lk_qL below args s) (k69 gh M A x5 x6) 69 [some (.ref b), some (.ref o), some (.ref (k 0)), some (.ref (k 1)), some (.ref (k 2)), some (.int (rv_i x5)), some (.int x6), none, none, none, none, none, none, none, none, none, none, none, none] [] (gh, M, A)) : ∀ (gh : rC_gh) (M : rv_Mem) (A : rv_Mem) (x6 : Int32) (x7 : Int32) (x8 : Int32) (x11 : Int32) (x12 : Int32) (x13 : Int32) (s0 : Bool), rv_M (lk_G D cI cZ cO de z0 o k) (fun q => z0 ≤ q) p l e room_1 s m args below meth c (y1 + 3) (y2 + 110) (lk_qL below args s) (gp_law_1175 L xs k69 gh M A x6 x7 x8 x11 x12 x13 s0) 1175 [some (.ref b), some (.ref o), some (.ref (k 0)), some (.ref (k 1)), some (.ref (k 2)), none, some (.int x6), some (.int x7), some (.int x8), none, none, some (.int x11), some (.int x12), some (.int x13), none, none, none, none, none] [.int (rv_i s0)] (gh, M, A) := by
  intro gh M A x6 x7 x8 x11 x12 x13 s0
  unfold gp_law_1175
  refine rv_istore (q := 1177) (lv' := [_, _, _, _, _, _, _, _, _, _, _, _, _, _, _, _, _, _, _]) E.x dL_law_1175 (Nat.le_of_ble_eq_true rfl) rfl rfl rfl ?_
  refine rv_goto (q := 1773) E.x dL_law_1177 (by decide) ?_
  refine rv_wk [true, true, true, true, true, true, true, true, true, false, false, true, true, true, false, false, false, false, false] ?_
  refine rv_wd (y1 + 6) (y2 + 386) (Nat.add_le_add_left (Nat.le_of_ble_eq_true rfl) _) (Nat.add_le_add_left (Nat.le_of_ble_eq_true rfl) _) ?_
  exact bp_law_1773 E HL k69 y1 y2 hy1 hy2 h69 gh M A s0 x6 x7 x8 x11 x12 x13
set_option maxRecDepth 100000 in
theorem bp_law_1167 {p : Program} {l : Launch} {e : Env} {s : State} {m : MethodId} {args : Array Value} {below : List Frame} {meth : Method} {c : Code} {D : va_G} {cI cZ cO : ClassId} {mi de z0 o b L : Nat} {k : Nat → Nat} {xs : Nat → Int32} (E : lk_E D cI cZ cO mi de z0 b L k xs cL_law 19 (some .boolean) p l s m args meth c) (HL : s.heap.size ≤ z0 ∧ args = #[Value.ref b])  (k69 : rC_gh → rv_Mem → rv_Mem → Bool → Int32 → Option (Bool × rC_gh × rv_Mem × rv_Mem)) (y1 y2 : Nat) (hy1 : y1 + 518 ≤ 48223) (hy2 : y2 + 24782 ≤ 2312135) (h69 : ∀ (gh : rC_gh) (M : rv_Mem) (A : rv_Mem) (x5 : Bool) (x6 : Int32), rv_M (lk_G D cI cZ cO de z0 o k) (fun q => z0 ≤ q) p l e room_1 s m args below meth c (y1 + 518) (y2 + 24782) (lk_qL below args s) (k69 gh M A x5 x6) 69 [some (.ref b), some (.ref o), some (.ref (k 0)), some (.ref (k 1)), some (.ref (k 2)), some (.int (rv_i x5)), some (.int x6), none, none, none, none, none, none, none, none, none, none, none, none] [] (gh, M, A)) : ∀ (gh : rC_gh) (M : rv_Mem) (A : rv_Mem) (x6 : Int32) (x7 : Int32) (x8 : Int32) (x11 : Int32) (x12 : Int32) (x13 : Int32) (s0 : Int32) (s1 : Int32), rv_M (lk_G D cI cZ cO de z0 o k) (fun q => z0 ≤ q) p l e room_1 s m args below meth c (y1 + 3) (y2 + 110) (lk_qL below args s) (gp_law_1167 L xs k69 gh M A x6 x7 x8 x11 x12 x13 s0 s1) 1167 [some (.ref b), some (.ref o), some (.ref (k 0)), some (.ref (k 1)), some (.ref (k 2)), none, some (.int x6), some (.int x7), some (.int x8), none, none, some (.int x11), some (.int x12), some (.int x13), none, none, none, none, none] [.int s1, .int s0] (gh, M, A) := by
  intro gh M A x6 x7 x8 x11 x12 x13 s0 s1
  unfold gp_law_1167
  refine rv_icmp_ne (q := 1170) (tgt := 1174) E.x dL_law_1167 (by decide) rfl ?_ ?_
  · refine rv_iconst (q := 1171) E.x dL_law_1170 rv_ki1 rfl ?_
    refine rv_goto (q := 1175) E.x dL_law_1171 (by decide) ?_
    refine rv_wk [true, true, true, true, true, false, true, true, true, false, false, true, true, true, false, false, false, false, false] ?_
    exact bp_law_1175 E HL k69 y1 y2 hy1 hy2 h69 gh M A x6 x7 x8 x11 x12 x13 true
  · refine rv_iconst (q := 1175) E.x dL_law_1174 rv_ki0 rfl ?_
    refine rv_wk [true, true, true, true, true, false, true, true, true, false, false, true, true, true, false, false, false, false, false] ?_
    exact bp_law_1175 E HL k69 y1 y2 hy1 hy2 h69 gh M A x6 x7 x8 x11 x12 x13 false
set_option maxRecDepth 100000 in
theorem bp_law_1122 {p : Program} {l : Launch} {e : Env} {s : State} {m : MethodId} {args : Array Value} {below : List Frame} {meth : Method} {c : Code} {D : va_G} {cI cZ cO : ClassId} {mi de z0 o b L : Nat} {k : Nat → Nat} {xs : Nat → Int32} (E : lk_E D cI cZ cO mi de z0 b L k xs cL_law 19 (some .boolean) p l s m args meth c) (HL : s.heap.size ≤ z0 ∧ args = #[Value.ref b])  (k69 : rC_gh → rv_Mem → rv_Mem → Bool → Int32 → Option (Bool × rC_gh × rv_Mem × rv_Mem)) (y1 y2 : Nat) (hy1 : y1 + 518 ≤ 48223) (hy2 : y2 + 24782 ≤ 2312135) (h69 : ∀ (gh : rC_gh) (M : rv_Mem) (A : rv_Mem) (x5 : Bool) (x6 : Int32), rv_M (lk_G D cI cZ cO de z0 o k) (fun q => z0 ≤ q) p l e room_1 s m args below meth c (y1 + 518) (y2 + 24782) (lk_qL below args s) (k69 gh M A x5 x6) 69 [some (.ref b), some (.ref o), some (.ref (k 0)), some (.ref (k 1)), some (.ref (k 2)), some (.int (rv_i x5)), some (.int x6), none, none, none, none, none, none, none, none, none, none, none, none] [] (gh, M, A)) : ∀ (gh : rC_gh) (M : rv_Mem) (A : rv_Mem) (x6 : Int32) (x7 : Int32) (x8 : Int32) (x11 : Int32) (x12 : Int32) (x13 : Int32) (x15 : Int32) (x18 : Int32), rv_M (lk_G D cI cZ cO de z0 o k) (fun q => z0 ≤ q) p l e room_1 s m args below meth c (y1 + 3) (y2 + 110) (lk_qL below args s) (gp_law_1122 L xs k69 gh M A x6 x7 x8 x11 x12 x13 x15 x18) 1122 [some (.ref b), some (.ref o), some (.ref (k 0)), some (.ref (k 1)), some (.ref (k 2)), none, some (.int x6), some (.int x7), some (.int x8), none, none, some (.int x11), some (.int x12), some (.int x13), none, some (.int x15), none, none, some (.int x18)] [] (gh, M, A) := by
  intro gh M A x6 x7 x8 x11 x12 x13 x15 x18
  unfold gp_law_1122
  refine rv_iload (q := 1124) E.x dL_law_1122 rfl rfl ?_
  refine rv_iload (q := 1126) E.x dL_law_1124 rfl rfl ?_
  refine rv_if_ne (q := 1129) (tgt := 1150) E.x dL_law_1126 (by decide) rfl ?_ ?_
  · refine rv_aload (q := 1131) E.x dL_law_1129 rfl rfl ?_
    refine rv_iconst (q := 1132) E.x dL_law_1131 rv_ki0 rfl ?_
    refine lk_ald (q := 1133) E 2 (by decide) dL_law_1132 rfl ?_
    refine rv_bipush (q := 1135) E.x dL_law_1133 rv_kb60 rfl ?_
    refine rv_icmp_ge (q := 1138) (tgt := 1144) E.x dL_law_1135 (by decide) rfl ?_ ?_
    · refine rv_sipush (q := 1141) E.x dL_law_1138 rv_ksm1262 rfl ?_
      refine rv_goto (q := 1167) E.x dL_law_1141 (by decide) ?_
      refine rv_wk [true, true, true, true, true, false, true, true, true, false, false, true, true, true, false, false, false, false, false] ?_
      exact bp_law_1167 E HL k69 y1 y2 hy1 hy2 h69 gh M A x6 x7 x8 x11 x12 x13 x18 (-1262)
    · refine rv_sipush (q := 1147) E.x dL_law_1144 rv_ksm1263 rfl ?_
      refine rv_goto (q := 1167) E.x dL_law_1147 (by decide) ?_
      refine rv_wk [true, true, true, true, true, false, true, true, true, false, false, true, true, true, false, false, false, false, false] ?_
      exact bp_law_1167 E HL k69 y1 y2 hy1 hy2 h69 gh M A x6 x7 x8 x11 x12 x13 x18 (-1263)
  · refine rv_iload (q := 1152) E.x dL_law_1150 rfl rfl ?_
    refine rv_if_ge (q := 1155) (tgt := 1161) E.x dL_law_1152 (by decide) rfl ?_ ?_
    · refine rv_sipush (q := 1158) E.x dL_law_1155 rv_ksm1263 rfl ?_
      refine rv_goto (q := 1167) E.x dL_law_1158 (by decide) ?_
      refine rv_wk [true, true, true, true, true, false, true, true, true, false, false, true, true, true, false, false, false, false, false] ?_
      exact bp_law_1167 E HL k69 y1 y2 hy1 hy2 h69 gh M A x6 x7 x8 x11 x12 x13 x18 (-1263)
    · refine rv_aload (q := 1163) E.x dL_law_1161 rfl rfl ?_
      refine rv_iconst (q := 1164) E.x dL_law_1163 rv_ki0 rfl ?_
      refine lk_ald (q := 1165) E 2 (by decide) dL_law_1164 rfl ?_
      refine rv_iconst (q := 1166) E.x dL_law_1165 rv_ki1 rfl ?_
      refine rv_isub (q := 1167) E.x dL_law_1166 rfl ?_
      refine rv_wk [true, true, true, true, true, false, true, true, true, false, false, true, true, true, false, false, false, false, false] ?_
      exact bp_law_1167 E HL k69 y1 y2 hy1 hy2 h69 gh M A x6 x7 x8 x11 x12 x13 x18 ((A 2 ((0 : Int32)).toNatClampNeg) - 1)
set_option maxRecDepth 100000 in
theorem bp_law_1076 {p : Program} {l : Launch} {e : Env} {s : State} {m : MethodId} {args : Array Value} {below : List Frame} {meth : Method} {c : Code} {D : va_G} {cI cZ cO : ClassId} {mi de z0 o b L : Nat} {k : Nat → Nat} {xs : Nat → Int32} (E : lk_E D cI cZ cO mi de z0 b L k xs cL_law 19 (some .boolean) p l s m args meth c) (HL : s.heap.size ≤ z0 ∧ args = #[Value.ref b])  (k69 : rC_gh → rv_Mem → rv_Mem → Bool → Int32 → Option (Bool × rC_gh × rv_Mem × rv_Mem)) (y1 y2 : Nat) (hy1 : y1 + 518 ≤ 48223) (hy2 : y2 + 24782 ≤ 2312135) (h69 : ∀ (gh : rC_gh) (M : rv_Mem) (A : rv_Mem) (x5 : Bool) (x6 : Int32), rv_M (lk_G D cI cZ cO de z0 o k) (fun q => z0 ≤ q) p l e room_1 s m args below meth c (y1 + 518) (y2 + 24782) (lk_qL below args s) (k69 gh M A x5 x6) 69 [some (.ref b), some (.ref o), some (.ref (k 0)), some (.ref (k 1)), some (.ref (k 2)), some (.int (rv_i x5)), some (.int x6), none, none, none, none, none, none, none, none, none, none, none, none] [] (gh, M, A)) : ∀ (gh : rC_gh) (M : rv_Mem) (A : rv_Mem) (x6 : Int32) (x7 : Int32) (x8 : Int32) (x11 : Int32) (x12 : Int32) (x13 : Int32) (x15 : Int32) (x16 : Int32) (x17 : Int32) (s0 : Int32), rv_M (lk_G D cI cZ cO de z0 o k) (fun q => z0 ≤ q) p l e room_1 s m args below meth c (y1 + 3) (y2 + 110) (lk_qL below args s) (gp_law_1076 L xs k69 gh M A x6 x7 x8 x11 x12 x13 x15 x16 x17 s0) 1076 [some (.ref b), some (.ref o), some (.ref (k 0)), some (.ref (k 1)), some (.ref (k 2)), none, some (.int x6), some (.int x7), some (.int x8), none, none, some (.int x11), some (.int x12), some (.int x13), none, some (.int x15), some (.int x16), some (.int x17), none] [.int s0] (gh, M, A) := by
  intro gh M A x6 x7 x8 x11 x12 x13 x15 x16 x17 s0
  unfold gp_law_1076
  refine rv_istore (q := 1078) (lv' := [_, _, _, _, _, _, _, _, _, _, _, _, _, _, _, _, _, _, _]) E.x dL_law_1076 (Nat.le_of_ble_eq_true rfl) rfl rfl rfl ?_
  refine rv_iload (q := 1080) E.x dL_law_1078 rfl rfl ?_
  refine rv_if_lt (q := 1083) (tgt := 1122) E.x dL_law_1080 (by decide) rfl ?_ ?_
  · refine rv_aload_n (q := 1084) E.x dL_law_1083 rfl rfl ?_
    refine rv_aload (q := 1086) E.x dL_law_1084 rfl rfl ?_
    refine rv_iconst (q := 1087) E.x dL_law_1086 rv_ki0 rfl ?_
    refine lk_ald (q := 1088) E 2 (by decide) dL_law_1087 rfl ?_
    refine rv_iload (q := 1090) E.x dL_law_1088 rfl rfl ?_
    refine rv_iload (q := 1092) E.x dL_law_1090 rfl rfl ?_
    refine rv_iconst (q := 1093) E.x dL_law_1092 rv_ki5 rfl ?_
    refine rv_ishl (q := 1094) E.x dL_law_1093 rfl ?_
    refine rv_ior (q := 1095) E.x dL_law_1094 rfl ?_
    refine rv_iload (q := 1097) E.x dL_law_1095 rfl rfl ?_
    refine rv_bipush (q := 1099) E.x dL_law_1097 rv_kb12 rfl ?_
    refine rv_ishl (q := 1100) E.x dL_law_1099 rfl ?_
    refine rv_ior (q := 1101) E.x dL_law_1100 rfl ?_
    refine rv_iload (q := 1103) E.x dL_law_1101 rfl rfl ?_
    refine rv_bipush (q := 1105) E.x dL_law_1103 rv_kb14 rfl ?_
    refine rv_ishl (q := 1106) E.x dL_law_1105 rfl ?_
    refine rv_ior (q := 1107) E.x dL_law_1106 rfl ?_
    refine rv_iload (q := 1109) E.x dL_law_1107 rfl rfl ?_
    refine rv_bipush (q := 1111) E.x dL_law_1109 rv_kb18 rfl ?_
    refine rv_ishl (q := 1112) E.x dL_law_1111 rfl ?_
    refine rv_ior (q := 1113) E.x dL_law_1112 rfl ?_
    refine lk_ast (q := 1114) E 1 (by decide) dL_law_1113 rfl ?_
    refine lk_lt (fun A1 => ?_)
    refine rv_aload (q := 1116) E.x dL_law_1114 rfl rfl ?_
    refine rv_iconst (q := 1117) E.x dL_law_1116 rv_ki0 rfl ?_
    refine rv_dup2 (q := 1118) E.x dL_law_1117 rfl rfl rfl ?_
    refine lk_ald (q := 1119) E 2 (by decide) dL_law_1118 rfl ?_
    refine rv_iconst (q := 1120) E.x dL_law_1119 rv_ki1 rfl ?_
    refine rv_iadd (q := 1121) E.x dL_law_1120 rfl ?_
    refine lk_ast (q := 1122) E 2 (by decide) dL_law_1121 rfl ?_
    refine lk_lt (fun A2 => ?_)
    refine rv_wk [true, true, true, true, true, false, true, true, true, false, false, true, true, true, false, true, false, false, true] ?_
    exact bp_law_1122 E HL k69 y1 y2 hy1 hy2 h69 gh M A2 x6 x7 x8 x11 x12 x13 x15 s0
  · refine rv_wk [true, true, true, true, true, false, true, true, true, false, false, true, true, true, false, true, false, false, true] ?_
    exact bp_law_1122 E HL k69 y1 y2 hy1 hy2 h69 gh M A x6 x7 x8 x11 x12 x13 x15 s0
set_option maxRecDepth 100000 in
theorem bp_law_1043 {p : Program} {l : Launch} {e : Env} {s : State} {m : MethodId} {args : Array Value} {below : List Frame} {meth : Method} {c : Code} {D : va_G} {cI cZ cO : ClassId} {mi de z0 o b L : Nat} {k : Nat → Nat} {xs : Nat → Int32} (E : lk_E D cI cZ cO mi de z0 b L k xs cL_law 19 (some .boolean) p l s m args meth c) (HL : s.heap.size ≤ z0 ∧ args = #[Value.ref b])  (k69 : rC_gh → rv_Mem → rv_Mem → Bool → Int32 → Option (Bool × rC_gh × rv_Mem × rv_Mem)) (y1 y2 : Nat) (hy1 : y1 + 518 ≤ 48223) (hy2 : y2 + 24782 ≤ 2312135) (h69 : ∀ (gh : rC_gh) (M : rv_Mem) (A : rv_Mem) (x5 : Bool) (x6 : Int32), rv_M (lk_G D cI cZ cO de z0 o k) (fun q => z0 ≤ q) p l e room_1 s m args below meth c (y1 + 518) (y2 + 24782) (lk_qL below args s) (k69 gh M A x5 x6) 69 [some (.ref b), some (.ref o), some (.ref (k 0)), some (.ref (k 1)), some (.ref (k 2)), some (.int (rv_i x5)), some (.int x6), none, none, none, none, none, none, none, none, none, none, none, none] [] (gh, M, A)) : ∀ (gh : rC_gh) (M : rv_Mem) (A : rv_Mem) (x6 : Int32) (x7 : Int32) (x8 : Int32) (x10 : Int32) (x11 : Int32) (x12 : Int32) (x13 : Int32) (x15 : Int32) (x16 : Int32) (s0 : Int32), rv_M (lk_G D cI cZ cO de z0 o k) (fun q => z0 ≤ q) p l e room_1 s m args below meth c (y1 + 0) (y2 + 0) (lk_qL below args s) (gp_law_1043 L xs k69 gh M A x6 x7 x8 x10 x11 x12 x13 x15 x16 s0) 1043 [some (.ref b), some (.ref o), some (.ref (k 0)), some (.ref (k 1)), some (.ref (k 2)), none, some (.int x6), some (.int x7), some (.int x8), none, some (.int x10), some (.int x11), some (.int x12), some (.int x13), none, some (.int x15), some (.int x16), none, none] [.int s0] (gh, M, A) := by
  intro gh M A x6 x7 x8 x10 x11 x12 x13 x15 x16 s0
  unfold gp_law_1043
  refine rv_istore (q := 1045) (lv' := [_, _, _, _, _, _, _, _, _, _, _, _, _, _, _, _, _, _, _]) E.x dL_law_1043 (Nat.le_of_ble_eq_true rfl) rfl rfl rfl ?_
  refine rv_aload (q := 1047) E.x dL_law_1045 rfl rfl ?_
  refine rv_iconst (q := 1048) E.x dL_law_1047 rv_ki0 rfl ?_
  refine lk_ald (q := 1049) E 2 (by decide) dL_law_1048 rfl ?_
  refine rv_bipush (q := 1051) E.x dL_law_1049 rv_kb60 rfl ?_
  refine rv_icmp_ge (q := 1054) (tgt := 1073) E.x dL_law_1051 (by decide) rfl ?_ ?_
  · refine rv_aload_n (q := 1055) E.x dL_law_1054 rfl rfl ?_
    refine rv_iload (q := 1057) E.x dL_law_1055 rfl rfl ?_
    refine rv_iload (q := 1059) E.x dL_law_1057 rfl rfl ?_
    refine rv_iload (q := 1061) E.x dL_law_1059 rfl rfl ?_
    refine rv_iload (q := 1063) E.x dL_law_1061 rfl rfl ?_
    refine rv_iload (q := 1065) E.x dL_law_1063 rfl rfl ?_
    refine rv_iload (q := 1067) E.x dL_law_1065 rfl rfl ?_
    refine lk_b3 (fun r2 g4 M3 e1 => ?_)
    refine lk_csW (q := 1070) (v := r2) (σ' := (g4, M3, A)) E (wP_commented E.2.2.1 e1) gPs_246 hP_commented ⟨rfl, rfl⟩ ⟨Nat.le_of_ble_eq_true rfl, Nat.le_of_ble_eq_true rfl⟩ ⟨lk_le2 hy1 (Nat.le_of_ble_eq_true rfl) (Nat.le_of_ble_eq_true rfl), lk_le2 hy2 (Nat.le_of_ble_eq_true rfl) (Nat.le_of_ble_eq_true rfl)⟩ rfl rfl rfl (Nat.le_of_ble_eq_true rfl) dL_law_1067 rfl ?_
    refine rv_wd (y1 + 3) (y2 + 110) (Nat.le_of_eq (Nat.add_assoc _ _ _)) (Nat.le_of_eq (Nat.add_assoc _ _ _)) ?_
    refine rv_goto (q := 1076) E.x dL_law_1070 (by decide) ?_
    refine rv_wk [true, true, true, true, true, false, true, true, true, false, false, true, true, true, false, true, true, true, false] ?_
    exact bp_law_1076 E HL k69 y1 y2 hy1 hy2 h69 g4 M3 A x6 x7 x8 x11 x12 x13 x15 x16 s0 r2
  · refine rv_sipush (q := 1076) E.x dL_law_1073 rv_ksm1263 rfl ?_
    refine rv_wk [true, true, true, true, true, false, true, true, true, false, false, true, true, true, false, true, true, true, false] ?_
    refine rv_wd (y1 + 3) (y2 + 110) (Nat.add_le_add_left (Nat.le_of_ble_eq_true rfl) _) (Nat.add_le_add_left (Nat.le_of_ble_eq_true rfl) _) ?_
    exact bp_law_1076 E HL k69 y1 y2 hy1 hy2 h69 gh M A x6 x7 x8 x11 x12 x13 x15 x16 s0 (-1263)
set_option maxRecDepth 100000 in
theorem bp_law_1018 {p : Program} {l : Launch} {e : Env} {s : State} {m : MethodId} {args : Array Value} {below : List Frame} {meth : Method} {c : Code} {D : va_G} {cI cZ cO : ClassId} {mi de z0 o b L : Nat} {k : Nat → Nat} {xs : Nat → Int32} (E : lk_E D cI cZ cO mi de z0 b L k xs cL_law 19 (some .boolean) p l s m args meth c) (HL : s.heap.size ≤ z0 ∧ args = #[Value.ref b])  (k69 : rC_gh → rv_Mem → rv_Mem → Bool → Int32 → Option (Bool × rC_gh × rv_Mem × rv_Mem)) (y1 y2 : Nat) (hy1 : y1 + 518 ≤ 48223) (hy2 : y2 + 24782 ≤ 2312135) (h69 : ∀ (gh : rC_gh) (M : rv_Mem) (A : rv_Mem) (x5 : Bool) (x6 : Int32), rv_M (lk_G D cI cZ cO de z0 o k) (fun q => z0 ≤ q) p l e room_1 s m args below meth c (y1 + 518) (y2 + 24782) (lk_qL below args s) (k69 gh M A x5 x6) 69 [some (.ref b), some (.ref o), some (.ref (k 0)), some (.ref (k 1)), some (.ref (k 2)), some (.int (rv_i x5)), some (.int x6), none, none, none, none, none, none, none, none, none, none, none, none] [] (gh, M, A)) : ∀ (gh : rC_gh) (M : rv_Mem) (A : rv_Mem) (x6 : Int32) (x7 : Int32) (x8 : Int32) (x10 : Int32) (x11 : Int32) (x12 : Int32) (x13 : Int32) (x15 : Int32) (s0 : Int32), rv_M (lk_G D cI cZ cO de z0 o k) (fun q => z0 ≤ q) p l e room_1 s m args below meth c (y1 + 0) (y2 + 0) (lk_qL below args s) (gp_law_1018 L xs k69 gh M A x6 x7 x8 x10 x11 x12 x13 x15 s0) 1018 [some (.ref b), some (.ref o), some (.ref (k 0)), some (.ref (k 1)), some (.ref (k 2)), none, some (.int x6), some (.int x7), some (.int x8), none, some (.int x10), some (.int x11), some (.int x12), some (.int x13), none, some (.int x15), none, none, none] [.int s0] (gh, M, A) := by
  intro gh M A x6 x7 x8 x10 x11 x12 x13 x15 s0
  unfold gp_law_1018
  refine rv_istore (q := 1020) (lv' := [_, _, _, _, _, _, _, _, _, _, _, _, _, _, _, _, _, _, _]) E.x dL_law_1018 (Nat.le_of_ble_eq_true rfl) rfl rfl rfl ?_
  refine rv_iload (q := 1022) E.x dL_law_1020 rfl rfl ?_
  refine rv_if_ne (q := 1025) (tgt := 1029) E.x dL_law_1022 (by decide) rfl ?_ ?_
  · refine rv_iconst (q := 1026) E.x dL_law_1025 rv_ki1 rfl ?_
    refine rv_goto (q := 1043) E.x dL_law_1026 (by decide) ?_
    refine rv_wk [true, true, true, true, true, false, true, true, true, false, true, true, true, true, false, true, true, false, false] ?_
    exact bp_law_1043 E HL k69 y1 y2 hy1 hy2 h69 gh M A x6 x7 x8 x10 x11 x12 x13 x15 s0 1
  · refine rv_iconst (q := 1030) E.x dL_law_1029 rv_ki1 rfl ?_
    refine rv_iload (q := 1032) E.x dL_law_1030 rfl rfl ?_
    refine rv_sipush (q := 1035) E.x dL_law_1032 rv_ks800 rfl ?_
    refine rv_idiv (q := 1036) E.x dL_law_1035 (by decide) rfl ?_
    refine rv_iload (q := 1038) E.x dL_law_1036 rfl rfl ?_
    refine rv_iload (q := 1040) E.x dL_law_1038 rfl rfl ?_
    refine rv_isub (q := 1041) E.x dL_law_1040 rfl ?_
    refine rv_iremg (q := 1042) E.x dL_law_1041 rfl ?_
    refine rv_iadd (q := 1043) E.x dL_law_1042 rfl ?_
    refine rv_wk [true, true, true, true, true, false, true, true, true, false, true, true, true, true, false, true, true, false, false] ?_
    exact bp_law_1043 E HL k69 y1 y2 hy1 hy2 h69 gh M A x6 x7 x8 x10 x11 x12 x13 x15 s0 (1 + ((x8 / 800) - (x8 / 800) / (x15 - s0) * (x15 - s0)))
set_option maxRecDepth 100000 in
theorem bp_law_1265 {p : Program} {l : Launch} {e : Env} {s : State} {m : MethodId} {args : Array Value} {below : List Frame} {meth : Method} {c : Code} {D : va_G} {cI cZ cO : ClassId} {mi de z0 o b L : Nat} {k : Nat → Nat} {xs : Nat → Int32} (E : lk_E D cI cZ cO mi de z0 b L k xs cL_law 19 (some .boolean) p l s m args meth c) (HL : s.heap.size ≤ z0 ∧ args = #[Value.ref b])  (k69 : rC_gh → rv_Mem → rv_Mem → Bool → Int32 → Option (Bool × rC_gh × rv_Mem × rv_Mem)) (y1 y2 : Nat) (hy1 : y1 + 518 ≤ 48223) (hy2 : y2 + 24782 ≤ 2312135) (h69 : ∀ (gh : rC_gh) (M : rv_Mem) (A : rv_Mem) (x5 : Bool) (x6 : Int32), rv_M (lk_G D cI cZ cO de z0 o k) (fun q => z0 ≤ q) p l e room_1 s m args below meth c (y1 + 518) (y2 + 24782) (lk_qL below args s) (k69 gh M A x5 x6) 69 [some (.ref b), some (.ref o), some (.ref (k 0)), some (.ref (k 1)), some (.ref (k 2)), some (.int (rv_i x5)), some (.int x6), none, none, none, none, none, none, none, none, none, none, none, none] [] (gh, M, A)) : ∀ (gh : rC_gh) (M : rv_Mem) (A : rv_Mem) (x6 : Int32) (x7 : Int32) (x8 : Int32) (x11 : Int32) (x12 : Int32) (x13 : Int32) (s0 : Bool), rv_M (lk_G D cI cZ cO de z0 o k) (fun q => z0 ≤ q) p l e room_1 s m args below meth c (y1 + 6) (y2 + 386) (lk_qL below args s) (gp_law_1265 L xs k69 gh M A x6 x7 x8 x11 x12 x13 s0) 1265 [some (.ref b), some (.ref o), some (.ref (k 0)), some (.ref (k 1)), some (.ref (k 2)), none, some (.int x6), some (.int x7), some (.int x8), none, none, some (.int x11), some (.int x12), some (.int x13), none, none, none, none, none] [.int (rv_i s0)] (gh, M, A) := by
  intro gh M A x6 x7 x8 x11 x12 x13 s0
  unfold gp_law_1265
  refine rv_istore (q := 1267) (lv' := [_, _, _, _, _, _, _, _, _, _, _, _, _, _, _, _, _, _, _]) E.x dL_law_1265 (Nat.le_of_ble_eq_true rfl) rfl rfl rfl ?_
  refine rv_goto (q := 1773) E.x dL_law_1267 (by decide) ?_
  refine rv_wk [true, true, true, true, true, true, true, true, true, false, false, true, true, true, false, false, false, false, false] ?_
  exact bp_law_1773 E HL k69 y1 y2 hy1 hy2 h69 gh M A s0 x6 x7 x8 x11 x12 x13
set_option maxRecDepth 100000 in
theorem bp_law_1260 {p : Program} {l : Launch} {e : Env} {s : State} {m : MethodId} {args : Array Value} {below : List Frame} {meth : Method} {c : Code} {D : va_G} {cI cZ cO : ClassId} {mi de z0 o b L : Nat} {k : Nat → Nat} {xs : Nat → Int32} (E : lk_E D cI cZ cO mi de z0 b L k xs cL_law 19 (some .boolean) p l s m args meth c) (HL : s.heap.size ≤ z0 ∧ args = #[Value.ref b])  (k69 : rC_gh → rv_Mem → rv_Mem → Bool → Int32 → Option (Bool × rC_gh × rv_Mem × rv_Mem)) (y1 y2 : Nat) (hy1 : y1 + 518 ≤ 48223) (hy2 : y2 + 24782 ≤ 2312135) (h69 : ∀ (gh : rC_gh) (M : rv_Mem) (A : rv_Mem) (x5 : Bool) (x6 : Int32), rv_M (lk_G D cI cZ cO de z0 o k) (fun q => z0 ≤ q) p l e room_1 s m args below meth c (y1 + 518) (y2 + 24782) (lk_qL below args s) (k69 gh M A x5 x6) 69 [some (.ref b), some (.ref o), some (.ref (k 0)), some (.ref (k 1)), some (.ref (k 2)), some (.int (rv_i x5)), some (.int x6), none, none, none, none, none, none, none, none, none, none, none, none] [] (gh, M, A)) : ∀ (gh : rC_gh) (M : rv_Mem) (A : rv_Mem) (x6 : Int32) (x7 : Int32) (x8 : Int32) (x11 : Int32) (x12 : Int32) (x13 : Int32), rv_M (lk_G D cI cZ cO de z0 o k) (fun q => z0 ≤ q) p l e room_1 s m args below meth c (y1 + 6) (y2 + 386) (lk_qL below args s) (gp_law_1260 L xs k69 gh M A x6 x7 x8 x11 x12 x13) 1260 [some (.ref b), some (.ref o), some (.ref (k 0)), some (.ref (k 1)), some (.ref (k 2)), none, some (.int x6), some (.int x7), some (.int x8), none, none, some (.int x11), some (.int x12), some (.int x13), none, none, none, none, none] [] (gh, M, A) := by
  intro gh M A x6 x7 x8 x11 x12 x13
  unfold gp_law_1260
  refine rv_iconst (q := 1261) E.x dL_law_1260 rv_ki1 rfl ?_
  refine rv_goto (q := 1265) E.x dL_law_1261 (by decide) ?_
  refine rv_wk [true, true, true, true, true, false, true, true, true, false, false, true, true, true, false, false, false, false, false] ?_
  exact bp_law_1265 E HL k69 y1 y2 hy1 hy2 h69 gh M A x6 x7 x8 x11 x12 x13 true
set_option maxRecDepth 100000 in
theorem bp_law_1264 {p : Program} {l : Launch} {e : Env} {s : State} {m : MethodId} {args : Array Value} {below : List Frame} {meth : Method} {c : Code} {D : va_G} {cI cZ cO : ClassId} {mi de z0 o b L : Nat} {k : Nat → Nat} {xs : Nat → Int32} (E : lk_E D cI cZ cO mi de z0 b L k xs cL_law 19 (some .boolean) p l s m args meth c) (HL : s.heap.size ≤ z0 ∧ args = #[Value.ref b])  (k69 : rC_gh → rv_Mem → rv_Mem → Bool → Int32 → Option (Bool × rC_gh × rv_Mem × rv_Mem)) (y1 y2 : Nat) (hy1 : y1 + 518 ≤ 48223) (hy2 : y2 + 24782 ≤ 2312135) (h69 : ∀ (gh : rC_gh) (M : rv_Mem) (A : rv_Mem) (x5 : Bool) (x6 : Int32), rv_M (lk_G D cI cZ cO de z0 o k) (fun q => z0 ≤ q) p l e room_1 s m args below meth c (y1 + 518) (y2 + 24782) (lk_qL below args s) (k69 gh M A x5 x6) 69 [some (.ref b), some (.ref o), some (.ref (k 0)), some (.ref (k 1)), some (.ref (k 2)), some (.int (rv_i x5)), some (.int x6), none, none, none, none, none, none, none, none, none, none, none, none] [] (gh, M, A)) : ∀ (gh : rC_gh) (M : rv_Mem) (A : rv_Mem) (x6 : Int32) (x7 : Int32) (x8 : Int32) (x11 : Int32) (x12 : Int32) (x13 : Int32), rv_M (lk_G D cI cZ cO de z0 o k) (fun q => z0 ≤ q) p l e room_1 s m args below meth c (y1 + 6) (y2 + 386) (lk_qL below args s) (gp_law_1264 L xs k69 gh M A x6 x7 x8 x11 x12 x13) 1264 [some (.ref b), some (.ref o), some (.ref (k 0)), some (.ref (k 1)), some (.ref (k 2)), none, some (.int x6), some (.int x7), some (.int x8), none, none, some (.int x11), some (.int x12), some (.int x13), none, none, none, none, none] [] (gh, M, A) := by
  intro gh M A x6 x7 x8 x11 x12 x13
  unfold gp_law_1264
  refine rv_iconst (q := 1265) E.x dL_law_1264 rv_ki0 rfl ?_
  refine rv_wk [true, true, true, true, true, false, true, true, true, false, false, true, true, true, false, false, false, false, false] ?_
  exact bp_law_1265 E HL k69 y1 y2 hy1 hy2 h69 gh M A x6 x7 x8 x11 x12 x13 false
set_option maxRecDepth 100000 in
theorem bp_law_1241 {p : Program} {l : Launch} {e : Env} {s : State} {m : MethodId} {args : Array Value} {below : List Frame} {meth : Method} {c : Code} {D : va_G} {cI cZ cO : ClassId} {mi de z0 o b L : Nat} {k : Nat → Nat} {xs : Nat → Int32} (E : lk_E D cI cZ cO mi de z0 b L k xs cL_law 19 (some .boolean) p l s m args meth c) (HL : s.heap.size ≤ z0 ∧ args = #[Value.ref b])  (k69 : rC_gh → rv_Mem → rv_Mem → Bool → Int32 → Option (Bool × rC_gh × rv_Mem × rv_Mem)) (y1 y2 : Nat) (hy1 : y1 + 518 ≤ 48223) (hy2 : y2 + 24782 ≤ 2312135) (h69 : ∀ (gh : rC_gh) (M : rv_Mem) (A : rv_Mem) (x5 : Bool) (x6 : Int32), rv_M (lk_G D cI cZ cO de z0 o k) (fun q => z0 ≤ q) p l e room_1 s m args below meth c (y1 + 518) (y2 + 24782) (lk_qL below args s) (k69 gh M A x5 x6) 69 [some (.ref b), some (.ref o), some (.ref (k 0)), some (.ref (k 1)), some (.ref (k 2)), some (.int (rv_i x5)), some (.int x6), none, none, none, none, none, none, none, none, none, none, none, none] [] (gh, M, A)) : ∀ (gh : rC_gh) (M : rv_Mem) (A : rv_Mem) (x6 : Int32) (x7 : Int32) (x8 : Int32) (x10 : Int32) (x11 : Int32) (x12 : Int32) (x13 : Int32), rv_M (lk_G D cI cZ cO de z0 o k) (fun q => z0 ≤ q) p l e room_1 s m args below meth c (y1 + 3) (y2 + 193) (lk_qL below args s) (gp_law_1241 L xs k69 gh M A x6 x7 x8 x10 x11 x12 x13) 1241 [some (.ref b), some (.ref o), some (.ref (k 0)), some (.ref (k 1)), some (.ref (k 2)), none, some (.int x6), some (.int x7), some (.int x8), none, some (.int x10), some (.int x11), some (.int x12), some (.int x13), none, none, none, none, none] [] (gh, M, A) := by
  intro gh M A x6 x7 x8 x10 x11 x12 x13
  unfold gp_law_1241
  refine rv_aload_n (q := 1242) E.x dL_law_1241 rfl rfl ?_
  refine rv_bipush (q := 1244) E.x dL_law_1242 rv_kb12 rfl ?_
  refine rv_iload (q := 1246) E.x dL_law_1244 rfl rfl ?_
  refine rv_iload (q := 1248) E.x dL_law_1246 rfl rfl ?_
  refine rv_iconst (q := 1249) E.x dL_law_1248 rv_ki0 rfl ?_
  refine rv_iconst (q := 1250) E.x dL_law_1249 rv_ki0 rfl ?_
  refine rv_iconst (q := 1251) E.x dL_law_1250 rv_ki0 rfl ?_
  refine lk_b3 (fun r2 g4 M3 e1 => ?_)
  refine lk_csW (q := 1254) (v := r2) (σ' := (g4, M3, A)) E (wP_act E.2.2.1 e1) gPs_241 hP_act ⟨rfl, rfl⟩ ⟨Nat.le_of_ble_eq_true rfl, Nat.le_of_ble_eq_true rfl⟩ ⟨lk_le2 hy1 (Nat.le_of_ble_eq_true rfl) (Nat.le_of_ble_eq_true rfl), lk_le2 hy2 (Nat.le_of_ble_eq_true rfl) (Nat.le_of_ble_eq_true rfl)⟩ rfl rfl rfl (Nat.le_of_ble_eq_true rfl) dL_law_1251 rfl ?_
  refine rv_wd (y1 + 6) (y2 + 386) (Nat.le_of_eq (Nat.add_assoc _ _ _)) (Nat.le_of_eq (Nat.add_assoc _ _ _)) ?_
  refine rv_sipush (q := 1257) E.x dL_law_1254 rv_ksm1263 rfl ?_
  refine rv_icmp_ne (q := 1260) (tgt := 1264) E.x dL_law_1257 (by decide) rfl ?_ ?_
  · refine rv_wk [true, true, true, true, true, false, true, true, true, false, false, true, true, true, false, false, false, false, false] ?_
    exact bp_law_1260 E HL k69 y1 y2 hy1 hy2 h69 g4 M3 A x6 x7 x8 x11 x12 x13
  · refine rv_wk [true, true, true, true, true, false, true, true, true, false, false, true, true, true, false, false, false, false, false] ?_
    exact bp_law_1264 E HL k69 y1 y2 hy1 hy2 h69 g4 M3 A x6 x7 x8 x11 x12 x13
set_option maxRecDepth 100000 in
theorem bp_law_1380 {p : Program} {l : Launch} {e : Env} {s : State} {m : MethodId} {args : Array Value} {below : List Frame} {meth : Method} {c : Code} {D : va_G} {cI cZ cO : ClassId} {mi de z0 o b L : Nat} {k : Nat → Nat} {xs : Nat → Int32} (E : lk_E D cI cZ cO mi de z0 b L k xs cL_law 19 (some .boolean) p l s m args meth c) (HL : s.heap.size ≤ z0 ∧ args = #[Value.ref b])  (k69 : rC_gh → rv_Mem → rv_Mem → Bool → Int32 → Option (Bool × rC_gh × rv_Mem × rv_Mem)) (y1 y2 : Nat) (hy1 : y1 + 518 ≤ 48223) (hy2 : y2 + 24782 ≤ 2312135) (h69 : ∀ (gh : rC_gh) (M : rv_Mem) (A : rv_Mem) (x5 : Bool) (x6 : Int32), rv_M (lk_G D cI cZ cO de z0 o k) (fun q => z0 ≤ q) p l e room_1 s m args below meth c (y1 + 518) (y2 + 24782) (lk_qL below args s) (k69 gh M A x5 x6) 69 [some (.ref b), some (.ref o), some (.ref (k 0)), some (.ref (k 1)), some (.ref (k 2)), some (.int (rv_i x5)), some (.int x6), none, none, none, none, none, none, none, none, none, none, none, none] [] (gh, M, A)) : ∀ (gh : rC_gh) (M : rv_Mem) (A : rv_Mem) (x6 : Int32) (x7 : Int32) (x8 : Int32) (x11 : Int32) (x12 : Int32) (x13 : Int32) (s0 : Bool), rv_M (lk_G D cI cZ cO de z0 o k) (fun q => z0 ≤ q) p l e room_1 s m args below meth c (y1 + 3) (y2 + 193) (lk_qL below args s) (gp_law_1380 L xs k69 gh M A x6 x7 x8 x11 x12 x13 s0) 1380 [some (.ref b), some (.ref o), some (.ref (k 0)), some (.ref (k 1)), some (.ref (k 2)), none, some (.int x6), some (.int x7), some (.int x8), none, none, some (.int x11), some (.int x12), some (.int x13), none, none, none, none, none] [.int (rv_i s0)] (gh, M, A) := by
  intro gh M A x6 x7 x8 x11 x12 x13 s0
  unfold gp_law_1380
  refine rv_istore (q := 1382) (lv' := [_, _, _, _, _, _, _, _, _, _, _, _, _, _, _, _, _, _, _]) E.x dL_law_1380 (Nat.le_of_ble_eq_true rfl) rfl rfl rfl ?_
  refine rv_goto (q := 1773) E.x dL_law_1382 (by decide) ?_
  refine rv_wk [true, true, true, true, true, true, true, true, true, false, false, true, true, true, false, false, false, false, false] ?_
  refine rv_wd (y1 + 6) (y2 + 386) (Nat.add_le_add_left (Nat.le_of_ble_eq_true rfl) _) (Nat.add_le_add_left (Nat.le_of_ble_eq_true rfl) _) ?_
  exact bp_law_1773 E HL k69 y1 y2 hy1 hy2 h69 gh M A s0 x6 x7 x8 x11 x12 x13
set_option maxRecDepth 100000 in
theorem bp_law_1491 {p : Program} {l : Launch} {e : Env} {s : State} {m : MethodId} {args : Array Value} {below : List Frame} {meth : Method} {c : Code} {D : va_G} {cI cZ cO : ClassId} {mi de z0 o b L : Nat} {k : Nat → Nat} {xs : Nat → Int32} (E : lk_E D cI cZ cO mi de z0 b L k xs cL_law 19 (some .boolean) p l s m args meth c) (HL : s.heap.size ≤ z0 ∧ args = #[Value.ref b])  (k69 : rC_gh → rv_Mem → rv_Mem → Bool → Int32 → Option (Bool × rC_gh × rv_Mem × rv_Mem)) (y1 y2 : Nat) (hy1 : y1 + 518 ≤ 48223) (hy2 : y2 + 24782 ≤ 2312135) (h69 : ∀ (gh : rC_gh) (M : rv_Mem) (A : rv_Mem) (x5 : Bool) (x6 : Int32), rv_M (lk_G D cI cZ cO de z0 o k) (fun q => z0 ≤ q) p l e room_1 s m args below meth c (y1 + 518) (y2 + 24782) (lk_qL below args s) (k69 gh M A x5 x6) 69 [some (.ref b), some (.ref o), some (.ref (k 0)), some (.ref (k 1)), some (.ref (k 2)), some (.int (rv_i x5)), some (.int x6), none, none, none, none, none, none, none, none, none, none, none, none] [] (gh, M, A)) : ∀ (gh : rC_gh) (M : rv_Mem) (A : rv_Mem) (x6 : Int32) (x7 : Int32) (x8 : Int32) (x11 : Int32) (x12 : Int32) (x13 : Int32) (s0 : Bool), rv_M (lk_G D cI cZ cO de z0 o k) (fun q => z0 ≤ q) p l e room_1 s m args below meth c (y1 + 3) (y2 + 193) (lk_qL below args s) (gp_law_1491 L xs k69 gh M A x6 x7 x8 x11 x12 x13 s0) 1491 [some (.ref b), some (.ref o), some (.ref (k 0)), some (.ref (k 1)), some (.ref (k 2)), none, some (.int x6), some (.int x7), some (.int x8), none, none, some (.int x11), some (.int x12), some (.int x13), none, none, none, none, none] [.int (rv_i s0)] (gh, M, A) := by
  intro gh M A x6 x7 x8 x11 x12 x13 s0
  unfold gp_law_1491
  refine rv_istore (q := 1493) (lv' := [_, _, _, _, _, _, _, _, _, _, _, _, _, _, _, _, _, _, _]) E.x dL_law_1491 (Nat.le_of_ble_eq_true rfl) rfl rfl rfl ?_
  refine rv_goto (q := 1773) E.x dL_law_1493 (by decide) ?_
  refine rv_wk [true, true, true, true, true, true, true, true, true, false, false, true, true, true, false, false, false, false, false] ?_
  refine rv_wd (y1 + 6) (y2 + 386) (Nat.add_le_add_left (Nat.le_of_ble_eq_true rfl) _) (Nat.add_le_add_left (Nat.le_of_ble_eq_true rfl) _) ?_
  exact bp_law_1773 E HL k69 y1 y2 hy1 hy2 h69 gh M A s0 x6 x7 x8 x11 x12 x13
set_option maxRecDepth 100000 in
theorem bp_law_1483 {p : Program} {l : Launch} {e : Env} {s : State} {m : MethodId} {args : Array Value} {below : List Frame} {meth : Method} {c : Code} {D : va_G} {cI cZ cO : ClassId} {mi de z0 o b L : Nat} {k : Nat → Nat} {xs : Nat → Int32} (E : lk_E D cI cZ cO mi de z0 b L k xs cL_law 19 (some .boolean) p l s m args meth c) (HL : s.heap.size ≤ z0 ∧ args = #[Value.ref b])  (k69 : rC_gh → rv_Mem → rv_Mem → Bool → Int32 → Option (Bool × rC_gh × rv_Mem × rv_Mem)) (y1 y2 : Nat) (hy1 : y1 + 518 ≤ 48223) (hy2 : y2 + 24782 ≤ 2312135) (h69 : ∀ (gh : rC_gh) (M : rv_Mem) (A : rv_Mem) (x5 : Bool) (x6 : Int32), rv_M (lk_G D cI cZ cO de z0 o k) (fun q => z0 ≤ q) p l e room_1 s m args below meth c (y1 + 518) (y2 + 24782) (lk_qL below args s) (k69 gh M A x5 x6) 69 [some (.ref b), some (.ref o), some (.ref (k 0)), some (.ref (k 1)), some (.ref (k 2)), some (.int (rv_i x5)), some (.int x6), none, none, none, none, none, none, none, none, none, none, none, none] [] (gh, M, A)) : ∀ (gh : rC_gh) (M : rv_Mem) (A : rv_Mem) (x6 : Int32) (x7 : Int32) (x8 : Int32) (x11 : Int32) (x12 : Int32) (x13 : Int32) (s0 : Int32) (s1 : Int32), rv_M (lk_G D cI cZ cO de z0 o k) (fun q => z0 ≤ q) p l e room_1 s m args below meth c (y1 + 3) (y2 + 193) (lk_qL below args s) (gp_law_1483 L xs k69 gh M A x6 x7 x8 x11 x12 x13 s0 s1) 1483 [some (.ref b), some (.ref o), some (.ref (k 0)), some (.ref (k 1)), some (.ref (k 2)), none, some (.int x6), some (.int x7), some (.int x8), none, none, some (.int x11), some (.int x12), some (.int x13), none, none, none, none, none] [.int s1, .int s0] (gh, M, A) := by
  intro gh M A x6 x7 x8 x11 x12 x13 s0 s1
  unfold gp_law_1483
  refine rv_icmp_ne (q := 1486) (tgt := 1490) E.x dL_law_1483 (by decide) rfl ?_ ?_
  · refine rv_iconst (q := 1487) E.x dL_law_1486 rv_ki1 rfl ?_
    refine rv_goto (q := 1491) E.x dL_law_1487 (by decide) ?_
    refine rv_wk [true, true, true, true, true, false, true, true, true, false, false, true, true, true, false, false, false, false, false] ?_
    exact bp_law_1491 E HL k69 y1 y2 hy1 hy2 h69 gh M A x6 x7 x8 x11 x12 x13 true
  · refine rv_iconst (q := 1491) E.x dL_law_1490 rv_ki0 rfl ?_
    refine rv_wk [true, true, true, true, true, false, true, true, true, false, false, true, true, true, false, false, false, false, false] ?_
    exact bp_law_1491 E HL k69 y1 y2 hy1 hy2 h69 gh M A x6 x7 x8 x11 x12 x13 false
set_option maxRecDepth 100000 in
theorem bp_law_1451 {p : Program} {l : Launch} {e : Env} {s : State} {m : MethodId} {args : Array Value} {below : List Frame} {meth : Method} {c : Code} {D : va_G} {cI cZ cO : ClassId} {mi de z0 o b L : Nat} {k : Nat → Nat} {xs : Nat → Int32} (E : lk_E D cI cZ cO mi de z0 b L k xs cL_law 19 (some .boolean) p l s m args meth c) (HL : s.heap.size ≤ z0 ∧ args = #[Value.ref b])  (k69 : rC_gh → rv_Mem → rv_Mem → Bool → Int32 → Option (Bool × rC_gh × rv_Mem × rv_Mem)) (y1 y2 : Nat) (hy1 : y1 + 518 ≤ 48223) (hy2 : y2 + 24782 ≤ 2312135) (h69 : ∀ (gh : rC_gh) (M : rv_Mem) (A : rv_Mem) (x5 : Bool) (x6 : Int32), rv_M (lk_G D cI cZ cO de z0 o k) (fun q => z0 ≤ q) p l e room_1 s m args below meth c (y1 + 518) (y2 + 24782) (lk_qL below args s) (k69 gh M A x5 x6) 69 [some (.ref b), some (.ref o), some (.ref (k 0)), some (.ref (k 1)), some (.ref (k 2)), some (.int (rv_i x5)), some (.int x6), none, none, none, none, none, none, none, none, none, none, none, none] [] (gh, M, A)) : ∀ (gh : rC_gh) (M : rv_Mem) (A : rv_Mem) (x6 : Int32) (x7 : Int32) (x8 : Int32) (x11 : Int32) (x12 : Int32) (x13 : Int32) (x15 : Bool) (x16 : Int32) (x17 : Int32) (s1 : Int32) (s2 : Int32), rv_M (lk_G D cI cZ cO de z0 o k) (fun q => z0 ≤ q) p l e room_1 s m args below meth c (y1 + 0) (y2 + 0) (lk_qL below args s) (gp_law_1451 L xs k69 gh M A x6 x7 x8 x11 x12 x13 x15 x16 x17 s1 s2) 1451 [some (.ref b), some (.ref o), some (.ref (k 0)), some (.ref (k 1)), some (.ref (k 2)), none, some (.int x6), some (.int x7), some (.int x8), none, none, some (.int x11), some (.int x12), some (.int x13), none, some (.int (rv_i x15)), some (.int x16), some (.int x17), none] [.int s2, .int s1, .ref (k 0)] (gh, M, A) := by
  intro gh M A x6 x7 x8 x11 x12 x13 x15 x16 x17 s1 s2
  unfold gp_law_1451
  refine lk_ast (q := 1452) E 0 (by decide) dL_law_1451 rfl ?_
  refine lk_lt (fun A1 => ?_)
  refine rv_aload_n (q := 1453) E.x dL_law_1452 rfl rfl ?_
  refine rv_bipush (q := 1455) E.x dL_law_1453 rv_kb9 rfl ?_
  refine rv_iload (q := 1457) E.x dL_law_1455 rfl rfl ?_
  refine rv_iload (q := 1459) E.x dL_law_1457 rfl rfl ?_
  refine rv_iconst (q := 1460) E.x dL_law_1459 rv_ki2 rfl ?_
  refine rv_irem (q := 1461) E.x dL_law_1460 (by decide) rfl ?_
  refine rv_iload (q := 1463) E.x dL_law_1461 rfl rfl ?_
  refine rv_iconst (q := 1464) E.x dL_law_1463 rv_ki2 rfl ?_
  refine rv_idiv (q := 1465) E.x dL_law_1464 (by decide) rfl ?_
  refine rv_iconst (q := 1466) E.x dL_law_1465 rv_ki0 rfl ?_
  refine rv_iconst (q := 1467) E.x dL_law_1466 rv_ki0 rfl ?_
  refine lk_b3 (fun r3 g5 M4 e2 => ?_)
  refine lk_csW (q := 1470) (v := r3) (σ' := (g5, M4, A1)) E (wP_act E.2.2.1 e2) gPs_241 hP_act ⟨rfl, rfl⟩ ⟨Nat.le_of_ble_eq_true rfl, Nat.le_of_ble_eq_true rfl⟩ ⟨lk_le2 hy1 (Nat.le_of_ble_eq_true rfl) (Nat.le_of_ble_eq_true rfl), lk_le2 hy2 (Nat.le_of_ble_eq_true rfl) (Nat.le_of_ble_eq_true rfl)⟩ rfl rfl rfl (Nat.le_of_ble_eq_true rfl) dL_law_1467 rfl ?_
  refine rv_wd (y1 + 3) (y2 + 193) (Nat.le_of_eq (Nat.add_assoc _ _ _)) (Nat.le_of_eq (Nat.add_assoc _ _ _)) ?_
  refine rv_iload (q := 1472) E.x dL_law_1470 rfl rfl ?_
  refine rv_ifz_eq (q := 1475) (tgt := 1480) E.x dL_law_1472 (by decide) rfl ?_ ?_
  · refine rv_iload (q := 1477) E.x dL_law_1475 rfl rfl ?_
    refine rv_goto (q := 1483) E.x dL_law_1477 (by decide) ?_
    refine rv_wk [true, true, true, true, true, false, true, true, true, false, false, true, true, true, false, false, false, false, false] ?_
    exact bp_law_1483 E HL k69 y1 y2 hy1 hy2 h69 g5 M4 A1 x6 x7 x8 x11 x12 x13 r3 x16
  · refine rv_sipush (q := 1483) E.x dL_law_1480 rv_ksm1263 rfl ?_
    refine rv_wk [true, true, true, true, true, false, true, true, true, false, false, true, true, true, false, false, false, false, false] ?_
    exact bp_law_1483 E HL k69 y1 y2 hy1 hy2 h69 g5 M4 A1 x6 x7 x8 x11 x12 x13 r3 (-1263)
set_option maxRecDepth 100000 in
theorem bp_law_1406 {p : Program} {l : Launch} {e : Env} {s : State} {m : MethodId} {args : Array Value} {below : List Frame} {meth : Method} {c : Code} {D : va_G} {cI cZ cO : ClassId} {mi de z0 o b L : Nat} {k : Nat → Nat} {xs : Nat → Int32} (E : lk_E D cI cZ cO mi de z0 b L k xs cL_law 19 (some .boolean) p l s m args meth c) (HL : s.heap.size ≤ z0 ∧ args = #[Value.ref b])  (k69 : rC_gh → rv_Mem → rv_Mem → Bool → Int32 → Option (Bool × rC_gh × rv_Mem × rv_Mem)) (y1 y2 : Nat) (hy1 : y1 + 518 ≤ 48223) (hy2 : y2 + 24782 ≤ 2312135) (h69 : ∀ (gh : rC_gh) (M : rv_Mem) (A : rv_Mem) (x5 : Bool) (x6 : Int32), rv_M (lk_G D cI cZ cO de z0 o k) (fun q => z0 ≤ q) p l e room_1 s m args below meth c (y1 + 518) (y2 + 24782) (lk_qL below args s) (k69 gh M A x5 x6) 69 [some (.ref b), some (.ref o), some (.ref (k 0)), some (.ref (k 1)), some (.ref (k 2)), some (.int (rv_i x5)), some (.int x6), none, none, none, none, none, none, none, none, none, none, none, none] [] (gh, M, A)) : ∀ (gh : rC_gh) (M : rv_Mem) (A : rv_Mem) (x6 : Int32) (x7 : Int32) (x8 : Int32) (x11 : Int32) (x12 : Int32) (x13 : Int32) (s0 : Bool), rv_M (lk_G D cI cZ cO de z0 o k) (fun q => z0 ≤ q) p l e room_1 s m args below meth c (y1 + 0) (y2 + 0) (lk_qL below args s) (gp_law_1406 L xs k69 gh M A x6 x7 x8 x11 x12 x13 s0) 1406 [some (.ref b), some (.ref o), some (.ref (k 0)), some (.ref (k 1)), some (.ref (k 2)), none, some (.int x6), some (.int x7), some (.int x8), none, none, some (.int x11), some (.int x12), some (.int x13), none, none, none, none, none] [.int (rv_i s0)] (gh, M, A) := by
  intro gh M A x6 x7 x8 x11 x12 x13 s0
  unfold gp_law_1406
  refine rv_istore (q := 1408) (lv' := [_, _, _, _, _, _, _, _, _, _, _, _, _, _, _, _, _, _, _]) E.x dL_law_1406 (Nat.le_of_ble_eq_true rfl) rfl rfl rfl ?_
  refine rv_aload_n (q := 1409) E.x dL_law_1408 rfl rfl ?_
  refine rv_iconst (q := 1410) E.x dL_law_1409 rv_ki4 rfl ?_
  refine rv_iload (q := 1412) E.x dL_law_1410 rfl rfl ?_
  refine rv_imul (q := 1413) E.x dL_law_1412 rfl ?_
  refine rv_iconst (q := 1414) E.x dL_law_1413 rv_ki1 rfl ?_
  refine rv_iadd (q := 1415) E.x dL_law_1414 rfl ?_
  refine lk_ald (q := 1416) E 0 (by decide) dL_law_1415 rfl ?_
  refine rv_istore (q := 1418) (lv' := [_, _, _, _, _, _, _, _, _, _, _, _, _, _, _, _, _, _, _]) E.x dL_law_1416 (Nat.le_of_ble_eq_true rfl) rfl rfl rfl ?_
  refine rv_iload (q := 1420) E.x dL_law_1418 rfl rfl ?_
  refine rv_bipush (q := 1422) E.x dL_law_1420 rv_kb40 rfl ?_
  refine rv_idiv (q := 1423) E.x dL_law_1422 (by decide) rfl ?_
  refine rv_bipush (q := 1425) E.x dL_law_1423 rv_kb8 rfl ?_
  refine rv_irem (q := 1426) E.x dL_law_1425 (by decide) rfl ?_
  refine rv_iconst (q := 1427) E.x dL_law_1426 rv_ki5 rfl ?_
  refine rv_irem (q := 1428) E.x dL_law_1427 (by decide) rfl ?_
  refine rv_iconst (q := 1429) E.x dL_law_1428 rv_ki4 rfl ?_
  refine rv_irem (q := 1430) E.x dL_law_1429 (by decide) rfl ?_
  refine rv_istore (q := 1432) (lv' := [_, _, _, _, _, _, _, _, _, _, _, _, _, _, _, _, _, _, _]) E.x dL_law_1430 (Nat.le_of_ble_eq_true rfl) rfl rfl rfl ?_
  refine rv_aload_n (q := 1433) E.x dL_law_1432 rfl rfl ?_
  refine rv_iconst (q := 1434) E.x dL_law_1433 rv_ki4 rfl ?_
  refine rv_iload (q := 1436) E.x dL_law_1434 rfl rfl ?_
  refine rv_imul (q := 1437) E.x dL_law_1436 rfl ?_
  refine rv_iconst (q := 1438) E.x dL_law_1437 rv_ki1 rfl ?_
  refine rv_iadd (q := 1439) E.x dL_law_1438 rfl ?_
  refine rv_iload (q := 1441) E.x dL_law_1439 rfl rfl ?_
  refine rv_ifz_eq (q := 1444) (tgt := 1449) E.x dL_law_1441 (by decide) rfl ?_ ?_
  · refine rv_iload (q := 1446) E.x dL_law_1444 rfl rfl ?_
    refine rv_goto (q := 1451) E.x dL_law_1446 (by decide) ?_
    refine rv_wk [true, true, true, true, true, false, true, true, true, false, false, true, true, true, false, true, true, true, false] ?_
    exact bp_law_1451 E HL k69 y1 y2 hy1 hy2 h69 gh M A x6 x7 x8 x11 x12 x13 s0 (A 0 (((4 * x11) + 1)).toNatClampNeg) ((((x8 / 40) - (x8 / 40) / 8 * 8) - ((x8 / 40) - (x8 / 40) / 8 * 8) / 5 * 5) - (((x8 / 40) - (x8 / 40) / 8 * 8) - ((x8 / 40) - (x8 / 40) / 8 * 8) / 5 * 5) / 4 * 4) ((4 * x11) + 1) ((((x8 / 40) - (x8 / 40) / 8 * 8) - ((x8 / 40) - (x8 / 40) / 8 * 8) / 5 * 5) - (((x8 / 40) - (x8 / 40) / 8 * 8) - ((x8 / 40) - (x8 / 40) / 8 * 8) / 5 * 5) / 4 * 4)
  · refine rv_iload (q := 1451) E.x dL_law_1449 rfl rfl ?_
    refine rv_wk [true, true, true, true, true, false, true, true, true, false, false, true, true, true, false, true, true, true, false] ?_
    exact bp_law_1451 E HL k69 y1 y2 hy1 hy2 h69 gh M A x6 x7 x8 x11 x12 x13 s0 (A 0 (((4 * x11) + 1)).toNatClampNeg) ((((x8 / 40) - (x8 / 40) / 8 * 8) - ((x8 / 40) - (x8 / 40) / 8 * 8) / 5 * 5) - (((x8 / 40) - (x8 / 40) / 8 * 8) - ((x8 / 40) - (x8 / 40) / 8 * 8) / 5 * 5) / 4 * 4) ((4 * x11) + 1) (A 0 (((4 * x11) + 1)).toNatClampNeg)
set_option maxRecDepth 100000 in
theorem bp_law_1560 {p : Program} {l : Launch} {e : Env} {s : State} {m : MethodId} {args : Array Value} {below : List Frame} {meth : Method} {c : Code} {D : va_G} {cI cZ cO : ClassId} {mi de z0 o b L : Nat} {k : Nat → Nat} {xs : Nat → Int32} (E : lk_E D cI cZ cO mi de z0 b L k xs cL_law 19 (some .boolean) p l s m args meth c) (HL : s.heap.size ≤ z0 ∧ args = #[Value.ref b])  (k69 : rC_gh → rv_Mem → rv_Mem → Bool → Int32 → Option (Bool × rC_gh × rv_Mem × rv_Mem)) (y1 y2 : Nat) (hy1 : y1 + 518 ≤ 48223) (hy2 : y2 + 24782 ≤ 2312135) (h69 : ∀ (gh : rC_gh) (M : rv_Mem) (A : rv_Mem) (x5 : Bool) (x6 : Int32), rv_M (lk_G D cI cZ cO de z0 o k) (fun q => z0 ≤ q) p l e room_1 s m args below meth c (y1 + 518) (y2 + 24782) (lk_qL below args s) (k69 gh M A x5 x6) 69 [some (.ref b), some (.ref o), some (.ref (k 0)), some (.ref (k 1)), some (.ref (k 2)), some (.int (rv_i x5)), some (.int x6), none, none, none, none, none, none, none, none, none, none, none, none] [] (gh, M, A)) : ∀ (gh : rC_gh) (M : rv_Mem) (A : rv_Mem) (x6 : Int32) (x7 : Int32) (x8 : Int32) (x11 : Int32) (x12 : Int32) (x13 : Int32) (s0 : Bool), rv_M (lk_G D cI cZ cO de z0 o k) (fun q => z0 ≤ q) p l e room_1 s m args below meth c (y1 + 3) (y2 + 193) (lk_qL below args s) (gp_law_1560 L xs k69 gh M A x6 x7 x8 x11 x12 x13 s0) 1560 [some (.ref b), some (.ref o), some (.ref (k 0)), some (.ref (k 1)), some (.ref (k 2)), none, some (.int x6), some (.int x7), some (.int x8), none, none, some (.int x11), some (.int x12), some (.int x13), none, none, none, none, none] [.int (rv_i s0)] (gh, M, A) := by
  intro gh M A x6 x7 x8 x11 x12 x13 s0
  unfold gp_law_1560
  refine rv_istore (q := 1562) (lv' := [_, _, _, _, _, _, _, _, _, _, _, _, _, _, _, _, _, _, _]) E.x dL_law_1560 (Nat.le_of_ble_eq_true rfl) rfl rfl rfl ?_
  refine rv_goto (q := 1773) E.x dL_law_1562 (by decide) ?_
  refine rv_wk [true, true, true, true, true, true, true, true, true, false, false, true, true, true, false, false, false, false, false] ?_
  refine rv_wd (y1 + 6) (y2 + 386) (Nat.add_le_add_left (Nat.le_of_ble_eq_true rfl) _) (Nat.add_le_add_left (Nat.le_of_ble_eq_true rfl) _) ?_
  exact bp_law_1773 E HL k69 y1 y2 hy1 hy2 h69 gh M A s0 x6 x7 x8 x11 x12 x13
set_option maxRecDepth 100000 in
theorem bp_law_1679 {p : Program} {l : Launch} {e : Env} {s : State} {m : MethodId} {args : Array Value} {below : List Frame} {meth : Method} {c : Code} {D : va_G} {cI cZ cO : ClassId} {mi de z0 o b L : Nat} {k : Nat → Nat} {xs : Nat → Int32} (E : lk_E D cI cZ cO mi de z0 b L k xs cL_law 19 (some .boolean) p l s m args meth c) (HL : s.heap.size ≤ z0 ∧ args = #[Value.ref b])  (k69 : rC_gh → rv_Mem → rv_Mem → Bool → Int32 → Option (Bool × rC_gh × rv_Mem × rv_Mem)) (y1 y2 : Nat) (hy1 : y1 + 518 ≤ 48223) (hy2 : y2 + 24782 ≤ 2312135) (h69 : ∀ (gh : rC_gh) (M : rv_Mem) (A : rv_Mem) (x5 : Bool) (x6 : Int32), rv_M (lk_G D cI cZ cO de z0 o k) (fun q => z0 ≤ q) p l e room_1 s m args below meth c (y1 + 518) (y2 + 24782) (lk_qL below args s) (k69 gh M A x5 x6) 69 [some (.ref b), some (.ref o), some (.ref (k 0)), some (.ref (k 1)), some (.ref (k 2)), some (.int (rv_i x5)), some (.int x6), none, none, none, none, none, none, none, none, none, none, none, none] [] (gh, M, A)) : ∀ (gh : rC_gh) (M : rv_Mem) (A : rv_Mem) (x6 : Int32) (x7 : Int32) (x8 : Int32) (x11 : Int32) (x12 : Int32) (x13 : Int32) (s0 : Bool), rv_M (lk_G D cI cZ cO de z0 o k) (fun q => z0 ≤ q) p l e room_1 s m args below meth c (y1 + 3) (y2 + 193) (lk_qL below args s) (gp_law_1679 L xs k69 gh M A x6 x7 x8 x11 x12 x13 s0) 1679 [some (.ref b), some (.ref o), some (.ref (k 0)), some (.ref (k 1)), some (.ref (k 2)), none, some (.int x6), some (.int x7), some (.int x8), none, none, some (.int x11), some (.int x12), some (.int x13), none, none, none, none, none] [.int (rv_i s0)] (gh, M, A) := by
  intro gh M A x6 x7 x8 x11 x12 x13 s0
  unfold gp_law_1679
  refine rv_istore (q := 1681) (lv' := [_, _, _, _, _, _, _, _, _, _, _, _, _, _, _, _, _, _, _]) E.x dL_law_1679 (Nat.le_of_ble_eq_true rfl) rfl rfl rfl ?_
  refine rv_goto (q := 1773) E.x dL_law_1681 (by decide) ?_
  refine rv_wk [true, true, true, true, true, true, true, true, true, false, false, true, true, true, false, false, false, false, false] ?_
  refine rv_wd (y1 + 6) (y2 + 386) (Nat.add_le_add_left (Nat.le_of_ble_eq_true rfl) _) (Nat.add_le_add_left (Nat.le_of_ble_eq_true rfl) _) ?_
  exact bp_law_1773 E HL k69 y1 y2 hy1 hy2 h69 gh M A s0 x6 x7 x8 x11 x12 x13
set_option maxRecDepth 100000 in
theorem bp_law_1678 {p : Program} {l : Launch} {e : Env} {s : State} {m : MethodId} {args : Array Value} {below : List Frame} {meth : Method} {c : Code} {D : va_G} {cI cZ cO : ClassId} {mi de z0 o b L : Nat} {k : Nat → Nat} {xs : Nat → Int32} (E : lk_E D cI cZ cO mi de z0 b L k xs cL_law 19 (some .boolean) p l s m args meth c) (HL : s.heap.size ≤ z0 ∧ args = #[Value.ref b])  (k69 : rC_gh → rv_Mem → rv_Mem → Bool → Int32 → Option (Bool × rC_gh × rv_Mem × rv_Mem)) (y1 y2 : Nat) (hy1 : y1 + 518 ≤ 48223) (hy2 : y2 + 24782 ≤ 2312135) (h69 : ∀ (gh : rC_gh) (M : rv_Mem) (A : rv_Mem) (x5 : Bool) (x6 : Int32), rv_M (lk_G D cI cZ cO de z0 o k) (fun q => z0 ≤ q) p l e room_1 s m args below meth c (y1 + 518) (y2 + 24782) (lk_qL below args s) (k69 gh M A x5 x6) 69 [some (.ref b), some (.ref o), some (.ref (k 0)), some (.ref (k 1)), some (.ref (k 2)), some (.int (rv_i x5)), some (.int x6), none, none, none, none, none, none, none, none, none, none, none, none] [] (gh, M, A)) : ∀ (gh : rC_gh) (M : rv_Mem) (A : rv_Mem) (x6 : Int32) (x7 : Int32) (x8 : Int32) (x11 : Int32) (x12 : Int32) (x13 : Int32), rv_M (lk_G D cI cZ cO de z0 o k) (fun q => z0 ≤ q) p l e room_1 s m args below meth c (y1 + 3) (y2 + 193) (lk_qL below args s) (gp_law_1678 L xs k69 gh M A x6 x7 x8 x11 x12 x13) 1678 [some (.ref b), some (.ref o), some (.ref (k 0)), some (.ref (k 1)), some (.ref (k 2)), none, some (.int x6), some (.int x7), some (.int x8), none, none, some (.int x11), some (.int x12), some (.int x13), none, none, none, none, none] [] (gh, M, A) := by
  intro gh M A x6 x7 x8 x11 x12 x13
  unfold gp_law_1678
  refine rv_iconst (q := 1679) E.x dL_law_1678 rv_ki0 rfl ?_
  refine rv_wk [true, true, true, true, true, false, true, true, true, false, false, true, true, true, false, false, false, false, false] ?_
  exact bp_law_1679 E HL k69 y1 y2 hy1 hy2 h69 gh M A x6 x7 x8 x11 x12 x13 false
set_option maxRecDepth 100000 in
theorem bp_law_1662 {p : Program} {l : Launch} {e : Env} {s : State} {m : MethodId} {args : Array Value} {below : List Frame} {meth : Method} {c : Code} {D : va_G} {cI cZ cO : ClassId} {mi de z0 o b L : Nat} {k : Nat → Nat} {xs : Nat → Int32} (E : lk_E D cI cZ cO mi de z0 b L k xs cL_law 19 (some .boolean) p l s m args meth c) (HL : s.heap.size ≤ z0 ∧ args = #[Value.ref b])  (k69 : rC_gh → rv_Mem → rv_Mem → Bool → Int32 → Option (Bool × rC_gh × rv_Mem × rv_Mem)) (y1 y2 : Nat) (hy1 : y1 + 518 ≤ 48223) (hy2 : y2 + 24782 ≤ 2312135) (h69 : ∀ (gh : rC_gh) (M : rv_Mem) (A : rv_Mem) (x5 : Bool) (x6 : Int32), rv_M (lk_G D cI cZ cO de z0 o k) (fun q => z0 ≤ q) p l e room_1 s m args below meth c (y1 + 518) (y2 + 24782) (lk_qL below args s) (k69 gh M A x5 x6) 69 [some (.ref b), some (.ref o), some (.ref (k 0)), some (.ref (k 1)), some (.ref (k 2)), some (.int (rv_i x5)), some (.int x6), none, none, none, none, none, none, none, none, none, none, none, none] [] (gh, M, A)) : ∀ (gh : rC_gh) (M : rv_Mem) (A : rv_Mem) (x6 : Int32) (x7 : Int32) (x8 : Int32) (x11 : Int32) (x12 : Int32) (x13 : Int32) (s0 : Int32) (s1 : Int32), rv_M (lk_G D cI cZ cO de z0 o k) (fun q => z0 ≤ q) p l e room_1 s m args below meth c (y1 + 3) (y2 + 193) (lk_qL below args s) (gp_law_1662 L xs k69 gh M A x6 x7 x8 x11 x12 x13 s0 s1) 1662 [some (.ref b), some (.ref o), some (.ref (k 0)), some (.ref (k 1)), some (.ref (k 2)), none, some (.int x6), some (.int x7), some (.int x8), none, none, some (.int x11), some (.int x12), some (.int x13), none, none, none, none, none] [.int s1, .int s0] (gh, M, A) := by
  intro gh M A x6 x7 x8 x11 x12 x13 s0 s1
  unfold gp_law_1662
  refine rv_icmp_ne (q := 1665) (tgt := 1678) E.x dL_law_1662 (by decide) rfl ?_ ?_
  · refine rv_aload_n (q := 1666) E.x dL_law_1665 rfl rfl ?_
    refine rv_iload (q := 1668) E.x dL_law_1666 rfl rfl ?_
    refine lk_x1r (fun r2 e1 => ?_) (fun w3 e4 => rv_stuck)
    refine lk_ci (q := 1671) (v := r2) (M1 := M) E (fun u hI _ => c11_whoseTurn E.2.2.1.1 hI e1) gP_155 hX11_whoseTurn ⟨rfl, rfl⟩ ⟨Nat.le_of_ble_eq_true rfl, Nat.le_of_ble_eq_true rfl⟩ ⟨lk_le1 hy1 (Nat.le_of_ble_eq_true rfl) (Nat.le_of_ble_eq_true rfl), lk_le1 hy2 (Nat.le_of_ble_eq_true rfl) (Nat.le_of_ble_eq_true rfl)⟩ rfl rfl rfl (Nat.le_of_ble_eq_true rfl) dL_law_1668 rfl ?_
    refine rv_if_ne (q := 1674) (tgt := 1678) E.x dL_law_1671 (by decide) rfl ?_ ?_
    · refine rv_iconst (q := 1675) E.x dL_law_1674 rv_ki1 rfl ?_
      refine rv_goto (q := 1679) E.x dL_law_1675 (by decide) ?_
      refine rv_wk [true, true, true, true, true, false, true, true, true, false, false, true, true, true, false, false, false, false, false] ?_
      exact bp_law_1679 E HL k69 y1 y2 hy1 hy2 h69 gh M A x6 x7 x8 x11 x12 x13 true
    · refine rv_wk [true, true, true, true, true, false, true, true, true, false, false, true, true, true, false, false, false, false, false] ?_
      exact bp_law_1678 E HL k69 y1 y2 hy1 hy2 h69 gh M A x6 x7 x8 x11 x12 x13
  · refine rv_wk [true, true, true, true, true, false, true, true, true, false, false, true, true, true, false, false, false, false, false] ?_
    exact bp_law_1678 E HL k69 y1 y2 hy1 hy2 h69 gh M A x6 x7 x8 x11 x12 x13
set_option maxRecDepth 100000 in
theorem bp_law_1615 {p : Program} {l : Launch} {e : Env} {s : State} {m : MethodId} {args : Array Value} {below : List Frame} {meth : Method} {c : Code} {D : va_G} {cI cZ cO : ClassId} {mi de z0 o b L : Nat} {k : Nat → Nat} {xs : Nat → Int32} (E : lk_E D cI cZ cO mi de z0 b L k xs cL_law 19 (some .boolean) p l s m args meth c) (HL : s.heap.size ≤ z0 ∧ args = #[Value.ref b])  (k69 : rC_gh → rv_Mem → rv_Mem → Bool → Int32 → Option (Bool × rC_gh × rv_Mem × rv_Mem)) (y1 y2 : Nat) (hy1 : y1 + 518 ≤ 48223) (hy2 : y2 + 24782 ≤ 2312135) (h69 : ∀ (gh : rC_gh) (M : rv_Mem) (A : rv_Mem) (x5 : Bool) (x6 : Int32), rv_M (lk_G D cI cZ cO de z0 o k) (fun q => z0 ≤ q) p l e room_1 s m args below meth c (y1 + 518) (y2 + 24782) (lk_qL below args s) (k69 gh M A x5 x6) 69 [some (.ref b), some (.ref o), some (.ref (k 0)), some (.ref (k 1)), some (.ref (k 2)), some (.int (rv_i x5)), some (.int x6), none, none, none, none, none, none, none, none, none, none, none, none] [] (gh, M, A)) : ∀ (gh : rC_gh) (M : rv_Mem) (A : rv_Mem) (x6 : Int32) (x7 : Int32) (x8 : Int32) (x11 : Int32) (x12 : Int32) (x13 : Int32) (x15 : Int32) (s0 : Int32), rv_M (lk_G D cI cZ cO de z0 o k) (fun q => z0 ≤ q) p l e room_1 s m args below meth c (y1 + 3) (y2 + 193) (lk_qL below args s) (gp_law_1615 L xs k69 gh M A x6 x7 x8 x11 x12 x13 x15 s0) 1615 [some (.ref b), some (.ref o), some (.ref (k 0)), some (.ref (k 1)), some (.ref (k 2)), none, some (.int x6), some (.int x7), some (.int x8), none, none, some (.int x11), some (.int x12), some (.int x13), none, some (.int x15), none, none, none] [.int s0] (gh, M, A) := by
  intro gh M A x6 x7 x8 x11 x12 x13 x15 s0
  unfold gp_law_1615
  refine rv_istore (q := 1617) (lv' := [_, _, _, _, _, _, _, _, _, _, _, _, _, _, _, _, _, _, _]) E.x dL_law_1615 (Nat.le_of_ble_eq_true rfl) rfl rfl rfl ?_
  refine rv_iload (q := 1619) E.x dL_law_1617 rfl rfl ?_
  refine rv_sipush (q := 1622) E.x dL_law_1619 rv_ksm1263 rfl ?_
  refine rv_icmp_ne (q := 1625) (tgt := 1644) E.x dL_law_1622 (by decide) rfl ?_ ?_
  · refine rv_aload_n (q := 1626) E.x dL_law_1625 rfl rfl ?_
    refine rv_iload (q := 1628) E.x dL_law_1626 rfl rfl ?_
    refine lk_x1r (fun r2 e1 => ?_) (fun w3 e4 => rv_stuck)
    refine lk_ci (q := 1631) (v := r2) (M1 := M) E (fun u hI _ => c11_stateOf E.2.2.1.1 hI e1) gP_124 hX11_stateOf ⟨rfl, rfl⟩ ⟨Nat.le_of_ble_eq_true rfl, Nat.le_of_ble_eq_true rfl⟩ ⟨lk_le1 hy1 (Nat.le_of_ble_eq_true rfl) (Nat.le_of_ble_eq_true rfl), lk_le1 hy2 (Nat.le_of_ble_eq_true rfl) (Nat.le_of_ble_eq_true rfl)⟩ rfl rfl rfl (Nat.le_of_ble_eq_true rfl) dL_law_1628 rfl ?_
    refine rv_iload (q := 1633) E.x dL_law_1631 rfl rfl ?_
    refine rv_icmp_ne (q := 1636) (tgt := 1640) E.x dL_law_1633 (by decide) rfl ?_ ?_
    · refine rv_iconst (q := 1637) E.x dL_law_1636 rv_ki1 rfl ?_
      refine rv_goto (q := 1679) E.x dL_law_1637 (by decide) ?_
      refine rv_wk [true, true, true, true, true, false, true, true, true, false, false, true, true, true, false, false, false, false, false] ?_
      exact bp_law_1679 E HL k69 y1 y2 hy1 hy2 h69 gh M A x6 x7 x8 x11 x12 x13 true
    · refine rv_iconst (q := 1641) E.x dL_law_1640 rv_ki0 rfl ?_
      refine rv_goto (q := 1679) E.x dL_law_1641 (by decide) ?_
      refine rv_wk [true, true, true, true, true, false, true, true, true, false, false, true, true, true, false, false, false, false, false] ?_
      exact bp_law_1679 E HL k69 y1 y2 hy1 hy2 h69 gh M A x6 x7 x8 x11 x12 x13 false
  · refine rv_aload_n (q := 1645) E.x dL_law_1644 rfl rfl ?_
    refine rv_iload (q := 1647) E.x dL_law_1645 rfl rfl ?_
    refine lk_x1r (fun r6 e5 => ?_) (fun w7 e8 => rv_stuck)
    refine lk_ci (q := 1650) (v := r6) (M1 := M) E (fun u hI _ => c11_stateOf E.2.2.1.1 hI e5) gP_124 hX11_stateOf ⟨rfl, rfl⟩ ⟨Nat.le_of_ble_eq_true rfl, Nat.le_of_ble_eq_true rfl⟩ ⟨lk_le1 hy1 (Nat.le_of_ble_eq_true rfl) (Nat.le_of_ble_eq_true rfl), lk_le1 hy2 (Nat.le_of_ble_eq_true rfl) (Nat.le_of_ble_eq_true rfl)⟩ rfl rfl rfl (Nat.le_of_ble_eq_true rfl) dL_law_1647 rfl ?_
    refine rv_iload (q := 1652) E.x dL_law_1650 rfl rfl ?_
    refine rv_iconst (q := 1653) E.x dL_law_1652 rv_ki3 rfl ?_
    refine rv_irem (q := 1654) E.x dL_law_1653 (by decide) rfl ?_
    refine rv_if_le (q := 1657) (tgt := 1661) E.x dL_law_1654 (by decide) rfl ?_ ?_
    · refine rv_iconst (q := 1658) E.x dL_law_1657 rv_ki2 rfl ?_
      refine rv_goto (q := 1662) E.x dL_law_1658 (by decide) ?_
      refine rv_wk [true, true, true, true, true, false, true, true, true, false, false, true, true, true, false, false, false, false, false] ?_
      exact bp_law_1662 E HL k69 y1 y2 hy1 hy2 h69 gh M A x6 x7 x8 x11 x12 x13 r6 2
    · refine rv_iconst (q := 1662) E.x dL_law_1661 rv_ki0 rfl ?_
      refine rv_wk [true, true, true, true, true, false, true, true, true, false, false, true, true, true, false, false, false, false, false] ?_
      exact bp_law_1662 E HL k69 y1 y2 hy1 hy2 h69 gh M A x6 x7 x8 x11 x12 x13 r6 0
set_option maxRecDepth 100000 in
theorem bp_law_1771 {p : Program} {l : Launch} {e : Env} {s : State} {m : MethodId} {args : Array Value} {below : List Frame} {meth : Method} {c : Code} {D : va_G} {cI cZ cO : ClassId} {mi de z0 o b L : Nat} {k : Nat → Nat} {xs : Nat → Int32} (E : lk_E D cI cZ cO mi de z0 b L k xs cL_law 19 (some .boolean) p l s m args meth c) (HL : s.heap.size ≤ z0 ∧ args = #[Value.ref b])  (k69 : rC_gh → rv_Mem → rv_Mem → Bool → Int32 → Option (Bool × rC_gh × rv_Mem × rv_Mem)) (y1 y2 : Nat) (hy1 : y1 + 518 ≤ 48223) (hy2 : y2 + 24782 ≤ 2312135) (h69 : ∀ (gh : rC_gh) (M : rv_Mem) (A : rv_Mem) (x5 : Bool) (x6 : Int32), rv_M (lk_G D cI cZ cO de z0 o k) (fun q => z0 ≤ q) p l e room_1 s m args below meth c (y1 + 518) (y2 + 24782) (lk_qL below args s) (k69 gh M A x5 x6) 69 [some (.ref b), some (.ref o), some (.ref (k 0)), some (.ref (k 1)), some (.ref (k 2)), some (.int (rv_i x5)), some (.int x6), none, none, none, none, none, none, none, none, none, none, none, none] [] (gh, M, A)) : ∀ (gh : rC_gh) (M : rv_Mem) (A : rv_Mem) (x6 : Int32) (x7 : Int32) (x8 : Int32) (x11 : Int32) (x12 : Int32) (x13 : Int32) (s0 : Bool), rv_M (lk_G D cI cZ cO de z0 o k) (fun q => z0 ≤ q) p l e room_1 s m args below meth c (y1 + 6) (y2 + 386) (lk_qL below args s) (gp_law_1771 L xs k69 gh M A x6 x7 x8 x11 x12 x13 s0) 1771 [some (.ref b), some (.ref o), some (.ref (k 0)), some (.ref (k 1)), some (.ref (k 2)), none, some (.int x6), some (.int x7), some (.int x8), none, none, some (.int x11), some (.int x12), some (.int x13), none, none, none, none, none] [.int (rv_i s0)] (gh, M, A) := by
  intro gh M A x6 x7 x8 x11 x12 x13 s0
  unfold gp_law_1771
  refine rv_istore (q := 1773) (lv' := [_, _, _, _, _, _, _, _, _, _, _, _, _, _, _, _, _, _, _]) E.x dL_law_1771 (Nat.le_of_ble_eq_true rfl) rfl rfl rfl ?_
  refine rv_wk [true, true, true, true, true, true, true, true, true, false, false, true, true, true, false, false, false, false, false] ?_
  exact bp_law_1773 E HL k69 y1 y2 hy1 hy2 h69 gh M A s0 x6 x7 x8 x11 x12 x13
set_option maxRecDepth 100000 in
theorem bp_law_1766 {p : Program} {l : Launch} {e : Env} {s : State} {m : MethodId} {args : Array Value} {below : List Frame} {meth : Method} {c : Code} {D : va_G} {cI cZ cO : ClassId} {mi de z0 o b L : Nat} {k : Nat → Nat} {xs : Nat → Int32} (E : lk_E D cI cZ cO mi de z0 b L k xs cL_law 19 (some .boolean) p l s m args meth c) (HL : s.heap.size ≤ z0 ∧ args = #[Value.ref b])  (k69 : rC_gh → rv_Mem → rv_Mem → Bool → Int32 → Option (Bool × rC_gh × rv_Mem × rv_Mem)) (y1 y2 : Nat) (hy1 : y1 + 518 ≤ 48223) (hy2 : y2 + 24782 ≤ 2312135) (h69 : ∀ (gh : rC_gh) (M : rv_Mem) (A : rv_Mem) (x5 : Bool) (x6 : Int32), rv_M (lk_G D cI cZ cO de z0 o k) (fun q => z0 ≤ q) p l e room_1 s m args below meth c (y1 + 518) (y2 + 24782) (lk_qL below args s) (k69 gh M A x5 x6) 69 [some (.ref b), some (.ref o), some (.ref (k 0)), some (.ref (k 1)), some (.ref (k 2)), some (.int (rv_i x5)), some (.int x6), none, none, none, none, none, none, none, none, none, none, none, none] [] (gh, M, A)) : ∀ (gh : rC_gh) (M : rv_Mem) (A : rv_Mem) (x6 : Int32) (x7 : Int32) (x8 : Int32) (x11 : Int32) (x12 : Int32) (x13 : Int32), rv_M (lk_G D cI cZ cO de z0 o k) (fun q => z0 ≤ q) p l e room_1 s m args below meth c (y1 + 6) (y2 + 386) (lk_qL below args s) (gp_law_1766 L xs k69 gh M A x6 x7 x8 x11 x12 x13) 1766 [some (.ref b), some (.ref o), some (.ref (k 0)), some (.ref (k 1)), some (.ref (k 2)), none, some (.int x6), some (.int x7), some (.int x8), none, none, some (.int x11), some (.int x12), some (.int x13), none, none, none, none, none] [] (gh, M, A) := by
  intro gh M A x6 x7 x8 x11 x12 x13
  unfold gp_law_1766
  refine rv_iconst (q := 1767) E.x dL_law_1766 rv_ki1 rfl ?_
  refine rv_goto (q := 1771) E.x dL_law_1767 (by decide) ?_
  refine rv_wk [true, true, true, true, true, false, true, true, true, false, false, true, true, true, false, false, false, false, false] ?_
  exact bp_law_1771 E HL k69 y1 y2 hy1 hy2 h69 gh M A x6 x7 x8 x11 x12 x13 true
set_option maxRecDepth 100000 in
theorem bp_law_1770 {p : Program} {l : Launch} {e : Env} {s : State} {m : MethodId} {args : Array Value} {below : List Frame} {meth : Method} {c : Code} {D : va_G} {cI cZ cO : ClassId} {mi de z0 o b L : Nat} {k : Nat → Nat} {xs : Nat → Int32} (E : lk_E D cI cZ cO mi de z0 b L k xs cL_law 19 (some .boolean) p l s m args meth c) (HL : s.heap.size ≤ z0 ∧ args = #[Value.ref b])  (k69 : rC_gh → rv_Mem → rv_Mem → Bool → Int32 → Option (Bool × rC_gh × rv_Mem × rv_Mem)) (y1 y2 : Nat) (hy1 : y1 + 518 ≤ 48223) (hy2 : y2 + 24782 ≤ 2312135) (h69 : ∀ (gh : rC_gh) (M : rv_Mem) (A : rv_Mem) (x5 : Bool) (x6 : Int32), rv_M (lk_G D cI cZ cO de z0 o k) (fun q => z0 ≤ q) p l e room_1 s m args below meth c (y1 + 518) (y2 + 24782) (lk_qL below args s) (k69 gh M A x5 x6) 69 [some (.ref b), some (.ref o), some (.ref (k 0)), some (.ref (k 1)), some (.ref (k 2)), some (.int (rv_i x5)), some (.int x6), none, none, none, none, none, none, none, none, none, none, none, none] [] (gh, M, A)) : ∀ (gh : rC_gh) (M : rv_Mem) (A : rv_Mem) (x6 : Int32) (x7 : Int32) (x8 : Int32) (x11 : Int32) (x12 : Int32) (x13 : Int32), rv_M (lk_G D cI cZ cO de z0 o k) (fun q => z0 ≤ q) p l e room_1 s m args below meth c (y1 + 6) (y2 + 386) (lk_qL below args s) (gp_law_1770 L xs k69 gh M A x6 x7 x8 x11 x12 x13) 1770 [some (.ref b), some (.ref o), some (.ref (k 0)), some (.ref (k 1)), some (.ref (k 2)), none, some (.int x6), some (.int x7), some (.int x8), none, none, some (.int x11), some (.int x12), some (.int x13), none, none, none, none, none] [] (gh, M, A) := by
  intro gh M A x6 x7 x8 x11 x12 x13
  unfold gp_law_1770
  refine rv_iconst (q := 1771) E.x dL_law_1770 rv_ki0 rfl ?_
  refine rv_wk [true, true, true, true, true, false, true, true, true, false, false, true, true, true, false, false, false, false, false] ?_
  exact bp_law_1771 E HL k69 y1 y2 hy1 hy2 h69 gh M A x6 x7 x8 x11 x12 x13 false
set_option maxRecDepth 100000 in
theorem bp_law_572 {p : Program} {l : Launch} {e : Env} {s : State} {m : MethodId} {args : Array Value} {below : List Frame} {meth : Method} {c : Code} {D : va_G} {cI cZ cO : ClassId} {mi de z0 o b L : Nat} {k : Nat → Nat} {xs : Nat → Int32} (E : lk_E D cI cZ cO mi de z0 b L k xs cL_law 19 (some .boolean) p l s m args meth c) (HL : s.heap.size ≤ z0 ∧ args = #[Value.ref b])  (k69 : rC_gh → rv_Mem → rv_Mem → Bool → Int32 → Option (Bool × rC_gh × rv_Mem × rv_Mem)) (y1 y2 : Nat) (hy1 : y1 + 518 ≤ 48223) (hy2 : y2 + 24782 ≤ 2312135) (h69 : ∀ (gh : rC_gh) (M : rv_Mem) (A : rv_Mem) (x5 : Bool) (x6 : Int32), rv_M (lk_G D cI cZ cO de z0 o k) (fun q => z0 ≤ q) p l e room_1 s m args below meth c (y1 + 518) (y2 + 24782) (lk_qL below args s) (k69 gh M A x5 x6) 69 [some (.ref b), some (.ref o), some (.ref (k 0)), some (.ref (k 1)), some (.ref (k 2)), some (.int (rv_i x5)), some (.int x6), none, none, none, none, none, none, none, none, none, none, none, none] [] (gh, M, A)) : ∀ (gh : rC_gh) (M : rv_Mem) (A : rv_Mem) (x6 : Int32) (x7 : Int32) (x8 : Int32) (x9 : Int32) (x10 : Int32) (x11 : Int32) (x12 : Int32) (x13 : Int32), rv_M (lk_G D cI cZ cO de z0 o k) (fun q => z0 ≤ q) p l e room_1 s m args below meth c (y1 + 0) (y2 + 0) (lk_qL below args s) (gp_law_572 L xs k69 gh M A x6 x7 x8 x9 x10 x11 x12 x13) 572 [some (.ref b), some (.ref o), some (.ref (k 0)), some (.ref (k 1)), some (.ref (k 2)), none, some (.int x6), some (.int x7), some (.int x8), some (.int x9), some (.int x10), some (.int x11), some (.int x12), some (.int x13), none, none, none, none, none] [] (gh, M, A) := by
  intro gh M A x6 x7 x8 x9 x10 x11 x12 x13
  unfold gp_law_572
  refine rv_aload_n (q := 573) E.x dL_law_572 rfl rfl ?_
  refine rv_b1 (fun r2 e1 => ?_)
  refine lk_cn (q := 576) (v := r2) (M1 := M) E (fun u hI => c11_changes hI e1) gP_187 hX11_changes ⟨rfl, rfl⟩ ⟨Nat.le_of_ble_eq_true rfl, Nat.le_of_ble_eq_true rfl⟩ ⟨lk_le1 hy1 (Nat.le_of_ble_eq_true rfl) (Nat.le_of_ble_eq_true rfl), lk_le1 hy2 (Nat.le_of_ble_eq_true rfl) (Nat.le_of_ble_eq_true rfl)⟩ rfl rfl rfl (Nat.le_of_ble_eq_true rfl) dL_law_573 rfl ?_
  refine rv_if_ne (q := 579) (tgt := 597) E.x dL_law_576 (by decide) rfl ?_ ?_
  · refine rv_aload_n (q := 580) E.x dL_law_579 rfl rfl ?_
    refine rv_b1 (fun r4 e3 => ?_)
    refine lk_cn (q := 583) (v := r4) (M1 := M) E (fun u hI => c11_commits hI e3) gP_181 hX11_commits ⟨rfl, rfl⟩ ⟨Nat.le_of_ble_eq_true rfl, Nat.le_of_ble_eq_true rfl⟩ ⟨lk_le1 hy1 (Nat.le_of_ble_eq_true rfl) (Nat.le_of_ble_eq_true rfl), lk_le1 hy2 (Nat.le_of_ble_eq_true rfl) (Nat.le_of_ble_eq_true rfl)⟩ rfl rfl rfl (Nat.le_of_ble_eq_true rfl) dL_law_580 rfl ?_
    refine rv_iconst (q := 584) E.x dL_law_583 rv_ki2 rfl ?_
    refine rv_icmp_ne (q := 587) (tgt := 591) E.x dL_law_584 (by decide) rfl ?_ ?_
    · refine rv_iconst (q := 588) E.x dL_law_587 rv_ki1 rfl ?_
      refine rv_goto (q := 592) E.x dL_law_588 (by decide) ?_
      refine rv_wk [true, true, true, true, true, false, true, true, true, false, false, true, true, true, false, false, false, false, false] ?_
      exact bp_law_592 E HL k69 y1 y2 hy1 hy2 h69 gh M A x6 x7 x8 x11 x12 x13 true
    · refine rv_iconst (q := 592) E.x dL_law_591 rv_ki0 rfl ?_
      refine rv_wk [true, true, true, true, true, false, true, true, true, false, false, true, true, true, false, false, false, false, false] ?_
      exact bp_law_592 E HL k69 y1 y2 hy1 hy2 h69 gh M A x6 x7 x8 x11 x12 x13 false
  · refine rv_iload (q := 599) E.x dL_law_597 rfl rfl ?_
    refine rv_bipush (q := 601) E.x dL_law_599 rv_kb16 rfl ?_
    refine rv_icmp_ge (q := 604) (tgt := 702) E.x dL_law_601 (by decide) rfl ?_ ?_
    · refine rv_aload_n (q := 605) E.x dL_law_604 rfl rfl ?_
      refine rv_iload (q := 607) E.x dL_law_605 rfl rfl ?_
      refine lk_x1r (fun r6 e5 => ?_) (fun w7 e8 => rv_stuck)
      refine lk_ci (q := 610) (v := r6) (M1 := M) E (fun u hI _ => c11_sets E.2.2.1.1 hI e5) gP_127 hX11_sets ⟨rfl, rfl⟩ ⟨Nat.le_of_ble_eq_true rfl, Nat.le_of_ble_eq_true rfl⟩ ⟨lk_le1 hy1 (Nat.le_of_ble_eq_true rfl) (Nat.le_of_ble_eq_true rfl), lk_le1 hy2 (Nat.le_of_ble_eq_true rfl) (Nat.le_of_ble_eq_true rfl)⟩ rfl rfl rfl (Nat.le_of_ble_eq_true rfl) dL_law_607 rfl ?_
      refine rv_istore (q := 612) (lv' := [_, _, _, _, _, _, _, _, _, _, _, _, _, _, _, _, _, _, _]) E.x dL_law_610 (Nat.le_of_ble_eq_true rfl) rfl rfl rfl ?_
      refine rv_aload_n (q := 613) E.x dL_law_612 rfl rfl ?_
      refine rv_iconst (q := 614) E.x dL_law_613 rv_ki5 rfl ?_
      refine rv_iload (q := 616) E.x dL_law_614 rfl rfl ?_
      refine rv_iload (q := 618) E.x dL_law_616 rfl rfl ?_
      refine rv_iconst (q := 619) E.x dL_law_618 rv_ki0 rfl ?_
      refine rv_iconst (q := 620) E.x dL_law_619 rv_ki0 rfl ?_
      refine rv_iconst (q := 621) E.x dL_law_620 rv_ki0 rfl ?_
      refine lk_b3 (fun r10 g12 M11 e9 => ?_)
      refine lk_csW (q := 624) (v := r10) (σ' := (g12, M11, A)) E (wP_act E.2.2.1 e9) gPs_241 hP_act ⟨rfl, rfl⟩ ⟨Nat.le_of_ble_eq_true rfl, Nat.le_of_ble_eq_true rfl⟩ ⟨lk_le2 hy1 (Nat.le_of_ble_eq_true rfl) (Nat.le_of_ble_eq_true rfl), lk_le2 hy2 (Nat.le_of_ble_eq_true rfl) (Nat.le_of_ble_eq_true rfl)⟩ rfl rfl rfl (Nat.le_of_ble_eq_true rfl) dL_law_621 rfl ?_
      refine rv_wd (y1 + 3) (y2 + 193) (Nat.le_of_eq (Nat.add_assoc _ _ _)) (Nat.le_of_eq (Nat.add_assoc _ _ _)) ?_
      refine rv_istore (q := 626) (lv' := [_, _, _, _, _, _, _, _, _, _, _, _, _, _, _, _, _, _, _]) E.x dL_law_624 (Nat.le_of_ble_eq_true rfl) rfl rfl rfl ?_
      refine rv_iload (q := 628) E.x dL_law_626 rfl rfl ?_
      refine rv_sipush (q := 631) E.x dL_law_628 rv_ksm1263 rfl ?_
      refine rv_icmp_ne (q := 634) (tgt := 653) E.x dL_law_631 (by decide) rfl ?_ ?_
      · refine rv_aload_n (q := 635) E.x dL_law_634 rfl rfl ?_
        refine rv_iload (q := 637) E.x dL_law_635 rfl rfl ?_
        refine lk_x1r (fun r14 e13 => ?_) (fun w15 e16 => rv_stuck)
        refine lk_ci (q := 640) (v := r14) (M1 := M11) E (fun u hI _ => c11_sets E.2.2.1.1 hI e13) gP_127 hX11_sets ⟨rfl, rfl⟩ ⟨Nat.le_of_ble_eq_true rfl, Nat.le_of_ble_eq_true rfl⟩ ⟨lk_le1 hy1 (Nat.le_of_ble_eq_true rfl) (Nat.le_of_ble_eq_true rfl), lk_le1 hy2 (Nat.le_of_ble_eq_true rfl) (Nat.le_of_ble_eq_true rfl)⟩ rfl rfl rfl (Nat.le_of_ble_eq_true rfl) dL_law_637 rfl ?_
        refine rv_iload (q := 642) E.x dL_law_640 rfl rfl ?_
        refine rv_icmp_ne (q := 645) (tgt := 649) E.x dL_law_642 (by decide) rfl ?_ ?_
        · refine rv_iconst (q := 646) E.x dL_law_645 rv_ki1 rfl ?_
          refine rv_goto (q := 697) E.x dL_law_646 (by decide) ?_
          refine rv_wk [true, true, true, true, true, false, true, true, true, false, false, true, true, true, false, false, false, false, false] ?_
          exact bp_law_697 E HL k69 y1 y2 hy1 hy2 h69 g12 M11 A x6 x7 x8 x11 x12 x13 true
        · refine rv_iconst (q := 650) E.x dL_law_649 rv_ki0 rfl ?_
          refine rv_goto (q := 697) E.x dL_law_650 (by decide) ?_
          refine rv_wk [true, true, true, true, true, false, true, true, true, false, false, true, true, true, false, false, false, false, false] ?_
          exact bp_law_697 E HL k69 y1 y2 hy1 hy2 h69 g12 M11 A x6 x7 x8 x11 x12 x13 false
      · refine rv_iload (q := 655) E.x dL_law_653 rfl rfl ?_
        refine rv_iload (q := 657) E.x dL_law_655 rfl rfl ?_
        refine rv_icmp_ne (q := 660) (tgt := 696) E.x dL_law_657 (by decide) rfl ?_ ?_
        · refine rv_aload_n (q := 661) E.x dL_law_660 rfl rfl ?_
          refine rv_aload_n (q := 662) E.x dL_law_661 rfl rfl ?_
          refine rv_iload (q := 664) E.x dL_law_662 rfl rfl ?_
          refine rv_b2 (fun r18 M19 e17 => ?_)
          refine lk_cs0 (q := 667) (v := r18) (σ' := (g12, M19, A)) E (wP_now E.2.2.1 e17) gPs_222 hP_now ⟨rfl, rfl⟩ ⟨Nat.le_of_ble_eq_true rfl, Nat.le_of_ble_eq_true rfl⟩ ⟨lk_le1 hy1 (Nat.le_of_ble_eq_true rfl) (Nat.le_of_ble_eq_true rfl), lk_le1 hy2 (Nat.le_of_ble_eq_true rfl) (Nat.le_of_ble_eq_true rfl)⟩ rfl rfl rfl (Nat.le_of_ble_eq_true rfl) dL_law_664 rfl ?_
          refine lk_x1r (fun r21 e20 => ?_) (fun w22 e23 => rv_stuck)
          refine lk_ci (q := 670) (v := r21) (M1 := M19) E (fun u hI _ => c11_before E.2.2.1.1 hI e20) gP_115 hX11_before ⟨rfl, rfl⟩ ⟨Nat.le_of_ble_eq_true rfl, Nat.le_of_ble_eq_true rfl⟩ ⟨lk_le1 hy1 (Nat.le_of_ble_eq_true rfl) (Nat.le_of_ble_eq_true rfl), lk_le1 hy2 (Nat.le_of_ble_eq_true rfl) (Nat.le_of_ble_eq_true rfl)⟩ rfl rfl rfl (Nat.le_of_ble_eq_true rfl) dL_law_667 rfl ?_
          refine rv_aload_n (q := 671) E.x dL_law_670 rfl rfl ?_
          refine rv_iconst (q := 672) E.x dL_law_671 rv_kim1 rfl ?_
          refine lk_x1r (fun r25 e24 => ?_) (fun w26 e27 => rv_stuck)
          refine lk_ci (q := 675) (v := r25) (M1 := M19) E (fun u hI _ => c11_before E.2.2.1.1 hI e24) gP_115 hX11_before ⟨rfl, rfl⟩ ⟨Nat.le_of_ble_eq_true rfl, Nat.le_of_ble_eq_true rfl⟩ ⟨lk_le1 hy1 (Nat.le_of_ble_eq_true rfl) (Nat.le_of_ble_eq_true rfl), lk_le1 hy2 (Nat.le_of_ble_eq_true rfl) (Nat.le_of_ble_eq_true rfl)⟩ rfl rfl rfl (Nat.le_of_ble_eq_true rfl) dL_law_672 rfl ?_
          refine rv_icmp_ne (q := 678) (tgt := 696) E.x dL_law_675 (by decide) rfl ?_ ?_
          · refine rv_aload_n (q := 679) E.x dL_law_678 rfl rfl ?_
            refine rv_iload (q := 681) E.x dL_law_679 rfl rfl ?_
            refine lk_x1r (fun r29 e28 => ?_) (fun w30 e31 => rv_stuck)
            refine lk_ci (q := 684) (v := r29) (M1 := M19) E (fun u hI _ => c11_whoseTurn E.2.2.1.1 hI e28) gP_155 hX11_whoseTurn ⟨rfl, rfl⟩ ⟨Nat.le_of_ble_eq_true rfl, Nat.le_of_ble_eq_true rfl⟩ ⟨lk_le1 hy1 (Nat.le_of_ble_eq_true rfl) (Nat.le_of_ble_eq_true rfl), lk_le1 hy2 (Nat.le_of_ble_eq_true rfl) (Nat.le_of_ble_eq_true rfl)⟩ rfl rfl rfl (Nat.le_of_ble_eq_true rfl) dL_law_681 rfl ?_
            refine rv_iload (q := 686) E.x dL_law_684 rfl rfl ?_
            refine rv_ishr (q := 687) E.x dL_law_686 rfl ?_
            refine rv_iconst (q := 688) E.x dL_law_687 rv_ki1 rfl ?_
            refine rv_iand (q := 689) E.x dL_law_688 rfl ?_
            refine rv_if_ne (q := 692) (tgt := 696) E.x dL_law_689 (by decide) rfl ?_ ?_
            · refine rv_iconst (q := 693) E.x dL_law_692 rv_ki1 rfl ?_
              refine rv_goto (q := 697) E.x dL_law_693 (by decide) ?_
              refine rv_wk [true, true, true, true, true, false, true, true, true, false, false, true, true, true, false, false, false, false, false] ?_
              exact bp_law_697 E HL k69 y1 y2 hy1 hy2 h69 g12 M19 A x6 x7 x8 x11 x12 x13 true
            · refine rv_wk [true, true, true, true, true, false, true, true, true, false, false, true, true, true, false, false, false, false, false] ?_
              exact bp_law_696 E HL k69 y1 y2 hy1 hy2 h69 g12 M19 A x6 x7 x8 x11 x12 x13
          · refine rv_wk [true, true, true, true, true, false, true, true, true, false, false, true, true, true, false, false, false, false, false] ?_
            exact bp_law_696 E HL k69 y1 y2 hy1 hy2 h69 g12 M19 A x6 x7 x8 x11 x12 x13
        · refine rv_wk [true, true, true, true, true, false, true, true, true, false, false, true, true, true, false, false, false, false, false] ?_
          exact bp_law_696 E HL k69 y1 y2 hy1 hy2 h69 g12 M11 A x6 x7 x8 x11 x12 x13
    · refine rv_iload (q := 704) E.x dL_law_702 rfl rfl ?_
      refine rv_bipush (q := 706) E.x dL_law_704 rv_kb18 rfl ?_
      refine rv_icmp_ge (q := 709) (tgt := 815) E.x dL_law_706 (by decide) rfl ?_ ?_
      · refine rv_aload_n (q := 710) E.x dL_law_709 rfl rfl ?_
        refine rv_iload (q := 712) E.x dL_law_710 rfl rfl ?_
        refine lk_x1r (fun r33 e32 => ?_) (fun w34 e35 => rv_stuck)
        refine lk_ci (q := 715) (v := r33) (M1 := M) E (fun u hI _ => c11_sets E.2.2.1.1 hI e32) gP_127 hX11_sets ⟨rfl, rfl⟩ ⟨Nat.le_of_ble_eq_true rfl, Nat.le_of_ble_eq_true rfl⟩ ⟨lk_le1 hy1 (Nat.le_of_ble_eq_true rfl) (Nat.le_of_ble_eq_true rfl), lk_le1 hy2 (Nat.le_of_ble_eq_true rfl) (Nat.le_of_ble_eq_true rfl)⟩ rfl rfl rfl (Nat.le_of_ble_eq_true rfl) dL_law_712 rfl ?_
        refine rv_istore (q := 717) (lv' := [_, _, _, _, _, _, _, _, _, _, _, _, _, _, _, _, _, _, _]) E.x dL_law_715 (Nat.le_of_ble_eq_true rfl) rfl rfl rfl ?_
        refine rv_aload_n (q := 718) E.x dL_law_717 rfl rfl ?_
        refine rv_aload_n (q := 719) E.x dL_law_718 rfl rfl ?_
        refine rv_iload (q := 721) E.x dL_law_719 rfl rfl ?_
        refine rv_b2 (fun r37 M38 e36 => ?_)
        refine lk_cs0 (q := 724) (v := r37) (σ' := (gh, M38, A)) E (wP_now E.2.2.1 e36) gPs_222 hP_now ⟨rfl, rfl⟩ ⟨Nat.le_of_ble_eq_true rfl, Nat.le_of_ble_eq_true rfl⟩ ⟨lk_le1 hy1 (Nat.le_of_ble_eq_true rfl) (Nat.le_of_ble_eq_true rfl), lk_le1 hy2 (Nat.le_of_ble_eq_true rfl) (Nat.le_of_ble_eq_true rfl)⟩ rfl rfl rfl (Nat.le_of_ble_eq_true rfl) dL_law_721 rfl ?_
        refine lk_x1r (fun r40 e39 => ?_) (fun w41 e42 => rv_stuck)
        refine lk_ci (q := 727) (v := r40) (M1 := M38) E (fun u hI _ => c11_before E.2.2.1.1 hI e39) gP_115 hX11_before ⟨rfl, rfl⟩ ⟨Nat.le_of_ble_eq_true rfl, Nat.le_of_ble_eq_true rfl⟩ ⟨lk_le1 hy1 (Nat.le_of_ble_eq_true rfl) (Nat.le_of_ble_eq_true rfl), lk_le1 hy2 (Nat.le_of_ble_eq_true rfl) (Nat.le_of_ble_eq_true rfl)⟩ rfl rfl rfl (Nat.le_of_ble_eq_true rfl) dL_law_724 rfl ?_
        refine rv_istore (q := 729) (lv' := [_, _, _, _, _, _, _, _, _, _, _, _, _, _, _, _, _, _, _]) E.x dL_law_727 (Nat.le_of_ble_eq_true rfl) rfl rfl rfl ?_
        refine rv_aload_n (q := 730) E.x dL_law_729 rfl rfl ?_
        refine rv_bipush (q := 732) E.x dL_law_730 rv_kb6 rfl ?_
        refine rv_iload (q := 734) E.x dL_law_732 rfl rfl ?_
        refine rv_iload (q := 736) E.x dL_law_734 rfl rfl ?_
        refine rv_iconst (q := 737) E.x dL_law_736 rv_ki0 rfl ?_
        refine rv_iconst (q := 738) E.x dL_law_737 rv_ki0 rfl ?_
        refine rv_iconst (q := 739) E.x dL_law_738 rv_ki0 rfl ?_
        refine lk_b3 (fun r44 g46 M45 e43 => ?_)
        refine lk_csW (q := 742) (v := r44) (σ' := (g46, M45, A)) E (wP_act E.2.2.1 e43) gPs_241 hP_act ⟨rfl, rfl⟩ ⟨Nat.le_of_ble_eq_true rfl, Nat.le_of_ble_eq_true rfl⟩ ⟨lk_le2 hy1 (Nat.le_of_ble_eq_true rfl) (Nat.le_of_ble_eq_true rfl), lk_le2 hy2 (Nat.le_of_ble_eq_true rfl) (Nat.le_of_ble_eq_true rfl)⟩ rfl rfl rfl (Nat.le_of_ble_eq_true rfl) dL_law_739 rfl ?_
        refine rv_wd (y1 + 3) (y2 + 193) (Nat.le_of_eq (Nat.add_assoc _ _ _)) (Nat.le_of_eq (Nat.add_assoc _ _ _)) ?_
        refine rv_istore (q := 744) (lv' := [_, _, _, _, _, _, _, _, _, _, _, _, _, _, _, _, _, _, _]) E.x dL_law_742 (Nat.le_of_ble_eq_true rfl) rfl rfl rfl ?_
        refine rv_iload (q := 746) E.x dL_law_744 rfl rfl ?_
        refine rv_sipush (q := 749) E.x dL_law_746 rv_ksm1263 rfl ?_
        refine rv_icmp_ne (q := 752) (tgt := 771) E.x dL_law_749 (by decide) rfl ?_ ?_
        · refine rv_aload_n (q := 753) E.x dL_law_752 rfl rfl ?_
          refine rv_iload (q := 755) E.x dL_law_753 rfl rfl ?_
          refine lk_x1r (fun r48 e47 => ?_) (fun w49 e50 => rv_stuck)
          refine lk_ci (q := 758) (v := r48) (M1 := M45) E (fun u hI _ => c11_sets E.2.2.1.1 hI e47) gP_127 hX11_sets ⟨rfl, rfl⟩ ⟨Nat.le_of_ble_eq_true rfl, Nat.le_of_ble_eq_true rfl⟩ ⟨lk_le1 hy1 (Nat.le_of_ble_eq_true rfl) (Nat.le_of_ble_eq_true rfl), lk_le1 hy2 (Nat.le_of_ble_eq_true rfl) (Nat.le_of_ble_eq_true rfl)⟩ rfl rfl rfl (Nat.le_of_ble_eq_true rfl) dL_law_755 rfl ?_
          refine rv_iload (q := 760) E.x dL_law_758 rfl rfl ?_
          refine rv_icmp_ne (q := 763) (tgt := 767) E.x dL_law_760 (by decide) rfl ?_ ?_
          · refine rv_iconst (q := 764) E.x dL_law_763 rv_ki1 rfl ?_
            refine rv_goto (q := 810) E.x dL_law_764 (by decide) ?_
            refine rv_wk [true, true, true, true, true, false, true, true, true, false, false, true, true, true, false, false, false, false, false] ?_
            exact bp_law_810 E HL k69 y1 y2 hy1 hy2 h69 g46 M45 A x6 x7 x8 x11 x12 x13 true
          · refine rv_iconst (q := 768) E.x dL_law_767 rv_ki0 rfl ?_
            refine rv_goto (q := 810) E.x dL_law_768 (by decide) ?_
            refine rv_wk [true, true, true, true, true, false, true, true, true, false, false, true, true, true, false, false, false, false, false] ?_
            exact bp_law_810 E HL k69 y1 y2 hy1 hy2 h69 g46 M45 A x6 x7 x8 x11 x12 x13 false
        · refine rv_iload (q := 773) E.x dL_law_771 rfl rfl ?_
          refine rv_iload (q := 775) E.x dL_law_773 rfl rfl ?_
          refine rv_icmp_ne (q := 778) (tgt := 809) E.x dL_law_775 (by decide) rfl ?_ ?_
          · refine rv_aload_n (q := 779) E.x dL_law_778 rfl rfl ?_
            refine rv_aload_n (q := 780) E.x dL_law_779 rfl rfl ?_
            refine rv_iload (q := 782) E.x dL_law_780 rfl rfl ?_
            refine rv_b2 (fun r52 M53 e51 => ?_)
            refine lk_cs0 (q := 785) (v := r52) (σ' := (g46, M53, A)) E (wP_now E.2.2.1 e51) gPs_222 hP_now ⟨rfl, rfl⟩ ⟨Nat.le_of_ble_eq_true rfl, Nat.le_of_ble_eq_true rfl⟩ ⟨lk_le1 hy1 (Nat.le_of_ble_eq_true rfl) (Nat.le_of_ble_eq_true rfl), lk_le1 hy2 (Nat.le_of_ble_eq_true rfl) (Nat.le_of_ble_eq_true rfl)⟩ rfl rfl rfl (Nat.le_of_ble_eq_true rfl) dL_law_782 rfl ?_
            refine lk_x1r (fun r55 e54 => ?_) (fun w56 e57 => rv_stuck)
            refine lk_ci (q := 788) (v := r55) (M1 := M53) E (fun u hI _ => c11_before E.2.2.1.1 hI e54) gP_115 hX11_before ⟨rfl, rfl⟩ ⟨Nat.le_of_ble_eq_true rfl, Nat.le_of_ble_eq_true rfl⟩ ⟨lk_le1 hy1 (Nat.le_of_ble_eq_true rfl) (Nat.le_of_ble_eq_true rfl), lk_le1 hy2 (Nat.le_of_ble_eq_true rfl) (Nat.le_of_ble_eq_true rfl)⟩ rfl rfl rfl (Nat.le_of_ble_eq_true rfl) dL_law_785 rfl ?_
            refine rv_iload (q := 790) E.x dL_law_788 rfl rfl ?_
            refine rv_icmp_eq (q := 793) (tgt := 809) E.x dL_law_790 (by decide) rfl ?_ ?_
            · refine rv_aload_n (q := 794) E.x dL_law_793 rfl rfl ?_
              refine rv_iload (q := 796) E.x dL_law_794 rfl rfl ?_
              refine lk_x1r (fun r59 e58 => ?_) (fun w60 e61 => rv_stuck)
              refine lk_ci (q := 799) (v := r59) (M1 := M53) E (fun u hI _ => c11_parentOf E.2.2.1.1 hI e58) gP_136 hX11_parentOf ⟨rfl, rfl⟩ ⟨Nat.le_of_ble_eq_true rfl, Nat.le_of_ble_eq_true rfl⟩ ⟨lk_le1 hy1 (Nat.le_of_ble_eq_true rfl) (Nat.le_of_ble_eq_true rfl), lk_le1 hy2 (Nat.le_of_ble_eq_true rfl) (Nat.le_of_ble_eq_true rfl)⟩ rfl rfl rfl (Nat.le_of_ble_eq_true rfl) dL_law_796 rfl ?_
              refine rv_bipush (q := 801) E.x dL_law_799 rv_kb10 rfl ?_
              refine rv_irem (q := 802) E.x dL_law_801 (by decide) rfl ?_
              refine rv_if_gt (q := 805) (tgt := 809) E.x dL_law_802 (by decide) rfl ?_ ?_
              · refine rv_iconst (q := 806) E.x dL_law_805 rv_ki1 rfl ?_
                refine rv_goto (q := 810) E.x dL_law_806 (by decide) ?_
                refine rv_wk [true, true, true, true, true, false, true, true, true, false, false, true, true, true, false, false, false, false, false] ?_
                exact bp_law_810 E HL k69 y1 y2 hy1 hy2 h69 g46 M53 A x6 x7 x8 x11 x12 x13 true
              · refine rv_wk [true, true, true, true, true, false, true, true, true, false, false, true, true, true, false, false, false, false, false] ?_
                exact bp_law_809 E HL k69 y1 y2 hy1 hy2 h69 g46 M53 A x6 x7 x8 x11 x12 x13
            · refine rv_wk [true, true, true, true, true, false, true, true, true, false, false, true, true, true, false, false, false, false, false] ?_
              exact bp_law_809 E HL k69 y1 y2 hy1 hy2 h69 g46 M53 A x6 x7 x8 x11 x12 x13
          · refine rv_wk [true, true, true, true, true, false, true, true, true, false, false, true, true, true, false, false, false, false, false] ?_
            exact bp_law_809 E HL k69 y1 y2 hy1 hy2 h69 g46 M45 A x6 x7 x8 x11 x12 x13
      · refine rv_iload (q := 817) E.x dL_law_815 rfl rfl ?_
        refine rv_bipush (q := 819) E.x dL_law_817 rv_kb22 rfl ?_
        refine rv_icmp_ge (q := 822) (tgt := 978) E.x dL_law_819 (by decide) rfl ?_ ?_
        · refine rv_iload (q := 824) E.x dL_law_822 rfl rfl ?_
          refine rv_sipush (q := 827) E.x dL_law_824 rv_ks400 rfl ?_
          refine rv_idiv (q := 828) E.x dL_law_827 (by decide) rfl ?_
          refine rv_iconst (q := 829) E.x dL_law_828 rv_ki4 rfl ?_
          refine rv_irem (q := 830) E.x dL_law_829 (by decide) rfl ?_
          refine rv_iconst (q := 831) E.x dL_law_830 rv_ki3 rfl ?_
          refine rv_idiv (q := 832) E.x dL_law_831 (by decide) rfl ?_
          refine rv_istore (q := 834) (lv' := [_, _, _, _, _, _, _, _, _, _, _, _, _, _, _, _, _, _, _]) E.x dL_law_832 (Nat.le_of_ble_eq_true rfl) rfl rfl rfl ?_
          refine rv_iload (q := 836) E.x dL_law_834 rfl rfl ?_
          refine rv_iconst (q := 837) E.x dL_law_836 rv_ki1 rfl ?_
          refine rv_icmp_ne (q := 840) (tgt := 857) E.x dL_law_837 (by decide) rfl ?_ ?_
          · refine rv_iconst (q := 841) E.x dL_law_840 rv_ki1 rfl ?_
            refine rv_iload (q := 843) E.x dL_law_841 rfl rfl ?_
            refine rv_sipush (q := 846) E.x dL_law_843 rv_ks800 rfl ?_
            refine rv_idiv (q := 847) E.x dL_law_846 (by decide) rfl ?_
            refine rv_iconst (q := 848) E.x dL_law_847 rv_ki4 rfl ?_
            refine rv_irem (q := 849) E.x dL_law_848 (by decide) rfl ?_
            refine rv_iconst (q := 850) E.x dL_law_849 rv_ki3 rfl ?_
            refine rv_idiv (q := 851) E.x dL_law_850 (by decide) rfl ?_
            refine rv_iconst (q := 852) E.x dL_law_851 rv_ki2 rfl ?_
            refine rv_imul (q := 853) E.x dL_law_852 rfl ?_
            refine rv_isub (q := 854) E.x dL_law_853 rfl ?_
            refine rv_goto (q := 885) E.x dL_law_854 (by decide) ?_
            refine rv_wk [true, true, true, true, true, false, true, true, true, false, false, true, true, true, false, true, false, false, false] ?_
            exact bp_law_885 E HL k69 y1 y2 hy1 hy2 h69 gh M A x6 x7 x8 x11 x12 x13 (((x8 / 400) - (x8 / 400) / 4 * 4) / 3) (1 - ((((x8 / 800) - (x8 / 800) / 4 * 4) / 3) * 2))
          · refine rv_iload (q := 859) E.x dL_law_857 rfl rfl ?_
            refine rv_sipush (q := 862) E.x dL_law_859 rv_ks800 rfl ?_
            refine rv_idiv (q := 863) E.x dL_law_862 (by decide) rfl ?_
            refine rv_bipush (q := 865) E.x dL_law_863 rv_kb8 rfl ?_
            refine rv_irem (q := 866) E.x dL_law_865 (by decide) rfl ?_
            refine rv_iconst (q := 867) E.x dL_law_866 rv_ki4 rfl ?_
            refine rv_icmp_le (q := 870) (tgt := 874) E.x dL_law_867 (by decide) rfl ?_ ?_
            · refine rv_iconst (q := 871) E.x dL_law_870 rv_ki2 rfl ?_
              refine rv_goto (q := 885) E.x dL_law_871 (by decide) ?_
              refine rv_wk [true, true, true, true, true, false, true, true, true, false, false, true, true, true, false, true, false, false, false] ?_
              exact bp_law_885 E HL k69 y1 y2 hy1 hy2 h69 gh M A x6 x7 x8 x11 x12 x13 (((x8 / 400) - (x8 / 400) / 4 * 4) / 3) 2
            · refine rv_iload (q := 876) E.x dL_law_874 rfl rfl ?_
              refine rv_sipush (q := 879) E.x dL_law_876 rv_ks800 rfl ?_
              refine rv_idiv (q := 880) E.x dL_law_879 (by decide) rfl ?_
              refine rv_bipush (q := 882) E.x dL_law_880 rv_kb8 rfl ?_
              refine rv_irem (q := 883) E.x dL_law_882 (by decide) rfl ?_
              refine rv_iconst (q := 884) E.x dL_law_883 rv_ki2 rfl ?_
              refine rv_isub (q := 885) E.x dL_law_884 rfl ?_
              refine rv_wk [true, true, true, true, true, false, true, true, true, false, false, true, true, true, false, true, false, false, false] ?_
              exact bp_law_885 E HL k69 y1 y2 hy1 hy2 h69 gh M A x6 x7 x8 x11 x12 x13 (((x8 / 400) - (x8 / 400) / 4 * 4) / 3) (((x8 / 800) - (x8 / 800) / 8 * 8) - 2)
        · refine rv_iload (q := 980) E.x dL_law_978 rfl rfl ?_
          refine rv_bipush (q := 982) E.x dL_law_980 rv_kb24 rfl ?_
          refine rv_icmp_ge (q := 985) (tgt := 1180) E.x dL_law_982 (by decide) rfl ?_ ?_
          · refine rv_aload_n (q := 986) E.x dL_law_985 rfl rfl ?_
            refine rv_aload_n (q := 987) E.x dL_law_986 rfl rfl ?_
            refine rv_iload (q := 989) E.x dL_law_987 rfl rfl ?_
            refine rv_iload (q := 991) E.x dL_law_989 rfl rfl ?_
            refine lk_x1r (fun r63 e62 => ?_) (fun w64 e65 => rv_stuck)
            refine lk_ci (q := 994) (v := r63) (M1 := M) E (fun u hI _ => c11_commitOf E.2.2.1.1 hI e62) gP_130 hX11_commitOf ⟨rfl, rfl⟩ ⟨Nat.le_of_ble_eq_true rfl, Nat.le_of_ble_eq_true rfl⟩ ⟨lk_le1 hy1 (Nat.le_of_ble_eq_true rfl) (Nat.le_of_ble_eq_true rfl), lk_le1 hy2 (Nat.le_of_ble_eq_true rfl) (Nat.le_of_ble_eq_true rfl)⟩ rfl rfl rfl (Nat.le_of_ble_eq_true rfl) dL_law_991 rfl ?_
            refine rv_iload (q := 996) E.x dL_law_994 rfl rfl ?_
            refine rv_b2 (fun r67 M68 e66 => ?_)
            refine lk_cs0 (q := 999) (v := r67) (σ' := (gh, M68, A)) E (wP_size E.2.2.1 e66) gPs_203 hP_size ⟨rfl, rfl⟩ ⟨Nat.le_of_ble_eq_true rfl, Nat.le_of_ble_eq_true rfl⟩ ⟨lk_le1 hy1 (Nat.le_of_ble_eq_true rfl) (Nat.le_of_ble_eq_true rfl), lk_le1 hy2 (Nat.le_of_ble_eq_true rfl) (Nat.le_of_ble_eq_true rfl)⟩ rfl rfl rfl (Nat.le_of_ble_eq_true rfl) dL_law_996 rfl ?_
            refine rv_istore (q := 1001) (lv' := [_, _, _, _, _, _, _, _, _, _, _, _, _, _, _, _, _, _, _]) E.x dL_law_999 (Nat.le_of_ble_eq_true rfl) rfl rfl rfl ?_
            refine rv_iload (q := 1003) E.x dL_law_1001 rfl rfl ?_
            refine rv_if_ne (q := 1006) (tgt := 1010) E.x dL_law_1003 (by decide) rfl ?_ ?_
            · refine rv_iconst (q := 1007) E.x dL_law_1006 rv_ki0 rfl ?_
              refine rv_goto (q := 1018) E.x dL_law_1007 (by decide) ?_
              refine rv_wk [true, true, true, true, true, false, true, true, true, false, true, true, true, true, false, true, false, false, false] ?_
              exact bp_law_1018 E HL k69 y1 y2 hy1 hy2 h69 gh M68 A x6 x7 x8 x10 x11 x12 x13 r67 0
            · refine rv_iload (q := 1012) E.x dL_law_1010 rfl rfl ?_
              refine rv_bipush (q := 1014) E.x dL_law_1012 rv_kb80 rfl ?_
              refine rv_idiv (q := 1015) E.x dL_law_1014 (by decide) rfl ?_
              refine rv_iload (q := 1017) E.x dL_law_1015 rfl rfl ?_
              refine rv_iremg (q := 1018) E.x dL_law_1017 rfl ?_
              refine rv_wk [true, true, true, true, true, false, true, true, true, false, true, true, true, true, false, true, false, false, false] ?_
              exact bp_law_1018 E HL k69 y1 y2 hy1 hy2 h69 gh M68 A x6 x7 x8 x10 x11 x12 x13 r67 ((x8 / 80) - (x8 / 80) / r67 * r67)
          · refine rv_iload (q := 1182) E.x dL_law_1180 rfl rfl ?_
            refine rv_bipush (q := 1184) E.x dL_law_1182 rv_kb24 rfl ?_
            refine rv_icmp_ne (q := 1187) (tgt := 1270) E.x dL_law_1184 (by decide) rfl ?_ ?_
            · refine rv_aload_n (q := 1188) E.x dL_law_1187 rfl rfl ?_
              refine rv_bipush (q := 1190) E.x dL_law_1188 rv_kb12 rfl ?_
              refine rv_iload (q := 1192) E.x dL_law_1190 rfl rfl ?_
              refine rv_iload (q := 1194) E.x dL_law_1192 rfl rfl ?_
              refine rv_iconst (q := 1195) E.x dL_law_1194 rv_ki0 rfl ?_
              refine rv_iconst (q := 1196) E.x dL_law_1195 rv_ki0 rfl ?_
              refine rv_iconst (q := 1197) E.x dL_law_1196 rv_ki0 rfl ?_
              refine lk_b3 (fun r70 g72 M71 e69 => ?_)
              refine lk_csW (q := 1200) (v := r70) (σ' := (g72, M71, A)) E (wP_act E.2.2.1 e69) gPs_241 hP_act ⟨rfl, rfl⟩ ⟨Nat.le_of_ble_eq_true rfl, Nat.le_of_ble_eq_true rfl⟩ ⟨lk_le2 hy1 (Nat.le_of_ble_eq_true rfl) (Nat.le_of_ble_eq_true rfl), lk_le2 hy2 (Nat.le_of_ble_eq_true rfl) (Nat.le_of_ble_eq_true rfl)⟩ rfl rfl rfl (Nat.le_of_ble_eq_true rfl) dL_law_1197 rfl ?_
              refine rv_wd (y1 + 3) (y2 + 193) (Nat.le_of_eq (Nat.add_assoc _ _ _)) (Nat.le_of_eq (Nat.add_assoc _ _ _)) ?_
              refine rv_istore (q := 1202) (lv' := [_, _, _, _, _, _, _, _, _, _, _, _, _, _, _, _, _, _, _]) E.x dL_law_1200 (Nat.le_of_ble_eq_true rfl) rfl rfl rfl ?_
              refine rv_iload (q := 1204) E.x dL_law_1202 rfl rfl ?_
              refine rv_sipush (q := 1207) E.x dL_law_1204 rv_ksm1263 rfl ?_
              refine rv_icmp_eq (q := 1210) (tgt := 1260) E.x dL_law_1207 (by decide) rfl ?_ ?_
              · refine rv_iload (q := 1212) E.x dL_law_1210 rfl rfl ?_
                refine rv_if_le (q := 1215) (tgt := 1264) E.x dL_law_1212 (by decide) rfl ?_ ?_
                · refine rv_iload (q := 1217) E.x dL_law_1215 rfl rfl ?_
                  refine rv_aload_n (q := 1218) E.x dL_law_1217 rfl rfl ?_
                  refine rv_iconst (q := 1219) E.x dL_law_1218 rv_ki4 rfl ?_
                  refine rv_iload (q := 1221) E.x dL_law_1219 rfl rfl ?_
                  refine rv_imul (q := 1222) E.x dL_law_1221 rfl ?_
                  refine lk_ald (q := 1223) E 0 (by decide) dL_law_1222 rfl ?_
                  refine rv_icmp_eq (q := 1226) (tgt := 1241) E.x dL_law_1223 (by decide) rfl ?_ ?_
                  · refine rv_aload_n (q := 1227) E.x dL_law_1226 rfl rfl ?_
                    refine rv_iload (q := 1229) E.x dL_law_1227 rfl rfl ?_
                    refine lk_x1r (fun r74 e73 => ?_) (fun w75 e76 => rv_stuck)
                    refine lk_ci (q := 1232) (v := r74) (M1 := M71) E (fun u hI _ => c11_reviewers E.2.2.1.1 hI e73) gP_152 hX11_reviewers ⟨rfl, rfl⟩ ⟨Nat.le_of_ble_eq_true rfl, Nat.le_of_ble_eq_true rfl⟩ ⟨lk_le1 hy1 (Nat.le_of_ble_eq_true rfl) (Nat.le_of_ble_eq_true rfl), lk_le1 hy2 (Nat.le_of_ble_eq_true rfl) (Nat.le_of_ble_eq_true rfl)⟩ rfl rfl rfl (Nat.le_of_ble_eq_true rfl) dL_law_1229 rfl ?_
                    refine rv_iload (q := 1234) E.x dL_law_1232 rfl rfl ?_
                    refine rv_ishr (q := 1235) E.x dL_law_1234 rfl ?_
                    refine rv_iconst (q := 1236) E.x dL_law_1235 rv_ki1 rfl ?_
                    refine rv_iand (q := 1237) E.x dL_law_1236 rfl ?_
                    refine rv_iconst (q := 1238) E.x dL_law_1237 rv_ki1 rfl ?_
                    refine rv_icmp_ne (q := 1241) (tgt := 1264) E.x dL_law_1238 (by decide) rfl ?_ ?_
                    · refine rv_wk [true, true, true, true, true, false, true, true, true, false, true, true, true, true, false, false, false, false, false] ?_
                      exact bp_law_1241 E HL k69 y1 y2 hy1 hy2 h69 g72 M71 A x6 x7 x8 x10 x11 x12 x13
                    · refine rv_wk [true, true, true, true, true, false, true, true, true, false, false, true, true, true, false, false, false, false, false] ?_
                      refine rv_wd (y1 + 6) (y2 + 386) (Nat.add_le_add_left (Nat.le_of_ble_eq_true rfl) _) (Nat.add_le_add_left (Nat.le_of_ble_eq_true rfl) _) ?_
                      exact bp_law_1264 E HL k69 y1 y2 hy1 hy2 h69 g72 M71 A x6 x7 x8 x11 x12 x13
                  · refine rv_wk [true, true, true, true, true, false, true, true, true, false, true, true, true, true, false, false, false, false, false] ?_
                    exact bp_law_1241 E HL k69 y1 y2 hy1 hy2 h69 g72 M71 A x6 x7 x8 x10 x11 x12 x13
                · refine rv_wk [true, true, true, true, true, false, true, true, true, false, false, true, true, true, false, false, false, false, false] ?_
                  refine rv_wd (y1 + 6) (y2 + 386) (Nat.add_le_add_left (Nat.le_of_ble_eq_true rfl) _) (Nat.add_le_add_left (Nat.le_of_ble_eq_true rfl) _) ?_
                  exact bp_law_1264 E HL k69 y1 y2 hy1 hy2 h69 g72 M71 A x6 x7 x8 x11 x12 x13
              · refine rv_wk [true, true, true, true, true, false, true, true, true, false, false, true, true, true, false, false, false, false, false] ?_
                refine rv_wd (y1 + 6) (y2 + 386) (Nat.add_le_add_left (Nat.le_of_ble_eq_true rfl) _) (Nat.add_le_add_left (Nat.le_of_ble_eq_true rfl) _) ?_
                exact bp_law_1260 E HL k69 y1 y2 hy1 hy2 h69 g72 M71 A x6 x7 x8 x11 x12 x13
            · refine rv_iload (q := 1272) E.x dL_law_1270 rfl rfl ?_
              refine rv_bipush (q := 1274) E.x dL_law_1272 rv_kb27 rfl ?_
              refine rv_icmp_ge (q := 1277) (tgt := 1290) E.x dL_law_1274 (by decide) rfl ?_ ?_
              · refine rv_aload_n (q := 1278) E.x dL_law_1277 rfl rfl ?_
                refine rv_iload (q := 1280) E.x dL_law_1278 rfl rfl ?_
                refine rv_iload (q := 1282) E.x dL_law_1280 rfl rfl ?_
                refine lk_b3 (fun r78 g80 M79 e77 => ?_)
                refine lk_cs (q := 1285) (v := (rv_i r78)) (σ' := (g80, M79, A)) E (wP_isLanded E.2.2.1 e77) gPs_261 hP_isLanded ⟨rfl, rfl⟩ ⟨Nat.le_of_ble_eq_true rfl, Nat.le_of_ble_eq_true rfl⟩ ⟨lk_le2 hy1 (Nat.le_of_ble_eq_true rfl) (Nat.le_of_ble_eq_true rfl), lk_le2 hy2 (Nat.le_of_ble_eq_true rfl) (Nat.le_of_ble_eq_true rfl)⟩ rfl rfl rfl (Nat.le_of_ble_eq_true rfl) dL_law_1282 rfl ?_
                refine rv_wd (y1 + 4) (y2 + 199) (Nat.le_of_eq (Nat.add_assoc _ _ _)) (Nat.le_of_eq (Nat.add_assoc _ _ _)) ?_
                refine rv_istore (q := 1287) (lv' := [_, _, _, _, _, _, _, _, _, _, _, _, _, _, _, _, _, _, _]) E.x dL_law_1285 (Nat.le_of_ble_eq_true rfl) rfl rfl rfl ?_
                refine rv_goto (q := 1773) E.x dL_law_1287 (by decide) ?_
                refine rv_wk [true, true, true, true, true, true, true, true, true, false, false, true, true, true, false, false, false, false, false] ?_
                refine rv_wd (y1 + 6) (y2 + 386) (Nat.add_le_add_left (Nat.le_of_ble_eq_true rfl) _) (Nat.add_le_add_left (Nat.le_of_ble_eq_true rfl) _) ?_
                exact bp_law_1773 E HL k69 y1 y2 hy1 hy2 h69 g80 M79 A r78 x6 x7 x8 x11 x12 x13
              · refine rv_iload (q := 1292) E.x dL_law_1290 rfl rfl ?_
                refine rv_bipush (q := 1294) E.x dL_law_1292 rv_kb27 rfl ?_
                refine rv_icmp_ne (q := 1297) (tgt := 1385) E.x dL_law_1294 (by decide) rfl ?_ ?_
                · refine rv_iload (q := 1299) E.x dL_law_1297 rfl rfl ?_
                  refine rv_iconst (q := 1300) E.x dL_law_1299 rv_ki2 rfl ?_
                  refine rv_irem (q := 1301) E.x dL_law_1300 (by decide) rfl ?_
                  refine rv_if_ne (q := 1304) (tgt := 1336) E.x dL_law_1301 (by decide) rfl ?_ ?_
                  · refine rv_aload_n (q := 1305) E.x dL_law_1304 rfl rfl ?_
                    refine rv_bipush (q := 1307) E.x dL_law_1305 rv_kb19 rfl ?_
                    refine rv_iload (q := 1309) E.x dL_law_1307 rfl rfl ?_
                    refine rv_iconst (q := 1310) E.x dL_law_1309 rv_ki2 rfl ?_
                    refine rv_idiv (q := 1311) E.x dL_law_1310 (by decide) rfl ?_
                    refine rv_iconst (q := 1312) E.x dL_law_1311 rv_ki2 rfl ?_
                    refine rv_irem (q := 1313) E.x dL_law_1312 (by decide) rfl ?_
                    refine rv_iload (q := 1315) E.x dL_law_1313 rfl rfl ?_
                    refine rv_iconst (q := 1316) E.x dL_law_1315 rv_ki4 rfl ?_
                    refine rv_idiv (q := 1317) E.x dL_law_1316 (by decide) rfl ?_
                    refine rv_iconst (q := 1318) E.x dL_law_1317 rv_ki3 rfl ?_
                    refine rv_irem (q := 1319) E.x dL_law_1318 (by decide) rfl ?_
                    refine rv_iconst (q := 1320) E.x dL_law_1319 rv_ki0 rfl ?_
                    refine rv_iconst (q := 1321) E.x dL_law_1320 rv_ki0 rfl ?_
                    refine rv_iconst (q := 1322) E.x dL_law_1321 rv_ki0 rfl ?_
                    refine lk_b3 (fun r82 g84 M83 e81 => ?_)
                    refine lk_csW (q := 1325) (v := r82) (σ' := (g84, M83, A)) E (wP_act E.2.2.1 e81) gPs_241 hP_act ⟨rfl, rfl⟩ ⟨Nat.le_of_ble_eq_true rfl, Nat.le_of_ble_eq_true rfl⟩ ⟨lk_le2 hy1 (Nat.le_of_ble_eq_true rfl) (Nat.le_of_ble_eq_true rfl), lk_le2 hy2 (Nat.le_of_ble_eq_true rfl) (Nat.le_of_ble_eq_true rfl)⟩ rfl rfl rfl (Nat.le_of_ble_eq_true rfl) dL_law_1322 rfl ?_
                    refine rv_wd (y1 + 3) (y2 + 193) (Nat.le_of_eq (Nat.add_assoc _ _ _)) (Nat.le_of_eq (Nat.add_assoc _ _ _)) ?_
                    refine rv_if_lt (q := 1328) (tgt := 1332) E.x dL_law_1325 (by decide) rfl ?_ ?_
                    · refine rv_iconst (q := 1329) E.x dL_law_1328 rv_ki1 rfl ?_
                      refine rv_goto (q := 1380) E.x dL_law_1329 (by decide) ?_
                      refine rv_wk [true, true, true, true, true, false, true, true, true, false, false, true, true, true, false, false, false, false, false] ?_
                      exact bp_law_1380 E HL k69 y1 y2 hy1 hy2 h69 g84 M83 A x6 x7 x8 x11 x12 x13 true
                    · refine rv_iconst (q := 1333) E.x dL_law_1332 rv_ki0 rfl ?_
                      refine rv_goto (q := 1380) E.x dL_law_1333 (by decide) ?_
                      refine rv_wk [true, true, true, true, true, false, true, true, true, false, false, true, true, true, false, false, false, false, false] ?_
                      exact bp_law_1380 E HL k69 y1 y2 hy1 hy2 h69 g84 M83 A x6 x7 x8 x11 x12 x13 false
                  · refine rv_aload_n (q := 1337) E.x dL_law_1336 rfl rfl ?_
                    refine rv_bipush (q := 1339) E.x dL_law_1337 rv_kb14 rfl ?_
                    refine rv_iload (q := 1341) E.x dL_law_1339 rfl rfl ?_
                    refine rv_iconst (q := 1342) E.x dL_law_1341 rv_ki2 rfl ?_
                    refine rv_idiv (q := 1343) E.x dL_law_1342 (by decide) rfl ?_
                    refine rv_iconst (q := 1344) E.x dL_law_1343 rv_ki2 rfl ?_
                    refine rv_irem (q := 1345) E.x dL_law_1344 (by decide) rfl ?_
                    refine rv_iload (q := 1347) E.x dL_law_1345 rfl rfl ?_
                    refine rv_iconst (q := 1348) E.x dL_law_1347 rv_ki4 rfl ?_
                    refine rv_idiv (q := 1349) E.x dL_law_1348 (by decide) rfl ?_
                    refine rv_bipush (q := 1351) E.x dL_law_1349 rv_kb7 rfl ?_
                    refine rv_irem (q := 1352) E.x dL_law_1351 (by decide) rfl ?_
                    refine rv_iload (q := 1354) E.x dL_law_1352 rfl rfl ?_
                    refine rv_bipush (q := 1356) E.x dL_law_1354 rv_kb28 rfl ?_
                    refine rv_idiv (q := 1357) E.x dL_law_1356 (by decide) rfl ?_
                    refine rv_bipush (q := 1359) E.x dL_law_1357 rv_kb64 rfl ?_
                    refine rv_irem (q := 1360) E.x dL_law_1359 (by decide) rfl ?_
                    refine rv_iload (q := 1362) E.x dL_law_1360 rfl rfl ?_
                    refine rv_sipush (q := 1365) E.x dL_law_1362 rv_ks1800 rfl ?_
                    refine rv_idiv (q := 1366) E.x dL_law_1365 (by decide) rfl ?_
                    refine rv_iconst (q := 1367) E.x dL_law_1366 rv_ki2 rfl ?_
                    refine rv_irem (q := 1368) E.x dL_law_1367 (by decide) rfl ?_
                    refine rv_iconst (q := 1369) E.x dL_law_1368 rv_ki0 rfl ?_
                    refine lk_b3 (fun r86 g88 M87 e85 => ?_)
                    refine lk_csW (q := 1372) (v := r86) (σ' := (g88, M87, A)) E (wP_act E.2.2.1 e85) gPs_241 hP_act ⟨rfl, rfl⟩ ⟨Nat.le_of_ble_eq_true rfl, Nat.le_of_ble_eq_true rfl⟩ ⟨lk_le2 hy1 (Nat.le_of_ble_eq_true rfl) (Nat.le_of_ble_eq_true rfl), lk_le2 hy2 (Nat.le_of_ble_eq_true rfl) (Nat.le_of_ble_eq_true rfl)⟩ rfl rfl rfl (Nat.le_of_ble_eq_true rfl) dL_law_1369 rfl ?_
                    refine rv_wd (y1 + 3) (y2 + 193) (Nat.le_of_eq (Nat.add_assoc _ _ _)) (Nat.le_of_eq (Nat.add_assoc _ _ _)) ?_
                    refine rv_if_lt (q := 1375) (tgt := 1379) E.x dL_law_1372 (by decide) rfl ?_ ?_
                    · refine rv_iconst (q := 1376) E.x dL_law_1375 rv_ki1 rfl ?_
                      refine rv_goto (q := 1380) E.x dL_law_1376 (by decide) ?_
                      refine rv_wk [true, true, true, true, true, false, true, true, true, false, false, true, true, true, false, false, false, false, false] ?_
                      exact bp_law_1380 E HL k69 y1 y2 hy1 hy2 h69 g88 M87 A x6 x7 x8 x11 x12 x13 true
                    · refine rv_iconst (q := 1380) E.x dL_law_1379 rv_ki0 rfl ?_
                      refine rv_wk [true, true, true, true, true, false, true, true, true, false, false, true, true, true, false, false, false, false, false] ?_
                      exact bp_law_1380 E HL k69 y1 y2 hy1 hy2 h69 g88 M87 A x6 x7 x8 x11 x12 x13 false
                · refine rv_iload (q := 1387) E.x dL_law_1385 rfl rfl ?_
                  refine rv_bipush (q := 1389) E.x dL_law_1387 rv_kb28 rfl ?_
                  refine rv_icmp_ne (q := 1392) (tgt := 1496) E.x dL_law_1389 (by decide) rfl ?_ ?_
                  · refine rv_aload_n (q := 1393) E.x dL_law_1392 rfl rfl ?_
                    refine rv_iload (q := 1395) E.x dL_law_1393 rfl rfl ?_
                    refine lk_x1r (fun r90 e89 => ?_) (fun w91 e92 => rv_stuck)
                    refine lk_ci (q := 1398) (v := r90) (M1 := M) E (fun u hI _ => c11_stateOf E.2.2.1.1 hI e89) gP_124 hX11_stateOf ⟨rfl, rfl⟩ ⟨Nat.le_of_ble_eq_true rfl, Nat.le_of_ble_eq_true rfl⟩ ⟨lk_le1 hy1 (Nat.le_of_ble_eq_true rfl) (Nat.le_of_ble_eq_true rfl), lk_le1 hy2 (Nat.le_of_ble_eq_true rfl) (Nat.le_of_ble_eq_true rfl)⟩ rfl rfl rfl (Nat.le_of_ble_eq_true rfl) dL_law_1395 rfl ?_
                    refine rv_if_ne (q := 1401) (tgt := 1405) E.x dL_law_1398 (by decide) rfl ?_ ?_
                    · refine rv_iconst (q := 1402) E.x dL_law_1401 rv_ki1 rfl ?_
                      refine rv_goto (q := 1406) E.x dL_law_1402 (by decide) ?_
                      refine rv_wk [true, true, true, true, true, false, true, true, true, false, false, true, true, true, false, false, false, false, false] ?_
                      exact bp_law_1406 E HL k69 y1 y2 hy1 hy2 h69 gh M A x6 x7 x8 x11 x12 x13 true
                    · refine rv_iconst (q := 1406) E.x dL_law_1405 rv_ki0 rfl ?_
                      refine rv_wk [true, true, true, true, true, false, true, true, true, false, false, true, true, true, false, false, false, false, false] ?_
                      exact bp_law_1406 E HL k69 y1 y2 hy1 hy2 h69 gh M A x6 x7 x8 x11 x12 x13 false
                  · refine rv_iload (q := 1498) E.x dL_law_1496 rfl rfl ?_
                    refine rv_bipush (q := 1500) E.x dL_law_1498 rv_kb29 rfl ?_
                    refine rv_icmp_ne (q := 1503) (tgt := 1565) E.x dL_law_1500 (by decide) rfl ?_ ?_
                    · refine rv_aload_n (q := 1504) E.x dL_law_1503 rfl rfl ?_
                      refine rv_iconst (q := 1505) E.x dL_law_1504 rv_ki4 rfl ?_
                      refine rv_iload (q := 1507) E.x dL_law_1505 rfl rfl ?_
                      refine rv_imul (q := 1508) E.x dL_law_1507 rfl ?_
                      refine rv_iconst (q := 1509) E.x dL_law_1508 rv_ki2 rfl ?_
                      refine rv_iadd (q := 1510) E.x dL_law_1509 rfl ?_
                      refine lk_ald (q := 1511) E 0 (by decide) dL_law_1510 rfl ?_
                      refine rv_iconst (q := 1512) E.x dL_law_1511 rv_ki1 rfl ?_
                      refine rv_isub (q := 1513) E.x dL_law_1512 rfl ?_
                      refine rv_istore (q := 1515) (lv' := [_, _, _, _, _, _, _, _, _, _, _, _, _, _, _, _, _, _, _]) E.x dL_law_1513 (Nat.le_of_ble_eq_true rfl) rfl rfl rfl ?_
                      refine rv_aload_n (q := 1516) E.x dL_law_1515 rfl rfl ?_
                      refine rv_iconst (q := 1517) E.x dL_law_1516 rv_ki4 rfl ?_
                      refine rv_iload (q := 1519) E.x dL_law_1517 rfl rfl ?_
                      refine rv_imul (q := 1520) E.x dL_law_1519 rfl ?_
                      refine rv_iconst (q := 1521) E.x dL_law_1520 rv_ki2 rfl ?_
                      refine rv_iadd (q := 1522) E.x dL_law_1521 rfl ?_
                      refine rv_iload (q := 1524) E.x dL_law_1522 rfl rfl ?_
                      refine rv_bipush (q := 1526) E.x dL_law_1524 rv_kb40 rfl ?_
                      refine rv_idiv (q := 1527) E.x dL_law_1526 (by decide) rfl ?_
                      refine rv_iconst (q := 1528) E.x dL_law_1527 rv_ki3 rfl ?_
                      refine rv_irem (q := 1529) E.x dL_law_1528 (by decide) rfl ?_
                      refine lk_ast (q := 1530) E 0 (by decide) dL_law_1529 rfl ?_
                      refine lk_lt (fun A93 => ?_)
                      refine rv_aload_n (q := 1531) E.x dL_law_1530 rfl rfl ?_
                      refine rv_bipush (q := 1533) E.x dL_law_1531 rv_kb10 rfl ?_
                      refine rv_iload (q := 1535) E.x dL_law_1533 rfl rfl ?_
                      refine rv_iload (q := 1537) E.x dL_law_1535 rfl rfl ?_
                      refine rv_bipush (q := 1539) E.x dL_law_1537 rv_kb40 rfl ?_
                      refine rv_idiv (q := 1540) E.x dL_law_1539 (by decide) rfl ?_
                      refine rv_iconst (q := 1541) E.x dL_law_1540 rv_ki3 rfl ?_
                      refine rv_irem (q := 1542) E.x dL_law_1541 (by decide) rfl ?_
                      refine rv_iconst (q := 1543) E.x dL_law_1542 rv_ki1 rfl ?_
                      refine rv_isub (q := 1544) E.x dL_law_1543 rfl ?_
                      refine rv_iconst (q := 1545) E.x dL_law_1544 rv_ki0 rfl ?_
                      refine rv_iconst (q := 1546) E.x dL_law_1545 rv_ki0 rfl ?_
                      refine rv_iconst (q := 1547) E.x dL_law_1546 rv_ki0 rfl ?_
                      refine lk_b3 (fun r95 g97 M96 e94 => ?_)
                      refine lk_csW (q := 1550) (v := r95) (σ' := (g97, M96, A93)) E (wP_act E.2.2.1 e94) gPs_241 hP_act ⟨rfl, rfl⟩ ⟨Nat.le_of_ble_eq_true rfl, Nat.le_of_ble_eq_true rfl⟩ ⟨lk_le2 hy1 (Nat.le_of_ble_eq_true rfl) (Nat.le_of_ble_eq_true rfl), lk_le2 hy2 (Nat.le_of_ble_eq_true rfl) (Nat.le_of_ble_eq_true rfl)⟩ rfl rfl rfl (Nat.le_of_ble_eq_true rfl) dL_law_1547 rfl ?_
                      refine rv_wd (y1 + 3) (y2 + 193) (Nat.le_of_eq (Nat.add_assoc _ _ _)) (Nat.le_of_eq (Nat.add_assoc _ _ _)) ?_
                      refine rv_iload (q := 1552) E.x dL_law_1550 rfl rfl ?_
                      refine rv_icmp_ne (q := 1555) (tgt := 1559) E.x dL_law_1552 (by decide) rfl ?_ ?_
                      · refine rv_iconst (q := 1556) E.x dL_law_1555 rv_ki1 rfl ?_
                        refine rv_goto (q := 1560) E.x dL_law_1556 (by decide) ?_
                        refine rv_wk [true, true, true, true, true, false, true, true, true, false, false, true, true, true, false, false, false, false, false] ?_
                        exact bp_law_1560 E HL k69 y1 y2 hy1 hy2 h69 g97 M96 A93 x6 x7 x8 x11 x12 x13 true
                      · refine rv_iconst (q := 1560) E.x dL_law_1559 rv_ki0 rfl ?_
                        refine rv_wk [true, true, true, true, true, false, true, true, true, false, false, true, true, true, false, false, false, false, false] ?_
                        exact bp_law_1560 E HL k69 y1 y2 hy1 hy2 h69 g97 M96 A93 x6 x7 x8 x11 x12 x13 false
                    · refine rv_iload (q := 1567) E.x dL_law_1565 rfl rfl ?_
                      refine rv_bipush (q := 1569) E.x dL_law_1567 rv_kb30 rfl ?_
                      refine rv_icmp_ne (q := 1572) (tgt := 1684) E.x dL_law_1569 (by decide) rfl ?_ ?_
                      · refine rv_aload_n (q := 1573) E.x dL_law_1572 rfl rfl ?_
                        refine rv_iload (q := 1575) E.x dL_law_1573 rfl rfl ?_
                        refine lk_x1r (fun r99 e98 => ?_) (fun w100 e101 => rv_stuck)
                        refine lk_ci (q := 1578) (v := r99) (M1 := M) E (fun u hI _ => c11_stateOf E.2.2.1.1 hI e98) gP_124 hX11_stateOf ⟨rfl, rfl⟩ ⟨Nat.le_of_ble_eq_true rfl, Nat.le_of_ble_eq_true rfl⟩ ⟨lk_le1 hy1 (Nat.le_of_ble_eq_true rfl) (Nat.le_of_ble_eq_true rfl), lk_le1 hy2 (Nat.le_of_ble_eq_true rfl) (Nat.le_of_ble_eq_true rfl)⟩ rfl rfl rfl (Nat.le_of_ble_eq_true rfl) dL_law_1575 rfl ?_
                        refine rv_istore (q := 1580) (lv' := [_, _, _, _, _, _, _, _, _, _, _, _, _, _, _, _, _, _, _]) E.x dL_law_1578 (Nat.le_of_ble_eq_true rfl) rfl rfl rfl ?_
                        refine rv_iload (q := 1582) E.x dL_law_1580 rfl rfl ?_
                        refine rv_iconst (q := 1583) E.x dL_law_1582 rv_ki3 rfl ?_
                        refine rv_irem (q := 1584) E.x dL_law_1583 (by decide) rfl ?_
                        refine rv_if_le (q := 1587) (tgt := 1603) E.x dL_law_1584 (by decide) rfl ?_ ?_
                        · refine rv_aload_n (q := 1588) E.x dL_law_1587 rfl rfl ?_
                          refine rv_bipush (q := 1590) E.x dL_law_1588 rv_kb7 rfl ?_
                          refine rv_iload (q := 1592) E.x dL_law_1590 rfl rfl ?_
                          refine rv_iload (q := 1594) E.x dL_law_1592 rfl rfl ?_
                          refine rv_iconst (q := 1595) E.x dL_law_1594 rv_ki0 rfl ?_
                          refine rv_iconst (q := 1596) E.x dL_law_1595 rv_ki0 rfl ?_
                          refine rv_iconst (q := 1597) E.x dL_law_1596 rv_ki0 rfl ?_
                          refine lk_b3 (fun r103 g105 M104 e102 => ?_)
                          refine lk_csW (q := 1600) (v := r103) (σ' := (g105, M104, A)) E (wP_act E.2.2.1 e102) gPs_241 hP_act ⟨rfl, rfl⟩ ⟨Nat.le_of_ble_eq_true rfl, Nat.le_of_ble_eq_true rfl⟩ ⟨lk_le2 hy1 (Nat.le_of_ble_eq_true rfl) (Nat.le_of_ble_eq_true rfl), lk_le2 hy2 (Nat.le_of_ble_eq_true rfl) (Nat.le_of_ble_eq_true rfl)⟩ rfl rfl rfl (Nat.le_of_ble_eq_true rfl) dL_law_1597 rfl ?_
                          refine rv_wd (y1 + 3) (y2 + 193) (Nat.le_of_eq (Nat.add_assoc _ _ _)) (Nat.le_of_eq (Nat.add_assoc _ _ _)) ?_
                          refine rv_goto (q := 1615) E.x dL_law_1600 (by decide) ?_
                          refine rv_wk [true, true, true, true, true, false, true, true, true, false, false, true, true, true, false, true, false, false, false] ?_
                          exact bp_law_1615 E HL k69 y1 y2 hy1 hy2 h69 g105 M104 A x6 x7 x8 x11 x12 x13 r99 r103
                        · refine rv_aload_n (q := 1604) E.x dL_law_1603 rfl rfl ?_
                          refine rv_bipush (q := 1606) E.x dL_law_1604 rv_kb8 rfl ?_
                          refine rv_iload (q := 1608) E.x dL_law_1606 rfl rfl ?_
                          refine rv_iconst (q := 1609) E.x dL_law_1608 rv_ki0 rfl ?_
                          refine rv_iconst (q := 1610) E.x dL_law_1609 rv_ki0 rfl ?_
                          refine rv_iconst (q := 1611) E.x dL_law_1610 rv_ki0 rfl ?_
                          refine rv_iconst (q := 1612) E.x dL_law_1611 rv_ki0 rfl ?_
                          refine lk_b3 (fun r107 g109 M108 e106 => ?_)
                          refine lk_csW (q := 1615) (v := r107) (σ' := (g109, M108, A)) E (wP_act E.2.2.1 e106) gPs_241 hP_act ⟨rfl, rfl⟩ ⟨Nat.le_of_ble_eq_true rfl, Nat.le_of_ble_eq_true rfl⟩ ⟨lk_le2 hy1 (Nat.le_of_ble_eq_true rfl) (Nat.le_of_ble_eq_true rfl), lk_le2 hy2 (Nat.le_of_ble_eq_true rfl) (Nat.le_of_ble_eq_true rfl)⟩ rfl rfl rfl (Nat.le_of_ble_eq_true rfl) dL_law_1612 rfl ?_
                          refine rv_wd (y1 + 3) (y2 + 193) (Nat.le_of_eq (Nat.add_assoc _ _ _)) (Nat.le_of_eq (Nat.add_assoc _ _ _)) ?_
                          refine rv_wk [true, true, true, true, true, false, true, true, true, false, false, true, true, true, false, true, false, false, false] ?_
                          exact bp_law_1615 E HL k69 y1 y2 hy1 hy2 h69 g109 M108 A x6 x7 x8 x11 x12 x13 r99 r107
                      · refine rv_iconst (q := 1685) E.x dL_law_1684 rv_ki1 rfl ?_
                        refine rv_iload (q := 1687) E.x dL_law_1685 rfl rfl ?_
                        refine rv_iconst (q := 1688) E.x dL_law_1687 rv_ki4 rfl ?_
                        refine rv_idiv (q := 1689) E.x dL_law_1688 (by decide) rfl ?_
                        refine rv_bipush (q := 1691) E.x dL_law_1689 rv_kb20 rfl ?_
                        refine rv_irem (q := 1692) E.x dL_law_1691 (by decide) rfl ?_
                        refine rv_iadd (q := 1693) E.x dL_law_1692 rfl ?_
                        refine rv_istore (q := 1695) (lv' := [_, _, _, _, _, _, _, _, _, _, _, _, _, _, _, _, _, _, _]) E.x dL_law_1693 (Nat.le_of_ble_eq_true rfl) rfl rfl rfl ?_
                        refine rv_aload_n (q := 1696) E.x dL_law_1695 rfl rfl ?_
                        refine rv_b1 (fun r111 e110 => ?_)
                        refine lk_cn (q := 1699) (v := r111) (M1 := M) E (fun u hI => c11_day hI e110) gP_192 hX11_day ⟨rfl, rfl⟩ ⟨Nat.le_of_ble_eq_true rfl, Nat.le_of_ble_eq_true rfl⟩ ⟨lk_le1 hy1 (Nat.le_of_ble_eq_true rfl) (Nat.le_of_ble_eq_true rfl), lk_le1 hy2 (Nat.le_of_ble_eq_true rfl) (Nat.le_of_ble_eq_true rfl)⟩ rfl rfl rfl (Nat.le_of_ble_eq_true rfl) dL_law_1696 rfl ?_
                        refine rv_istore (q := 1701) (lv' := [_, _, _, _, _, _, _, _, _, _, _, _, _, _, _, _, _, _, _]) E.x dL_law_1699 (Nat.le_of_ble_eq_true rfl) rfl rfl rfl ?_
                        refine rv_aload_n (q := 1702) E.x dL_law_1701 rfl rfl ?_
                        refine rv_bipush (q := 1704) E.x dL_law_1702 rv_kb22 rfl ?_
                        refine rv_iload (q := 1706) E.x dL_law_1704 rfl rfl ?_
                        refine rv_iconst (q := 1707) E.x dL_law_1706 rv_ki0 rfl ?_
                        refine rv_iconst (q := 1708) E.x dL_law_1707 rv_ki0 rfl ?_
                        refine rv_iconst (q := 1709) E.x dL_law_1708 rv_ki0 rfl ?_
                        refine rv_iconst (q := 1710) E.x dL_law_1709 rv_ki0 rfl ?_
                        refine lk_b3 (fun r113 g115 M114 e112 => ?_)
                        refine lk_csW (q := 1713) (v := r113) (σ' := (g115, M114, A)) E (wP_act E.2.2.1 e112) gPs_241 hP_act ⟨rfl, rfl⟩ ⟨Nat.le_of_ble_eq_true rfl, Nat.le_of_ble_eq_true rfl⟩ ⟨lk_le2 hy1 (Nat.le_of_ble_eq_true rfl) (Nat.le_of_ble_eq_true rfl), lk_le2 hy2 (Nat.le_of_ble_eq_true rfl) (Nat.le_of_ble_eq_true rfl)⟩ rfl rfl rfl (Nat.le_of_ble_eq_true rfl) dL_law_1710 rfl ?_
                        refine rv_wd (y1 + 3) (y2 + 193) (Nat.le_of_eq (Nat.add_assoc _ _ _)) (Nat.le_of_eq (Nat.add_assoc _ _ _)) ?_
                        refine rv_istore (q := 1715) (lv' := [_, _, _, _, _, _, _, _, _, _, _, _, _, _, _, _, _, _, _]) E.x dL_law_1713 (Nat.le_of_ble_eq_true rfl) rfl rfl rfl ?_
                        refine rv_iload (q := 1717) E.x dL_law_1715 rfl rfl ?_
                        refine rv_if_lt (q := 1720) (tgt := 1770) E.x dL_law_1717 (by decide) rfl ?_ ?_
                        · refine rv_aload_n (q := 1721) E.x dL_law_1720 rfl rfl ?_
                          refine rv_b1 (fun r117 e116 => ?_)
                          refine lk_cn (q := 1724) (v := r117) (M1 := M114) E (fun u hI => c11_day hI e116) gP_192 hX11_day ⟨rfl, rfl⟩ ⟨Nat.le_of_ble_eq_true rfl, Nat.le_of_ble_eq_true rfl⟩ ⟨lk_le1 hy1 (Nat.le_of_ble_eq_true rfl) (Nat.le_of_ble_eq_true rfl), lk_le1 hy2 (Nat.le_of_ble_eq_true rfl) (Nat.le_of_ble_eq_true rfl)⟩ rfl rfl rfl (Nat.le_of_ble_eq_true rfl) dL_law_1721 rfl ?_
                          refine rv_iload (q := 1726) E.x dL_law_1724 rfl rfl ?_
                          refine rv_iload (q := 1728) E.x dL_law_1726 rfl rfl ?_
                          refine rv_iadd (q := 1729) E.x dL_law_1728 rfl ?_
                          refine rv_icmp_ne (q := 1732) (tgt := 1770) E.x dL_law_1729 (by decide) rfl ?_ ?_
                          · refine rv_aload_n (q := 1733) E.x dL_law_1732 rfl rfl ?_
                            refine rv_bipush (q := 1735) E.x dL_law_1733 rv_kb21 rfl ?_
                            refine rv_iload (q := 1737) E.x dL_law_1735 rfl rfl ?_
                            refine rv_iload (q := 1739) E.x dL_law_1737 rfl rfl ?_
                            refine rv_iconst (q := 1740) E.x dL_law_1739 rv_ki0 rfl ?_
                            refine rv_iconst (q := 1741) E.x dL_law_1740 rv_ki0 rfl ?_
                            refine rv_iconst (q := 1742) E.x dL_law_1741 rv_ki0 rfl ?_
                            refine lk_b3 (fun r119 g121 M120 e118 => ?_)
                            refine lk_csW (q := 1745) (v := r119) (σ' := (g121, M120, A)) E (wP_act E.2.2.1 e118) gPs_241 hP_act ⟨rfl, rfl⟩ ⟨Nat.le_of_ble_eq_true rfl, Nat.le_of_ble_eq_true rfl⟩ ⟨lk_le2 hy1 (Nat.le_of_ble_eq_true rfl) (Nat.le_of_ble_eq_true rfl), lk_le2 hy2 (Nat.le_of_ble_eq_true rfl) (Nat.le_of_ble_eq_true rfl)⟩ rfl rfl rfl (Nat.le_of_ble_eq_true rfl) dL_law_1742 rfl ?_
                            refine rv_wd (y1 + 6) (y2 + 386) (Nat.le_of_eq (Nat.add_assoc _ _ _)) (Nat.le_of_eq (Nat.add_assoc _ _ _)) ?_
                            refine rv_sipush (q := 1748) E.x dL_law_1745 rv_ksm1263 rfl ?_
                            refine rv_icmp_eq (q := 1751) (tgt := 1766) E.x dL_law_1748 (by decide) rfl ?_ ?_
                            · refine rv_aload_n (q := 1752) E.x dL_law_1751 rfl rfl ?_
                              refine rv_iload (q := 1754) E.x dL_law_1752 rfl rfl ?_
                              refine lk_x1r (fun r123 e122 => ?_) (fun w124 e125 => rv_stuck)
                              refine lk_ci (q := 1757) (v := r123) (M1 := M120) E (fun u hI _ => c11_reviewers E.2.2.1.1 hI e122) gP_152 hX11_reviewers ⟨rfl, rfl⟩ ⟨Nat.le_of_ble_eq_true rfl, Nat.le_of_ble_eq_true rfl⟩ ⟨lk_le1 hy1 (Nat.le_of_ble_eq_true rfl) (Nat.le_of_ble_eq_true rfl), lk_le1 hy2 (Nat.le_of_ble_eq_true rfl) (Nat.le_of_ble_eq_true rfl)⟩ rfl rfl rfl (Nat.le_of_ble_eq_true rfl) dL_law_1754 rfl ?_
                              refine rv_iload (q := 1759) E.x dL_law_1757 rfl rfl ?_
                              refine rv_ishr (q := 1760) E.x dL_law_1759 rfl ?_
                              refine rv_iconst (q := 1761) E.x dL_law_1760 rv_ki1 rfl ?_
                              refine rv_iand (q := 1762) E.x dL_law_1761 rfl ?_
                              refine rv_iconst (q := 1763) E.x dL_law_1762 rv_ki1 rfl ?_
                              refine rv_icmp_ne (q := 1766) (tgt := 1770) E.x dL_law_1763 (by decide) rfl ?_ ?_
                              · refine rv_wk [true, true, true, true, true, false, true, true, true, false, false, true, true, true, false, false, false, false, false] ?_
                                exact bp_law_1766 E HL k69 y1 y2 hy1 hy2 h69 g121 M120 A x6 x7 x8 x11 x12 x13
                              · refine rv_wk [true, true, true, true, true, false, true, true, true, false, false, true, true, true, false, false, false, false, false] ?_
                                exact bp_law_1770 E HL k69 y1 y2 hy1 hy2 h69 g121 M120 A x6 x7 x8 x11 x12 x13
                            · refine rv_wk [true, true, true, true, true, false, true, true, true, false, false, true, true, true, false, false, false, false, false] ?_
                              exact bp_law_1766 E HL k69 y1 y2 hy1 hy2 h69 g121 M120 A x6 x7 x8 x11 x12 x13
                          · refine rv_wk [true, true, true, true, true, false, true, true, true, false, false, true, true, true, false, false, false, false, false] ?_
                            refine rv_wd (y1 + 6) (y2 + 386) (Nat.add_le_add_left (Nat.le_of_ble_eq_true rfl) _) (Nat.add_le_add_left (Nat.le_of_ble_eq_true rfl) _) ?_
                            exact bp_law_1770 E HL k69 y1 y2 hy1 hy2 h69 g115 M114 A x6 x7 x8 x11 x12 x13
                        · refine rv_wk [true, true, true, true, true, false, true, true, true, false, false, true, true, true, false, false, false, false, false] ?_
                          refine rv_wd (y1 + 6) (y2 + 386) (Nat.add_le_add_left (Nat.le_of_ble_eq_true rfl) _) (Nat.add_le_add_left (Nat.le_of_ble_eq_true rfl) _) ?_
                          exact bp_law_1770 E HL k69 y1 y2 hy1 hy2 h69 g115 M114 A x6 x7 x8 x11 x12 x13
set_option maxRecDepth 100000 in
theorem bp_law_477 {p : Program} {l : Launch} {e : Env} {s : State} {m : MethodId} {args : Array Value} {below : List Frame} {meth : Method} {c : Code} {D : va_G} {cI cZ cO : ClassId} {mi de z0 o b L : Nat} {k : Nat → Nat} {xs : Nat → Int32} (E : lk_E D cI cZ cO mi de z0 b L k xs cL_law 19 (some .boolean) p l s m args meth c) (HL : s.heap.size ≤ z0 ∧ args = #[Value.ref b])  (k69 : rC_gh → rv_Mem → rv_Mem → Bool → Int32 → Option (Bool × rC_gh × rv_Mem × rv_Mem)) (y1 y2 : Nat) (hy1 : y1 + 518 ≤ 48223) (hy2 : y2 + 24782 ≤ 2312135) (h69 : ∀ (gh : rC_gh) (M : rv_Mem) (A : rv_Mem) (x5 : Bool) (x6 : Int32), rv_M (lk_G D cI cZ cO de z0 o k) (fun q => z0 ≤ q) p l e room_1 s m args below meth c (y1 + 518) (y2 + 24782) (lk_qL below args s) (k69 gh M A x5 x6) 69 [some (.ref b), some (.ref o), some (.ref (k 0)), some (.ref (k 1)), some (.ref (k 2)), some (.int (rv_i x5)), some (.int x6), none, none, none, none, none, none, none, none, none, none, none, none] [] (gh, M, A)) : ∀ (gh : rC_gh) (M : rv_Mem) (A : rv_Mem) (x6 : Int32) (x7 : Int32) (x8 : Int32) (x9 : Int32) (x10 : Int32) (x11 : Int32) (x12 : Int32) (x13 : Int32), rv_M (lk_G D cI cZ cO de z0 o k) (fun q => z0 ≤ q) p l e room_1 s m args below meth c (y1 + 0) (y2 + 0) (lk_qL below args s) (gp_law_477 L xs k69 gh M A x6 x7 x8 x9 x10 x11 x12 x13) 477 [some (.ref b), some (.ref o), some (.ref (k 0)), some (.ref (k 1)), some (.ref (k 2)), none, some (.int x6), some (.int x7), some (.int x8), some (.int x9), some (.int x10), some (.int x11), some (.int x12), some (.int x13), none, none, none, none, none] [] (gh, M, A) := by
  intro gh M A x6 x7 x8 x9 x10 x11 x12 x13
  unfold gp_law_477
  refine rv_aload_n (q := 478) E.x dL_law_477 rfl rfl ?_
  refine rv_b1 (fun r2 e1 => ?_)
  refine lk_cn (q := 481) (v := r2) (M1 := M) E (fun u hI => c11_changes hI e1) gP_187 hX11_changes ⟨rfl, rfl⟩ ⟨Nat.le_of_ble_eq_true rfl, Nat.le_of_ble_eq_true rfl⟩ ⟨lk_le1 hy1 (Nat.le_of_ble_eq_true rfl) (Nat.le_of_ble_eq_true rfl), lk_le1 hy2 (Nat.le_of_ble_eq_true rfl) (Nat.le_of_ble_eq_true rfl)⟩ rfl rfl rfl (Nat.le_of_ble_eq_true rfl) dL_law_478 rfl ?_
  refine rv_bipush (q := 483) E.x dL_law_481 rv_kb8 rfl ?_
  refine rv_icmp_ge (q := 486) (tgt := 572) E.x dL_law_483 (by decide) rfl ?_ ?_
  · refine rv_aload_n (q := 487) E.x dL_law_486 rfl rfl ?_
    refine rv_b1 (fun r4 e3 => ?_)
    refine lk_cn (q := 490) (v := r4) (M1 := M) E (fun u hI => c11_changes hI e3) gP_187 hX11_changes ⟨rfl, rfl⟩ ⟨Nat.le_of_ble_eq_true rfl, Nat.le_of_ble_eq_true rfl⟩ ⟨lk_le1 hy1 (Nat.le_of_ble_eq_true rfl) (Nat.le_of_ble_eq_true rfl), lk_le1 hy2 (Nat.le_of_ble_eq_true rfl) (Nat.le_of_ble_eq_true rfl)⟩ rfl rfl rfl (Nat.le_of_ble_eq_true rfl) dL_law_487 rfl ?_
    refine rv_istore (q := 492) (lv' := [_, _, _, _, _, _, _, _, _, _, _, _, _, _, _, _, _, _, _]) E.x dL_law_490 (Nat.le_of_ble_eq_true rfl) rfl rfl rfl ?_
    refine rv_aload_n (q := 493) E.x dL_law_492 rfl rfl ?_
    refine rv_iconst (q := 494) E.x dL_law_493 rv_ki4 rfl ?_
    refine rv_iload (q := 496) E.x dL_law_494 rfl rfl ?_
    refine rv_imul (q := 497) E.x dL_law_496 rfl ?_
    refine rv_iload (q := 499) E.x dL_law_497 rfl rfl ?_
    refine lk_ast (q := 500) E 0 (by decide) dL_law_499 rfl ?_
    refine lk_lt (fun A5 => ?_)
    refine rv_aload_n (q := 501) E.x dL_law_500 rfl rfl ?_
    refine rv_iconst (q := 502) E.x dL_law_501 rv_ki4 rfl ?_
    refine rv_iload (q := 504) E.x dL_law_502 rfl rfl ?_
    refine rv_iconst (q := 505) E.x dL_law_504 rv_ki0 rfl ?_
    refine rv_iconst (q := 506) E.x dL_law_505 rv_ki0 rfl ?_
    refine rv_iconst (q := 507) E.x dL_law_506 rv_ki0 rfl ?_
    refine rv_iconst (q := 508) E.x dL_law_507 rv_ki0 rfl ?_
    refine lk_b3 (fun r7 g9 M8 e6 => ?_)
    refine lk_csW (q := 511) (v := r7) (σ' := (g9, M8, A5)) E (wP_act E.2.2.1 e6) gPs_241 hP_act ⟨rfl, rfl⟩ ⟨Nat.le_of_ble_eq_true rfl, Nat.le_of_ble_eq_true rfl⟩ ⟨lk_le2 hy1 (Nat.le_of_ble_eq_true rfl) (Nat.le_of_ble_eq_true rfl), lk_le2 hy2 (Nat.le_of_ble_eq_true rfl) (Nat.le_of_ble_eq_true rfl)⟩ rfl rfl rfl (Nat.le_of_ble_eq_true rfl) dL_law_508 rfl ?_
    refine rv_wd (y1 + 3) (y2 + 193) (Nat.le_of_eq (Nat.add_assoc _ _ _)) (Nat.le_of_eq (Nat.add_assoc _ _ _)) ?_
    refine rv_iload (q := 513) E.x dL_law_511 rfl rfl ?_
    refine rv_icmp_ne (q := 516) (tgt := 566) E.x dL_law_513 (by decide) rfl ?_ ?_
    · refine rv_aload_n (q := 517) E.x dL_law_516 rfl rfl ?_
      refine rv_iload (q := 519) E.x dL_law_517 rfl rfl ?_
      refine lk_x1r (fun r11 e10 => ?_) (fun w12 e13 => rv_stuck)
      refine lk_ci (q := 522) (v := r11) (M1 := M8) E (fun u hI _ => c11_sets E.2.2.1.1 hI e10) gP_127 hX11_sets ⟨rfl, rfl⟩ ⟨Nat.le_of_ble_eq_true rfl, Nat.le_of_ble_eq_true rfl⟩ ⟨lk_le1 hy1 (Nat.le_of_ble_eq_true rfl) (Nat.le_of_ble_eq_true rfl), lk_le1 hy2 (Nat.le_of_ble_eq_true rfl) (Nat.le_of_ble_eq_true rfl)⟩ rfl rfl rfl (Nat.le_of_ble_eq_true rfl) dL_law_519 rfl ?_
      refine rv_iconst (q := 523) E.x dL_law_522 rv_ki1 rfl ?_
      refine rv_icmp_ne (q := 526) (tgt := 566) E.x dL_law_523 (by decide) rfl ?_ ?_
      · refine rv_aload_n (q := 527) E.x dL_law_526 rfl rfl ?_
        refine rv_aload_n (q := 528) E.x dL_law_527 rfl rfl ?_
        refine rv_iload (q := 530) E.x dL_law_528 rfl rfl ?_
        refine rv_b2 (fun r15 M16 e14 => ?_)
        refine lk_cs0 (q := 533) (v := r15) (σ' := (g9, M16, A5)) E (wP_now E.2.2.1 e14) gPs_222 hP_now ⟨rfl, rfl⟩ ⟨Nat.le_of_ble_eq_true rfl, Nat.le_of_ble_eq_true rfl⟩ ⟨lk_le1 hy1 (Nat.le_of_ble_eq_true rfl) (Nat.le_of_ble_eq_true rfl), lk_le1 hy2 (Nat.le_of_ble_eq_true rfl) (Nat.le_of_ble_eq_true rfl)⟩ rfl rfl rfl (Nat.le_of_ble_eq_true rfl) dL_law_530 rfl ?_
        refine lk_x1r (fun r18 e17 => ?_) (fun w19 e20 => rv_stuck)
        refine lk_ci (q := 536) (v := r18) (M1 := M16) E (fun u hI _ => c11_before E.2.2.1.1 hI e17) gP_115 hX11_before ⟨rfl, rfl⟩ ⟨Nat.le_of_ble_eq_true rfl, Nat.le_of_ble_eq_true rfl⟩ ⟨lk_le1 hy1 (Nat.le_of_ble_eq_true rfl) (Nat.le_of_ble_eq_true rfl), lk_le1 hy2 (Nat.le_of_ble_eq_true rfl) (Nat.le_of_ble_eq_true rfl)⟩ rfl rfl rfl (Nat.le_of_ble_eq_true rfl) dL_law_533 rfl ?_
        refine rv_aload_n (q := 537) E.x dL_law_536 rfl rfl ?_
        refine rv_iconst (q := 538) E.x dL_law_537 rv_kim1 rfl ?_
        refine lk_x1r (fun r22 e21 => ?_) (fun w23 e24 => rv_stuck)
        refine lk_ci (q := 541) (v := r22) (M1 := M16) E (fun u hI _ => c11_before E.2.2.1.1 hI e21) gP_115 hX11_before ⟨rfl, rfl⟩ ⟨Nat.le_of_ble_eq_true rfl, Nat.le_of_ble_eq_true rfl⟩ ⟨lk_le1 hy1 (Nat.le_of_ble_eq_true rfl) (Nat.le_of_ble_eq_true rfl), lk_le1 hy2 (Nat.le_of_ble_eq_true rfl) (Nat.le_of_ble_eq_true rfl)⟩ rfl rfl rfl (Nat.le_of_ble_eq_true rfl) dL_law_538 rfl ?_
        refine rv_icmp_ne (q := 544) (tgt := 566) E.x dL_law_541 (by decide) rfl ?_ ?_
        · refine rv_aload_n (q := 545) E.x dL_law_544 rfl rfl ?_
          refine rv_iload (q := 547) E.x dL_law_545 rfl rfl ?_
          refine lk_x1r (fun r26 e25 => ?_) (fun w27 e28 => rv_stuck)
          refine lk_ci (q := 550) (v := r26) (M1 := M16) E (fun u hI _ => c11_whoseTurn E.2.2.1.1 hI e25) gP_155 hX11_whoseTurn ⟨rfl, rfl⟩ ⟨Nat.le_of_ble_eq_true rfl, Nat.le_of_ble_eq_true rfl⟩ ⟨lk_le1 hy1 (Nat.le_of_ble_eq_true rfl) (Nat.le_of_ble_eq_true rfl), lk_le1 hy2 (Nat.le_of_ble_eq_true rfl) (Nat.le_of_ble_eq_true rfl)⟩ rfl rfl rfl (Nat.le_of_ble_eq_true rfl) dL_law_547 rfl ?_
          refine rv_if_ne (q := 553) (tgt := 566) E.x dL_law_550 (by decide) rfl ?_ ?_
          · refine rv_aload_n (q := 554) E.x dL_law_553 rfl rfl ?_
            refine rv_iload (q := 556) E.x dL_law_554 rfl rfl ?_
            refine lk_x1r (fun r30 e29 => ?_) (fun w31 e32 => rv_stuck)
            refine lk_ci (q := 559) (v := r30) (M1 := M16) E (fun u hI _ => c11_reviewers E.2.2.1.1 hI e29) gP_152 hX11_reviewers ⟨rfl, rfl⟩ ⟨Nat.le_of_ble_eq_true rfl, Nat.le_of_ble_eq_true rfl⟩ ⟨lk_le1 hy1 (Nat.le_of_ble_eq_true rfl) (Nat.le_of_ble_eq_true rfl), lk_le1 hy2 (Nat.le_of_ble_eq_true rfl) (Nat.le_of_ble_eq_true rfl)⟩ rfl rfl rfl (Nat.le_of_ble_eq_true rfl) dL_law_556 rfl ?_
            refine rv_if_ne (q := 562) (tgt := 566) E.x dL_law_559 (by decide) rfl ?_ ?_
            · refine rv_iconst (q := 563) E.x dL_law_562 rv_ki1 rfl ?_
              refine rv_goto (q := 567) E.x dL_law_563 (by decide) ?_
              refine rv_wk [true, true, true, true, true, false, true, true, true, false, false, true, true, true, false, false, false, false, false] ?_
              exact bp_law_567 E HL k69 y1 y2 hy1 hy2 h69 g9 M16 A5 x6 x7 x8 x11 x12 x13 true
            · refine rv_wk [true, true, true, true, true, false, true, true, true, false, false, true, true, true, false, false, false, false, false] ?_
              exact bp_law_566 E HL k69 y1 y2 hy1 hy2 h69 g9 M16 A5 x6 x7 x8 x11 x12 x13
          · refine rv_wk [true, true, true, true, true, false, true, true, true, false, false, true, true, true, false, false, false, false, false] ?_
            exact bp_law_566 E HL k69 y1 y2 hy1 hy2 h69 g9 M16 A5 x6 x7 x8 x11 x12 x13
        · refine rv_wk [true, true, true, true, true, false, true, true, true, false, false, true, true, true, false, false, false, false, false] ?_
          exact bp_law_566 E HL k69 y1 y2 hy1 hy2 h69 g9 M16 A5 x6 x7 x8 x11 x12 x13
      · refine rv_wk [true, true, true, true, true, false, true, true, true, false, false, true, true, true, false, false, false, false, false] ?_
        exact bp_law_566 E HL k69 y1 y2 hy1 hy2 h69 g9 M8 A5 x6 x7 x8 x11 x12 x13
    · refine rv_wk [true, true, true, true, true, false, true, true, true, false, false, true, true, true, false, false, false, false, false] ?_
      exact bp_law_566 E HL k69 y1 y2 hy1 hy2 h69 g9 M8 A5 x6 x7 x8 x11 x12 x13
  · refine rv_wk [true, true, true, true, true, false, true, true, true, true, true, true, true, true, false, false, false, false, false] ?_
    exact bp_law_572 E HL k69 y1 y2 hy1 hy2 h69 gh M A x6 x7 x8 x9 x10 x11 x12 x13
set_option maxRecDepth 100000 in
theorem bp_law_399 {p : Program} {l : Launch} {e : Env} {s : State} {m : MethodId} {args : Array Value} {below : List Frame} {meth : Method} {c : Code} {D : va_G} {cI cZ cO : ClassId} {mi de z0 o b L : Nat} {k : Nat → Nat} {xs : Nat → Int32} (E : lk_E D cI cZ cO mi de z0 b L k xs cL_law 19 (some .boolean) p l s m args meth c) (HL : s.heap.size ≤ z0 ∧ args = #[Value.ref b])  (k69 : rC_gh → rv_Mem → rv_Mem → Bool → Int32 → Option (Bool × rC_gh × rv_Mem × rv_Mem)) (y1 y2 : Nat) (hy1 : y1 + 518 ≤ 48223) (hy2 : y2 + 24782 ≤ 2312135) (h69 : ∀ (gh : rC_gh) (M : rv_Mem) (A : rv_Mem) (x5 : Bool) (x6 : Int32), rv_M (lk_G D cI cZ cO de z0 o k) (fun q => z0 ≤ q) p l e room_1 s m args below meth c (y1 + 518) (y2 + 24782) (lk_qL below args s) (k69 gh M A x5 x6) 69 [some (.ref b), some (.ref o), some (.ref (k 0)), some (.ref (k 1)), some (.ref (k 2)), some (.int (rv_i x5)), some (.int x6), none, none, none, none, none, none, none, none, none, none, none, none] [] (gh, M, A)) : ∀ (gh : rC_gh) (M : rv_Mem) (A : rv_Mem) (x6 : Int32) (x7 : Int32) (x8 : Int32) (x9 : Int32) (x10 : Int32) (x11 : Int32) (x12 : Int32) (x13 : Int32), rv_M (lk_G D cI cZ cO de z0 o k) (fun q => z0 ≤ q) p l e room_1 s m args below meth c (y1 + 0) (y2 + 0) (lk_qL below args s) (gp_law_399 L xs k69 gh M A x6 x7 x8 x9 x10 x11 x12 x13) 399 [some (.ref b), some (.ref o), some (.ref (k 0)), some (.ref (k 1)), some (.ref (k 2)), none, some (.int x6), some (.int x7), some (.int x8), some (.int x9), some (.int x10), some (.int x11), some (.int x12), some (.int x13), none, none, none, none, none] [] (gh, M, A) := by
  intro gh M A x6 x7 x8 x9 x10 x11 x12 x13
  unfold gp_law_399
  refine rv_iload (q := 401) E.x dL_law_399 rfl rfl ?_
  refine rv_bipush (q := 403) E.x dL_law_401 rv_kb10 rfl ?_
  refine rv_icmp_ne (q := 406) (tgt := 463) E.x dL_law_403 (by decide) rfl ?_ ?_
  · refine rv_aload_n (q := 407) E.x dL_law_406 rfl rfl ?_
    refine rv_iconst (q := 408) E.x dL_law_407 rv_ki1 rfl ?_
    refine rv_iload (q := 410) E.x dL_law_408 rfl rfl ?_
    refine rv_iload (q := 412) E.x dL_law_410 rfl rfl ?_
    refine rv_iconst (q := 413) E.x dL_law_412 rv_ki0 rfl ?_
    refine rv_iconst (q := 414) E.x dL_law_413 rv_ki0 rfl ?_
    refine rv_iconst (q := 415) E.x dL_law_414 rv_ki0 rfl ?_
    refine lk_b3 (fun r2 g4 M3 e1 => ?_)
    refine lk_csW (q := 418) (v := r2) (σ' := (g4, M3, A)) E (wP_act E.2.2.1 e1) gPs_241 hP_act ⟨rfl, rfl⟩ ⟨Nat.le_of_ble_eq_true rfl, Nat.le_of_ble_eq_true rfl⟩ ⟨lk_le2 hy1 (Nat.le_of_ble_eq_true rfl) (Nat.le_of_ble_eq_true rfl), lk_le2 hy2 (Nat.le_of_ble_eq_true rfl) (Nat.le_of_ble_eq_true rfl)⟩ rfl rfl rfl (Nat.le_of_ble_eq_true rfl) dL_law_415 rfl ?_
    refine rv_wd (y1 + 3) (y2 + 193) (Nat.le_of_eq (Nat.add_assoc _ _ _)) (Nat.le_of_eq (Nat.add_assoc _ _ _)) ?_
    refine rv_aload_n (q := 419) E.x dL_law_418 rfl rfl ?_
    refine rv_aload_n (q := 420) E.x dL_law_419 rfl rfl ?_
    refine rv_iload (q := 422) E.x dL_law_420 rfl rfl ?_
    refine rv_iload (q := 424) E.x dL_law_422 rfl rfl ?_
    refine lk_x1r (fun r6 e5 => ?_) (fun w7 e8 => rv_stuck)
    refine lk_ci (q := 427) (v := r6) (M1 := M3) E (fun u hI _ => c11_commitOf E.2.2.1.1 hI e5) gP_130 hX11_commitOf ⟨rfl, rfl⟩ ⟨Nat.le_of_ble_eq_true rfl, Nat.le_of_ble_eq_true rfl⟩ ⟨lk_le1 hy1 (Nat.le_of_ble_eq_true rfl) (Nat.le_of_ble_eq_true rfl), lk_le1 hy2 (Nat.le_of_ble_eq_true rfl) (Nat.le_of_ble_eq_true rfl)⟩ rfl rfl rfl (Nat.le_of_ble_eq_true rfl) dL_law_424 rfl ?_
    refine lk_x1r (fun r10 e9 => ?_) (fun w11 e12 => rv_stuck)
    refine lk_ci (q := 430) (v := r10) (M1 := M3) E (fun u hI _ => c11_before E.2.2.1.1 hI e9) gP_115 hX11_before ⟨rfl, rfl⟩ ⟨Nat.le_of_ble_eq_true rfl, Nat.le_of_ble_eq_true rfl⟩ ⟨lk_le1 hy1 (Nat.le_of_ble_eq_true rfl) (Nat.le_of_ble_eq_true rfl), lk_le1 hy2 (Nat.le_of_ble_eq_true rfl) (Nat.le_of_ble_eq_true rfl)⟩ rfl rfl rfl (Nat.le_of_ble_eq_true rfl) dL_law_427 rfl ?_
    refine rv_icmp_ne (q := 433) (tgt := 457) E.x dL_law_430 (by decide) rfl ?_ ?_
    · refine rv_aload_n (q := 434) E.x dL_law_433 rfl rfl ?_
      refine rv_iconst (q := 435) E.x dL_law_434 rv_kim1 rfl ?_
      refine lk_x1r (fun r14 e13 => ?_) (fun w15 e16 => rv_stuck)
      refine lk_ci (q := 438) (v := r14) (M1 := M3) E (fun u hI _ => c11_before E.2.2.1.1 hI e13) gP_115 hX11_before ⟨rfl, rfl⟩ ⟨Nat.le_of_ble_eq_true rfl, Nat.le_of_ble_eq_true rfl⟩ ⟨lk_le1 hy1 (Nat.le_of_ble_eq_true rfl) (Nat.le_of_ble_eq_true rfl), lk_le1 hy2 (Nat.le_of_ble_eq_true rfl) (Nat.le_of_ble_eq_true rfl)⟩ rfl rfl rfl (Nat.le_of_ble_eq_true rfl) dL_law_435 rfl ?_
      refine rv_aload_n (q := 439) E.x dL_law_438 rfl rfl ?_
      refine rv_aload_n (q := 440) E.x dL_law_439 rfl rfl ?_
      refine rv_iload (q := 442) E.x dL_law_440 rfl rfl ?_
      refine rv_iload (q := 444) E.x dL_law_442 rfl rfl ?_
      refine lk_x1r (fun r18 e17 => ?_) (fun w19 e20 => rv_stuck)
      refine lk_ci (q := 447) (v := r18) (M1 := M3) E (fun u hI _ => c11_commitOf E.2.2.1.1 hI e17) gP_130 hX11_commitOf ⟨rfl, rfl⟩ ⟨Nat.le_of_ble_eq_true rfl, Nat.le_of_ble_eq_true rfl⟩ ⟨lk_le1 hy1 (Nat.le_of_ble_eq_true rfl) (Nat.le_of_ble_eq_true rfl), lk_le1 hy2 (Nat.le_of_ble_eq_true rfl) (Nat.le_of_ble_eq_true rfl)⟩ rfl rfl rfl (Nat.le_of_ble_eq_true rfl) dL_law_444 rfl ?_
      refine lk_x1r (fun r22 e21 => ?_) (fun w23 e24 => rv_stuck)
      refine lk_ci (q := 450) (v := r22) (M1 := M3) E (fun u hI _ => c11_before E.2.2.1.1 hI e21) gP_115 hX11_before ⟨rfl, rfl⟩ ⟨Nat.le_of_ble_eq_true rfl, Nat.le_of_ble_eq_true rfl⟩ ⟨lk_le1 hy1 (Nat.le_of_ble_eq_true rfl) (Nat.le_of_ble_eq_true rfl), lk_le1 hy2 (Nat.le_of_ble_eq_true rfl) (Nat.le_of_ble_eq_true rfl)⟩ rfl rfl rfl (Nat.le_of_ble_eq_true rfl) dL_law_447 rfl ?_
      refine rv_icmp_ne (q := 453) (tgt := 457) E.x dL_law_450 (by decide) rfl ?_ ?_
      · refine rv_iconst (q := 454) E.x dL_law_453 rv_ki1 rfl ?_
        refine rv_goto (q := 458) E.x dL_law_454 (by decide) ?_
        refine rv_wk [true, true, true, true, true, false, true, true, true, false, false, true, true, true, false, false, false, false, false] ?_
        exact bp_law_458 E HL k69 y1 y2 hy1 hy2 h69 g4 M3 A x6 x7 x8 x11 x12 x13 true
      · refine rv_wk [true, true, true, true, true, false, true, true, true, false, false, true, true, true, false, false, false, false, false] ?_
        exact bp_law_457 E HL k69 y1 y2 hy1 hy2 h69 g4 M3 A x6 x7 x8 x11 x12 x13
    · refine rv_wk [true, true, true, true, true, false, true, true, true, false, false, true, true, true, false, false, false, false, false] ?_
      exact bp_law_457 E HL k69 y1 y2 hy1 hy2 h69 g4 M3 A x6 x7 x8 x11 x12 x13
  · refine rv_iload (q := 465) E.x dL_law_463 rfl rfl ?_
    refine rv_bipush (q := 467) E.x dL_law_465 rv_kb13 rfl ?_
    refine rv_icmp_lt (q := 470) (tgt := 477) E.x dL_law_467 (by decide) rfl ?_ ?_
    · refine rv_aload_n (q := 471) E.x dL_law_470 rfl rfl ?_
      refine rv_b1 (fun r26 e25 => ?_)
      refine lk_cn (q := 474) (v := r26) (M1 := M) E (fun u hI => c11_changes hI e25) gP_187 hX11_changes ⟨rfl, rfl⟩ ⟨Nat.le_of_ble_eq_true rfl, Nat.le_of_ble_eq_true rfl⟩ ⟨lk_le1 hy1 (Nat.le_of_ble_eq_true rfl) (Nat.le_of_ble_eq_true rfl), lk_le1 hy2 (Nat.le_of_ble_eq_true rfl) (Nat.le_of_ble_eq_true rfl)⟩ rfl rfl rfl (Nat.le_of_ble_eq_true rfl) dL_law_471 rfl ?_
      refine rv_if_ne (q := 477) (tgt := 572) E.x dL_law_474 (by decide) rfl ?_ ?_
      · refine rv_wk [true, true, true, true, true, false, true, true, true, true, true, true, true, true, false, false, false, false, false] ?_
        exact bp_law_477 E HL k69 y1 y2 hy1 hy2 h69 gh M A x6 x7 x8 x9 x10 x11 x12 x13
      · refine rv_wk [true, true, true, true, true, false, true, true, true, true, true, true, true, true, false, false, false, false, false] ?_
        exact bp_law_572 E HL k69 y1 y2 hy1 hy2 h69 gh M A x6 x7 x8 x9 x10 x11 x12 x13
    · refine rv_wk [true, true, true, true, true, false, true, true, true, true, true, true, true, true, false, false, false, false, false] ?_
      exact bp_law_477 E HL k69 y1 y2 hy1 hy2 h69 gh M A x6 x7 x8 x9 x10 x11 x12 x13
set_option maxRecDepth 100000 in
theorem bp_law_163 {p : Program} {l : Launch} {e : Env} {s : State} {m : MethodId} {args : Array Value} {below : List Frame} {meth : Method} {c : Code} {D : va_G} {cI cZ cO : ClassId} {mi de z0 o b L : Nat} {k : Nat → Nat} {xs : Nat → Int32} (E : lk_E D cI cZ cO mi de z0 b L k xs cL_law 19 (some .boolean) p l s m args meth c) (HL : s.heap.size ≤ z0 ∧ args = #[Value.ref b])  (k69 : rC_gh → rv_Mem → rv_Mem → Bool → Int32 → Option (Bool × rC_gh × rv_Mem × rv_Mem)) (y1 y2 : Nat) (hy1 : y1 + 518 ≤ 48223) (hy2 : y2 + 24782 ≤ 2312135) (h69 : ∀ (gh : rC_gh) (M : rv_Mem) (A : rv_Mem) (x5 : Bool) (x6 : Int32), rv_M (lk_G D cI cZ cO de z0 o k) (fun q => z0 ≤ q) p l e room_1 s m args below meth c (y1 + 518) (y2 + 24782) (lk_qL below args s) (k69 gh M A x5 x6) 69 [some (.ref b), some (.ref o), some (.ref (k 0)), some (.ref (k 1)), some (.ref (k 2)), some (.int (rv_i x5)), some (.int x6), none, none, none, none, none, none, none, none, none, none, none, none] [] (gh, M, A)) : ∀ (gh : rC_gh) (M : rv_Mem) (A : rv_Mem) (x6 : Int32) (x7 : Int32) (x8 : Int32) (x9 : Int32) (x10 : Int32) (x11 : Int32) (s0 : Int32), rv_M (lk_G D cI cZ cO de z0 o k) (fun q => z0 ≤ q) p l e room_1 s m args below meth c (y1 + 0) (y2 + 0) (lk_qL below args s) (gp_law_163 L xs k69 gh M A x6 x7 x8 x9 x10 x11 s0) 163 [some (.ref b), some (.ref o), some (.ref (k 0)), some (.ref (k 1)), some (.ref (k 2)), none, some (.int x6), some (.int x7), some (.int x8), some (.int x9), some (.int x10), some (.int x11), none, none, none, none, none, none, none] [.int s0] (gh, M, A) := by
  intro gh M A x6 x7 x8 x9 x10 x11 s0
  unfold gp_law_163
  refine rv_istore (q := 165) (lv' := [_, _, _, _, _, _, _, _, _, _, _, _, _, _, _, _, _, _, _]) E.x dL_law_163 (Nat.le_of_ble_eq_true rfl) rfl rfl rfl ?_
  refine rv_iload (q := 167) E.x dL_law_165 rfl rfl ?_
  refine rv_iconst (q := 168) E.x dL_law_167 rv_ki4 rfl ?_
  refine rv_idiv (q := 169) E.x dL_law_168 (by decide) rfl ?_
  refine rv_iconst (q := 170) E.x dL_law_169 rv_ki3 rfl ?_
  refine rv_irem (q := 171) E.x dL_law_170 (by decide) rfl ?_
  refine rv_istore (q := 173) (lv' := [_, _, _, _, _, _, _, _, _, _, _, _, _, _, _, _, _, _, _]) E.x dL_law_171 (Nat.le_of_ble_eq_true rfl) rfl rfl rfl ?_
  refine rv_aload_n (q := 174) E.x dL_law_173 rfl rfl ?_
  refine rv_iconst (q := 175) E.x dL_law_174 rv_kim1 rfl ?_
  refine rv_iload (q := 177) E.x dL_law_175 rfl rfl ?_
  refine rv_b2 (fun r2 M3 e1 => ?_)
  refine lk_cs0 (q := 180) (v := r2) (σ' := (gh, M3, A)) E (wP_size E.2.2.1 e1) gPs_203 hP_size ⟨rfl, rfl⟩ ⟨Nat.le_of_ble_eq_true rfl, Nat.le_of_ble_eq_true rfl⟩ ⟨lk_le1 hy1 (Nat.le_of_ble_eq_true rfl) (Nat.le_of_ble_eq_true rfl), lk_le1 hy2 (Nat.le_of_ble_eq_true rfl) (Nat.le_of_ble_eq_true rfl)⟩ rfl rfl rfl (Nat.le_of_ble_eq_true rfl) dL_law_177 rfl ?_
  refine rv_istore (q := 182) (lv' := [_, _, _, _, _, _, _, _, _, _, _, _, _, _, _, _, _, _, _]) E.x dL_law_180 (Nat.le_of_ble_eq_true rfl) rfl rfl rfl ?_
  refine rv_iload (q := 184) E.x dL_law_182 rfl rfl ?_
  refine rv_bipush (q := 186) E.x dL_law_184 rv_kb8 rfl ?_
  refine rv_icmp_ge (q := 189) (tgt := 252) E.x dL_law_186 (by decide) rfl ?_ ?_
  · refine rv_iload (q := 191) E.x dL_law_189 rfl rfl ?_
    refine rv_bipush (q := 193) E.x dL_law_191 rv_kb10 rfl ?_
    refine rv_icmp_eq (q := 196) (tgt := 242) E.x dL_law_193 (by decide) rfl ?_ ?_
    · refine rv_aload_n (q := 197) E.x dL_law_196 rfl rfl ?_
      refine rv_iconst (q := 198) E.x dL_law_197 rv_ki2 rfl ?_
      refine rv_iload (q := 200) E.x dL_law_198 rfl rfl ?_
      refine rv_iload (q := 202) E.x dL_law_200 rfl rfl ?_
      refine rv_bipush (q := 204) E.x dL_law_202 rv_kb12 rfl ?_
      refine rv_idiv (q := 205) E.x dL_law_204 (by decide) rfl ?_
      refine rv_iload (q := 207) E.x dL_law_205 rfl rfl ?_
      refine rv_iconst (q := 208) E.x dL_law_207 rv_ki1 rfl ?_
      refine rv_iadd (q := 209) E.x dL_law_208 rfl ?_
      refine rv_iremg (q := 210) E.x dL_law_209 rfl ?_
      refine rv_iload (q := 212) E.x dL_law_210 rfl rfl ?_
      refine rv_sipush (q := 215) E.x dL_law_212 rv_ks132 rfl ?_
      refine rv_idiv (q := 216) E.x dL_law_215 (by decide) rfl ?_
      refine rv_iconst (q := 217) E.x dL_law_216 rv_ki4 rfl ?_
      refine rv_irem (q := 218) E.x dL_law_217 (by decide) rfl ?_
      refine rv_iload (q := 220) E.x dL_law_218 rfl rfl ?_
      refine rv_sipush (q := 223) E.x dL_law_220 rv_ks528 rfl ?_
      refine rv_idiv (q := 224) E.x dL_law_223 (by decide) rfl ?_
      refine rv_iconst (q := 225) E.x dL_law_224 rv_ki2 rfl ?_
      refine rv_irem (q := 226) E.x dL_law_225 (by decide) rfl ?_
      refine rv_bipush (q := 228) E.x dL_law_226 rv_kb100 rfl ?_
      refine rv_imul (q := 229) E.x dL_law_228 rfl ?_
      refine rv_iadd (q := 230) E.x dL_law_229 rfl ?_
      refine rv_iconst (q := 231) E.x dL_law_230 rv_ki0 rfl ?_
      refine rv_iconst (q := 232) E.x dL_law_231 rv_ki0 rfl ?_
      refine lk_b3 (fun r5 g7 M6 e4 => ?_)
      refine lk_csW (q := 235) (v := r5) (σ' := (g7, M6, A)) E (wP_act E.2.2.1 e4) gPs_241 hP_act ⟨rfl, rfl⟩ ⟨Nat.le_of_ble_eq_true rfl, Nat.le_of_ble_eq_true rfl⟩ ⟨lk_le2 hy1 (Nat.le_of_ble_eq_true rfl) (Nat.le_of_ble_eq_true rfl), lk_le2 hy2 (Nat.le_of_ble_eq_true rfl) (Nat.le_of_ble_eq_true rfl)⟩ rfl rfl rfl (Nat.le_of_ble_eq_true rfl) dL_law_232 rfl ?_
      refine rv_wd (y1 + 3) (y2 + 193) (Nat.le_of_eq (Nat.add_assoc _ _ _)) (Nat.le_of_eq (Nat.add_assoc _ _ _)) ?_
      refine rv_iload (q := 237) E.x dL_law_235 rfl rfl ?_
      refine rv_iconst (q := 238) E.x dL_law_237 rv_ki1 rfl ?_
      refine rv_iadd (q := 239) E.x dL_law_238 rfl ?_
      refine rv_icmp_ne (q := 242) (tgt := 246) E.x dL_law_239 (by decide) rfl ?_ ?_
      · refine rv_wk [true, true, true, true, true, false, true, true, true, false, false, true, true, true, false, false, false, false, false] ?_
        exact bp_law_242 E HL k69 y1 y2 hy1 hy2 h69 g7 M6 A x6 x7 x8 x11 s0 ((x8 / 4) - (x8 / 4) / 3 * 3)
      · refine rv_iconst (q := 247) E.x dL_law_246 rv_ki0 rfl ?_
        refine rv_wk [true, true, true, true, true, false, true, true, true, false, false, true, true, true, false, false, false, false, false] ?_
        exact bp_law_247 E HL k69 y1 y2 hy1 hy2 h69 g7 M6 A x6 x7 x8 x11 s0 ((x8 / 4) - (x8 / 4) / 3 * 3) false
    · refine rv_wk [true, true, true, true, true, false, true, true, true, false, false, true, true, true, false, false, false, false, false] ?_
      refine rv_wd (y1 + 3) (y2 + 193) (Nat.add_le_add_left (Nat.le_of_ble_eq_true rfl) _) (Nat.add_le_add_left (Nat.le_of_ble_eq_true rfl) _) ?_
      exact bp_law_242 E HL k69 y1 y2 hy1 hy2 h69 gh M3 A x6 x7 x8 x11 s0 ((x8 / 4) - (x8 / 4) / 3 * 3)
  · refine rv_iload (q := 254) E.x dL_law_252 rfl rfl ?_
    refine rv_bipush (q := 256) E.x dL_law_254 rv_kb8 rfl ?_
    refine rv_icmp_ne (q := 259) (tgt := 309) E.x dL_law_256 (by decide) rfl ?_ ?_
    · refine rv_iload (q := 261) E.x dL_law_259 rfl rfl ?_
      refine rv_if_eq (q := 264) (tgt := 299) E.x dL_law_261 (by decide) rfl ?_ ?_
      · refine rv_aload_n (q := 265) E.x dL_law_264 rfl rfl ?_
        refine rv_iconst (q := 266) E.x dL_law_265 rv_ki3 rfl ?_
        refine rv_iload (q := 268) E.x dL_law_266 rfl rfl ?_
        refine rv_iload (q := 270) E.x dL_law_268 rfl rfl ?_
        refine rv_bipush (q := 272) E.x dL_law_270 rv_kb12 rfl ?_
        refine rv_idiv (q := 273) E.x dL_law_272 (by decide) rfl ?_
        refine rv_iload (q := 275) E.x dL_law_273 rfl rfl ?_
        refine rv_iremg (q := 276) E.x dL_law_275 rfl ?_
        refine rv_iconst (q := 277) E.x dL_law_276 rv_ki0 rfl ?_
        refine rv_iconst (q := 278) E.x dL_law_277 rv_ki0 rfl ?_
        refine rv_iconst (q := 279) E.x dL_law_278 rv_ki0 rfl ?_
        refine lk_b3 (fun r9 g11 M10 e8 => ?_)
        refine lk_csW (q := 282) (v := r9) (σ' := (g11, M10, A)) E (wP_act E.2.2.1 e8) gPs_241 hP_act ⟨rfl, rfl⟩ ⟨Nat.le_of_ble_eq_true rfl, Nat.le_of_ble_eq_true rfl⟩ ⟨lk_le2 hy1 (Nat.le_of_ble_eq_true rfl) (Nat.le_of_ble_eq_true rfl), lk_le2 hy2 (Nat.le_of_ble_eq_true rfl) (Nat.le_of_ble_eq_true rfl)⟩ rfl rfl rfl (Nat.le_of_ble_eq_true rfl) dL_law_279 rfl ?_
        refine rv_wd (y1 + 3) (y2 + 193) (Nat.le_of_eq (Nat.add_assoc _ _ _)) (Nat.le_of_eq (Nat.add_assoc _ _ _)) ?_
        refine rv_if_lt (q := 285) (tgt := 303) E.x dL_law_282 (by decide) rfl ?_ ?_
        · refine rv_aload_n (q := 286) E.x dL_law_285 rfl rfl ?_
          refine rv_iconst (q := 287) E.x dL_law_286 rv_kim1 rfl ?_
          refine rv_iload (q := 289) E.x dL_law_287 rfl rfl ?_
          refine rv_b2 (fun r13 M14 e12 => ?_)
          refine lk_cs0 (q := 292) (v := r13) (σ' := (g11, M14, A)) E (wP_size E.2.2.1 e12) gPs_203 hP_size ⟨rfl, rfl⟩ ⟨Nat.le_of_ble_eq_true rfl, Nat.le_of_ble_eq_true rfl⟩ ⟨lk_le1 hy1 (Nat.le_of_ble_eq_true rfl) (Nat.le_of_ble_eq_true rfl), lk_le1 hy2 (Nat.le_of_ble_eq_true rfl) (Nat.le_of_ble_eq_true rfl)⟩ rfl rfl rfl (Nat.le_of_ble_eq_true rfl) dL_law_289 rfl ?_
          refine rv_iload (q := 294) E.x dL_law_292 rfl rfl ?_
          refine rv_iconst (q := 295) E.x dL_law_294 rv_ki1 rfl ?_
          refine rv_isub (q := 296) E.x dL_law_295 rfl ?_
          refine rv_icmp_ne (q := 299) (tgt := 303) E.x dL_law_296 (by decide) rfl ?_ ?_
          · refine rv_wk [true, true, true, true, true, false, true, true, true, false, false, true, true, true, false, false, false, false, false] ?_
            exact bp_law_299 E HL k69 y1 y2 hy1 hy2 h69 g11 M14 A x6 x7 x8 x11 s0 ((x8 / 4) - (x8 / 4) / 3 * 3)
          · refine rv_wk [true, true, true, true, true, false, true, true, true, false, false, true, true, true, false, false, false, false, false] ?_
            exact bp_law_303 E HL k69 y1 y2 hy1 hy2 h69 g11 M14 A x6 x7 x8 x11 s0 ((x8 / 4) - (x8 / 4) / 3 * 3)
        · refine rv_wk [true, true, true, true, true, false, true, true, true, false, false, true, true, true, false, false, false, false, false] ?_
          exact bp_law_303 E HL k69 y1 y2 hy1 hy2 h69 g11 M10 A x6 x7 x8 x11 s0 ((x8 / 4) - (x8 / 4) / 3 * 3)
      · refine rv_wk [true, true, true, true, true, false, true, true, true, false, false, true, true, true, false, false, false, false, false] ?_
        refine rv_wd (y1 + 3) (y2 + 193) (Nat.add_le_add_left (Nat.le_of_ble_eq_true rfl) _) (Nat.add_le_add_left (Nat.le_of_ble_eq_true rfl) _) ?_
        exact bp_law_299 E HL k69 y1 y2 hy1 hy2 h69 gh M3 A x6 x7 x8 x11 s0 ((x8 / 4) - (x8 / 4) / 3 * 3)
    · refine rv_iload (q := 311) E.x dL_law_309 rfl rfl ?_
      refine rv_bipush (q := 313) E.x dL_law_311 rv_kb9 rfl ?_
      refine rv_icmp_eq (q := 316) (tgt := 330) E.x dL_law_313 (by decide) rfl ?_ ?_
      · refine rv_aload_n (q := 317) E.x dL_law_316 rfl rfl ?_
        refine rv_b1 (fun r16 e15 => ?_)
        refine lk_cn (q := 320) (v := r16) (M1 := M3) E (fun u hI => c11_changes hI e15) gP_187 hX11_changes ⟨rfl, rfl⟩ ⟨Nat.le_of_ble_eq_true rfl, Nat.le_of_ble_eq_true rfl⟩ ⟨lk_le1 hy1 (Nat.le_of_ble_eq_true rfl) (Nat.le_of_ble_eq_true rfl), lk_le1 hy2 (Nat.le_of_ble_eq_true rfl) (Nat.le_of_ble_eq_true rfl)⟩ rfl rfl rfl (Nat.le_of_ble_eq_true rfl) dL_law_317 rfl ?_
        refine rv_if_ne (q := 323) (tgt := 399) E.x dL_law_320 (by decide) rfl ?_ ?_
        · refine rv_iload (q := 325) E.x dL_law_323 rfl rfl ?_
          refine rv_bipush (q := 327) E.x dL_law_325 rv_kb12 rfl ?_
          refine rv_icmp_ge (q := 330) (tgt := 399) E.x dL_law_327 (by decide) rfl ?_ ?_
          · refine rv_wk [true, true, true, true, true, false, true, true, true, false, false, true, true, true, false, false, false, false, false] ?_
            exact bp_law_330 E HL k69 y1 y2 hy1 hy2 h69 gh M3 A x6 x7 x8 x11 s0 ((x8 / 4) - (x8 / 4) / 3 * 3)
          · refine rv_wk [true, true, true, true, true, false, true, true, true, true, true, true, true, true, false, false, false, false, false] ?_
            exact bp_law_399 E HL k69 y1 y2 hy1 hy2 h69 gh M3 A x6 x7 x8 x9 x10 x11 s0 ((x8 / 4) - (x8 / 4) / 3 * 3)
        · refine rv_wk [true, true, true, true, true, false, true, true, true, true, true, true, true, true, false, false, false, false, false] ?_
          exact bp_law_399 E HL k69 y1 y2 hy1 hy2 h69 gh M3 A x6 x7 x8 x9 x10 x11 s0 ((x8 / 4) - (x8 / 4) / 3 * 3)
      · refine rv_wk [true, true, true, true, true, false, true, true, true, false, false, true, true, true, false, false, false, false, false] ?_
        exact bp_law_330 E HL k69 y1 y2 hy1 hy2 h69 gh M3 A x6 x7 x8 x11 s0 ((x8 / 4) - (x8 / 4) / 3 * 3)
set_option maxRecDepth 100000 in
theorem bp_law_138 {p : Program} {l : Launch} {e : Env} {s : State} {m : MethodId} {args : Array Value} {below : List Frame} {meth : Method} {c : Code} {D : va_G} {cI cZ cO : ClassId} {mi de z0 o b L : Nat} {k : Nat → Nat} {xs : Nat → Int32} (E : lk_E D cI cZ cO mi de z0 b L k xs cL_law 19 (some .boolean) p l s m args meth c) (HL : s.heap.size ≤ z0 ∧ args = #[Value.ref b])  (k69 : rC_gh → rv_Mem → rv_Mem → Bool → Int32 → Option (Bool × rC_gh × rv_Mem × rv_Mem)) (y1 y2 : Nat) (hy1 : y1 + 518 ≤ 48223) (hy2 : y2 + 24782 ≤ 2312135) (h69 : ∀ (gh : rC_gh) (M : rv_Mem) (A : rv_Mem) (x5 : Bool) (x6 : Int32), rv_M (lk_G D cI cZ cO de z0 o k) (fun q => z0 ≤ q) p l e room_1 s m args below meth c (y1 + 518) (y2 + 24782) (lk_qL below args s) (k69 gh M A x5 x6) 69 [some (.ref b), some (.ref o), some (.ref (k 0)), some (.ref (k 1)), some (.ref (k 2)), some (.int (rv_i x5)), some (.int x6), none, none, none, none, none, none, none, none, none, none, none, none] [] (gh, M, A)) : ∀ (gh : rC_gh) (M : rv_Mem) (A : rv_Mem) (x6 : Int32) (x7 : Int32) (x8 : Int32) (x9 : Int32) (x10 : Int32) (s0 : Int32), rv_M (lk_G D cI cZ cO de z0 o k) (fun q => z0 ≤ q) p l e room_1 s m args below meth c (y1 + 0) (y2 + 0) (lk_qL below args s) (gp_law_138 L xs k69 gh M A x6 x7 x8 x9 x10 s0) 138 [some (.ref b), some (.ref o), some (.ref (k 0)), some (.ref (k 1)), some (.ref (k 2)), none, some (.int x6), some (.int x7), some (.int x8), some (.int x9), some (.int x10), none, none, none, none, none, none, none, none] [.int s0] (gh, M, A) := by
  intro gh M A x6 x7 x8 x9 x10 s0
  unfold gp_law_138
  refine rv_istore (q := 140) (lv' := [_, _, _, _, _, _, _, _, _, _, _, _, _, _, _, _, _, _, _]) E.x dL_law_138 (Nat.le_of_ble_eq_true rfl) rfl rfl rfl ?_
  refine rv_aload_n (q := 141) E.x dL_law_140 rfl rfl ?_
  refine rv_b1 (fun r2 e1 => ?_)
  refine lk_cn (q := 144) (v := r2) (M1 := M) E (fun u hI => c11_changes hI e1) gP_187 hX11_changes ⟨rfl, rfl⟩ ⟨Nat.le_of_ble_eq_true rfl, Nat.le_of_ble_eq_true rfl⟩ ⟨lk_le1 hy1 (Nat.le_of_ble_eq_true rfl) (Nat.le_of_ble_eq_true rfl), lk_le1 hy2 (Nat.le_of_ble_eq_true rfl) (Nat.le_of_ble_eq_true rfl)⟩ rfl rfl rfl (Nat.le_of_ble_eq_true rfl) dL_law_141 rfl ?_
  refine rv_if_ne (q := 147) (tgt := 151) E.x dL_law_144 (by decide) rfl ?_ ?_
  · refine rv_iconst (q := 148) E.x dL_law_147 rv_ki0 rfl ?_
    refine rv_goto (q := 163) E.x dL_law_148 (by decide) ?_
    refine rv_wk [true, true, true, true, true, false, true, true, true, true, true, true, false, false, false, false, false, false, false] ?_
    exact bp_law_163 E HL k69 y1 y2 hy1 hy2 h69 gh M A x6 x7 x8 x9 x10 s0 0
  · refine rv_iload (q := 153) E.x dL_law_151 rfl rfl ?_
    refine rv_bipush (q := 155) E.x dL_law_153 rv_kb40 rfl ?_
    refine rv_idiv (q := 156) E.x dL_law_155 (by decide) rfl ?_
    refine rv_aload_n (q := 157) E.x dL_law_156 rfl rfl ?_
    refine rv_iload (q := 159) E.x dL_law_157 rfl rfl ?_
    refine lk_x1r (fun r4 e3 => ?_) (fun w5 e6 => rv_stuck)
    refine lk_ci (q := 162) (v := r4) (M1 := M) E (fun u hI _ => c11_sets E.2.2.1.1 hI e3) gP_127 hX11_sets ⟨rfl, rfl⟩ ⟨Nat.le_of_ble_eq_true rfl, Nat.le_of_ble_eq_true rfl⟩ ⟨lk_le1 hy1 (Nat.le_of_ble_eq_true rfl) (Nat.le_of_ble_eq_true rfl), lk_le1 hy2 (Nat.le_of_ble_eq_true rfl) (Nat.le_of_ble_eq_true rfl)⟩ rfl rfl rfl (Nat.le_of_ble_eq_true rfl) dL_law_159 rfl ?_
    refine rv_iremg (q := 163) E.x dL_law_162 rfl ?_
    refine rv_wk [true, true, true, true, true, false, true, true, true, true, true, true, false, false, false, false, false, false, false] ?_
    exact bp_law_163 E HL k69 y1 y2 hy1 hy2 h69 gh M A x6 x7 x8 x9 x10 s0 ((x8 / 40) - (x8 / 40) / r4 * r4)
set_option maxRecDepth 100000 in
theorem bp_law_1904 {p : Program} {l : Launch} {e : Env} {s : State} {m : MethodId} {args : Array Value} {below : List Frame} {meth : Method} {c : Code} {D : va_G} {cI cZ cO : ClassId} {mi de z0 o b L : Nat} {k : Nat → Nat} {xs : Nat → Int32} (E : lk_E D cI cZ cO mi de z0 b L k xs cL_law 19 (some .boolean) p l s m args meth c) (HL : s.heap.size ≤ z0 ∧ args = #[Value.ref b])    : ∀ (gh : rC_gh) (M : rv_Mem) (A : rv_Mem) (x5 : Bool), rv_M (lk_G D cI cZ cO de z0 o k) (fun q => z0 ≤ q) p l e room_1 s m args below meth c 48223 2312135 (lk_qL below args s) (gp_law_1904 L xs gh M A x5) 1904 [none, some (.ref o), some (.ref (k 0)), none, none, some (.int (rv_i x5)), none, none, none, none, none, none, none, none, none, none, none, none, none] [] (gh, M, A) := by
  intro gh M A x5
  unfold gp_law_1904
  refine rv_iload (q := 1906) E.x dL_law_1904 rfl rfl ?_
  refine rv_ifz_eq (q := 1909) (tgt := 1922) E.x dL_law_1906 (by decide) rfl ?_ ?_
  · refine rv_aload_n (q := 1910) E.x dL_law_1909 rfl rfl ?_
    refine rv_aload_n (q := 1911) E.x dL_law_1910 rfl rfl ?_
    refine rv_iconst (q := 1912) E.x dL_law_1911 rv_ki1 rfl ?_
    refine rv_b2 (fun r2 M3 e1 => ?_)
    refine lk_cs0 (q := 1915) (v := (rv_i r2)) (σ' := (gh, M3, A)) E (wP_areChanges E.2.2.1 e1) gPs_264 hP_areChanges ⟨rfl, rfl⟩ ⟨Nat.le_of_ble_eq_true rfl, Nat.le_of_ble_eq_true rfl⟩ ⟨Nat.le_of_ble_eq_true rfl, Nat.le_of_ble_eq_true rfl⟩ rfl rfl rfl (Nat.le_of_ble_eq_true rfl) dL_law_1912 rfl ?_
    refine rv_ifz_eq (q := 1918) (tgt := 1922) E.x dL_law_1915 (by decide) rfl ?_ ?_
    · refine rv_iconst (q := 1919) E.x dL_law_1918 rv_ki1 rfl ?_
      refine rv_goto (q := 1923) E.x dL_law_1919 (by decide) ?_
      exact lk_end E HL true ⟨Nat.le_of_ble_eq_true rfl, Nat.le_of_ble_eq_true rfl⟩ dL_law_1923
    · refine rv_iconst (q := 1923) E.x dL_law_1922 rv_ki0 rfl ?_
      exact lk_end E HL false ⟨Nat.le_of_ble_eq_true rfl, Nat.le_of_ble_eq_true rfl⟩ dL_law_1923
  · refine rv_iconst (q := 1923) E.x dL_law_1922 rv_ki0 rfl ?_
    exact lk_end E HL false ⟨Nat.le_of_ble_eq_true rfl, Nat.le_of_ble_eq_true rfl⟩ dL_law_1923
set_option maxRecDepth 100000 in
theorem bp_law_69_s {p : Program} {l : Launch} {e : Env} {s : State} {m : MethodId} {args : Array Value} {below : List Frame} {meth : Method} {c : Code} {D : va_G} {cI cZ cO : ClassId} {mi de z0 o b L : Nat} {k : Nat → Nat} {xs : Nat → Int32} (E : lk_E D cI cZ cO mi de z0 b L k xs cL_law 19 (some .boolean) p l s m args meth c) (HL : s.heap.size ≤ z0 ∧ args = #[Value.ref b])  (y1 y2 : Nat) (hy1 : y1 + 518 ≤ 48223) (hy2 : y2 + 24782 ≤ 2312135) (k69 : rC_gh → rv_Mem → rv_Mem → Bool → Int32 → Option (Bool × rC_gh × rv_Mem × rv_Mem)) (h69 : ∀ (gh : rC_gh) (M : rv_Mem) (A : rv_Mem) (x5 : Bool) (x6 : Int32), rv_M (lk_G D cI cZ cO de z0 o k) (fun q => z0 ≤ q) p l e room_1 s m args below meth c (y1 + 518) (y2 + 24782) (lk_qL below args s) (k69 gh M A x5 x6) 69 [some (.ref b), some (.ref o), some (.ref (k 0)), some (.ref (k 1)), some (.ref (k 2)), some (.int (rv_i x5)), some (.int x6), none, none, none, none, none, none, none, none, none, none, none, none] [] (gh, M, A)) : ∀ (gh : rC_gh) (M : rv_Mem) (A : rv_Mem) (x5 : Bool) (x6 : Int32), rv_M (lk_G D cI cZ cO de z0 o k) (fun q => z0 ≤ q) p l e room_1 s m args below meth c (y1 + 0) (y2 + 0) (lk_qL below args s) (gp_law_69_s L xs k69 gh M A x5 x6) 69 [some (.ref b), some (.ref o), some (.ref (k 0)), some (.ref (k 1)), some (.ref (k 2)), some (.int (rv_i x5)), some (.int x6), none, none, none, none, none, none, none, none, none, none, none, none] [] (gh, M, A) := by
  intro gh M A x5 x6
  unfold gp_law_69_s
  refine rv_iload (q := 71) E.x dL_law_69 rfl rfl ?_
  refine rv_bipush (q := 73) E.x dL_law_71 rv_kb90 rfl ?_
  refine rv_icmp_ge (q := 76) (tgt := 1904) E.x dL_law_73 (by decide) rfl ?_ ?_
  · refine rv_iload (q := 78) E.x dL_law_76 rfl rfl ?_
    refine rv_ifz_eq (q := 81) (tgt := 1904) E.x dL_law_78 (by decide) rfl ?_ ?_
    · refine rv_aload_n (q := 82) E.x dL_law_81 rfl rfl ?_
      refine rv_b1 (fun r2 e1 => ?_)
      refine lk_cn (q := 85) (v := r2) (M1 := M) E (fun u hI => c11_commits hI e1) gP_181 hX11_commits ⟨rfl, rfl⟩ ⟨Nat.le_of_ble_eq_true rfl, Nat.le_of_ble_eq_true rfl⟩ ⟨lk_le1 hy1 (Nat.le_of_ble_eq_true rfl) (Nat.le_of_ble_eq_true rfl), lk_le1 hy2 (Nat.le_of_ble_eq_true rfl) (Nat.le_of_ble_eq_true rfl)⟩ rfl rfl rfl (Nat.le_of_ble_eq_true rfl) dL_law_82 rfl ?_
      refine rv_bipush (q := 87) E.x dL_law_85 rv_kb46 rfl ?_
      refine rv_icmp_ge (q := 90) (tgt := 1904) E.x dL_law_87 (by decide) rfl ?_ ?_
      · refine rv_aload_n (q := 91) E.x dL_law_90 rfl rfl ?_
        refine rv_iload (q := 93) E.x dL_law_91 rfl rfl ?_
        refine rv_b2 (fun r4 M5 e3 => ?_)
        refine lk_cs0 (q := 96) (v := r4) (σ' := (gh, M5, A)) E (wP_dice E.2.2.1 e3) gPs_257 hP_dice ⟨rfl, rfl⟩ ⟨Nat.le_of_ble_eq_true rfl, Nat.le_of_ble_eq_true rfl⟩ ⟨lk_le1 hy1 (Nat.le_of_ble_eq_true rfl) (Nat.le_of_ble_eq_true rfl), lk_le1 hy2 (Nat.le_of_ble_eq_true rfl) (Nat.le_of_ble_eq_true rfl)⟩ rfl rfl rfl (Nat.le_of_ble_eq_true rfl) dL_law_93 rfl ?_
        refine rv_istore (q := 98) (lv' := [_, _, _, _, _, _, _, _, _, _, _, _, _, _, _, _, _, _, _]) E.x dL_law_96 (Nat.le_of_ble_eq_true rfl) rfl rfl rfl ?_
        refine rv_iload (q := 100) E.x dL_law_98 rfl rfl ?_
        refine rv_bipush (q := 102) E.x dL_law_100 rv_kb32 rfl ?_
        refine rv_idiv (q := 103) E.x dL_law_102 (by decide) rfl ?_
        refine rv_istore (q := 105) (lv' := [_, _, _, _, _, _, _, _, _, _, _, _, _, _, _, _, _, _, _]) E.x dL_law_103 (Nat.le_of_ble_eq_true rfl) rfl rfl rfl ?_
        refine rv_iload (q := 107) E.x dL_law_105 rfl rfl ?_
        refine rv_bipush (q := 109) E.x dL_law_107 rv_kb32 rfl ?_
        refine rv_irem (q := 110) E.x dL_law_109 (by decide) rfl ?_
        refine rv_istore (q := 112) (lv' := [_, _, _, _, _, _, _, _, _, _, _, _, _, _, _, _, _, _, _]) E.x dL_law_110 (Nat.le_of_ble_eq_true rfl) rfl rfl rfl ?_
        refine rv_iload (q := 114) E.x dL_law_112 rfl rfl ?_
        refine rv_iconst (q := 115) E.x dL_law_114 rv_ki4 rfl ?_
        refine rv_irem (q := 116) E.x dL_law_115 (by decide) rfl ?_
        refine rv_istore (q := 118) (lv' := [_, _, _, _, _, _, _, _, _, _, _, _, _, _, _, _, _, _, _]) E.x dL_law_116 (Nat.le_of_ble_eq_true rfl) rfl rfl rfl ?_
        refine rv_aload_n (q := 119) E.x dL_law_118 rfl rfl ?_
        refine rv_b1 (fun r7 e6 => ?_)
        refine lk_cn (q := 122) (v := r7) (M1 := M5) E (fun u hI => c11_changes hI e6) gP_187 hX11_changes ⟨rfl, rfl⟩ ⟨Nat.le_of_ble_eq_true rfl, Nat.le_of_ble_eq_true rfl⟩ ⟨lk_le1 hy1 (Nat.le_of_ble_eq_true rfl) (Nat.le_of_ble_eq_true rfl), lk_le1 hy2 (Nat.le_of_ble_eq_true rfl) (Nat.le_of_ble_eq_true rfl)⟩ rfl rfl rfl (Nat.le_of_ble_eq_true rfl) dL_law_119 rfl ?_
        refine rv_if_ne (q := 125) (tgt := 129) E.x dL_law_122 (by decide) rfl ?_ ?_
        · refine rv_iconst (q := 126) E.x dL_law_125 rv_ki0 rfl ?_
          refine rv_goto (q := 138) E.x dL_law_126 (by decide) ?_
          refine rv_wk [true, true, true, true, true, false, true, true, true, true, true, false, false, false, false, false, false, false, false] ?_
          exact bp_law_138 E HL k69 y1 y2 hy1 hy2 h69 gh M5 A x6 r4 (r4 / 32) (r4 - r4 / 32 * 32) ((r4 / 32) - (r4 / 32) / 4 * 4) 0
        · refine rv_iload (q := 131) E.x dL_law_129 rfl rfl ?_
          refine rv_iconst (q := 132) E.x dL_law_131 rv_ki4 rfl ?_
          refine rv_idiv (q := 133) E.x dL_law_132 (by decide) rfl ?_
          refine rv_aload_n (q := 134) E.x dL_law_133 rfl rfl ?_
          refine rv_b1 (fun r9 e8 => ?_)
          refine lk_cn (q := 137) (v := r9) (M1 := M5) E (fun u hI => c11_changes hI e8) gP_187 hX11_changes ⟨rfl, rfl⟩ ⟨Nat.le_of_ble_eq_true rfl, Nat.le_of_ble_eq_true rfl⟩ ⟨lk_le1 hy1 (Nat.le_of_ble_eq_true rfl) (Nat.le_of_ble_eq_true rfl), lk_le1 hy2 (Nat.le_of_ble_eq_true rfl) (Nat.le_of_ble_eq_true rfl)⟩ rfl rfl rfl (Nat.le_of_ble_eq_true rfl) dL_law_134 rfl ?_
          refine rv_iremg (q := 138) E.x dL_law_137 rfl ?_
          refine rv_wk [true, true, true, true, true, false, true, true, true, true, true, false, false, false, false, false, false, false, false] ?_
          exact bp_law_138 E HL k69 y1 y2 hy1 hy2 h69 gh M5 A x6 r4 (r4 / 32) (r4 - r4 / 32 * 32) ((r4 / 32) - (r4 / 32) / 4 * 4) (((r4 / 32) / 4) - ((r4 / 32) / 4) / r9 * r9)
      · refine rv_wd 48223 2312135 (lk_le1 hy1 (Nat.le_of_ble_eq_true rfl) (Nat.le_of_ble_eq_true rfl)) (lk_le1 hy2 (Nat.le_of_ble_eq_true rfl) (Nat.le_of_ble_eq_true rfl)) ?_
        refine rv_wk [false, true, true, false, false, true, false, false, false, false, false, false, false, false, false, false, false, false, false] ?_
        exact bp_law_1904 E HL gh M A x5
    · refine rv_wd 48223 2312135 (lk_le1 hy1 (Nat.le_of_ble_eq_true rfl) (Nat.le_of_ble_eq_true rfl)) (lk_le1 hy2 (Nat.le_of_ble_eq_true rfl) (Nat.le_of_ble_eq_true rfl)) ?_
      refine rv_wk [false, true, true, false, false, true, false, false, false, false, false, false, false, false, false, false, false, false, false] ?_
      exact bp_law_1904 E HL gh M A x5
  · refine rv_wd 48223 2312135 (lk_le1 hy1 (Nat.le_of_ble_eq_true rfl) (Nat.le_of_ble_eq_true rfl)) (lk_le1 hy2 (Nat.le_of_ble_eq_true rfl) (Nat.le_of_ble_eq_true rfl)) ?_
    refine rv_wk [false, true, true, false, false, true, false, false, false, false, false, false, false, false, false, false, false, false, false] ?_
    exact bp_law_1904 E HL gh M A x5
theorem bp_law_69 {p : Program} {l : Launch} {e : Env} {s : State} {m : MethodId} {args : Array Value} {below : List Frame} {meth : Method} {c : Code} {D : va_G} {cI cZ cO : ClassId} {mi de z0 o b L : Nat} {k : Nat → Nat} {xs : Nat → Int32} (E : lk_E D cI cZ cO mi de z0 b L k xs cL_law 19 (some .boolean) p l s m args meth c) (HL : s.heap.size ≤ z0 ∧ args = #[Value.ref b])  : ∀ (n y1 y2 : Nat), y1 + n * 518 ≤ 48223 → y2 + n * 24782 ≤ 2312135 → ∀ (gh : rC_gh) (M : rv_Mem) (A : rv_Mem) (x5 : Bool) (x6 : Int32), rv_M (lk_G D cI cZ cO de z0 o k) (fun q => z0 ≤ q) p l e room_1 s m args below meth c (y1 + 0) (y2 + 0) (lk_qL below args s) (gp_law_69 L xs n gh M A x5 x6) 69 [some (.ref b), some (.ref o), some (.ref (k 0)), some (.ref (k 1)), some (.ref (k 2)), some (.int (rv_i x5)), some (.int x6), none, none, none, none, none, none, none, none, none, none, none, none] [] (gh, M, A) := by
  intro n
  induction n with
  | zero => exact fun _ _ _ _ _ _ _ _ _ => rv_stuck
  | succ n ih => exact fun y1 y2 hy1 hy2 => bp_law_69_s E HL y1 y2 (by omega) (by omega) (gp_law_69 L xs n) (ih (y1 + 518) (y2 + 24782) (by omega) (by omega))
set_option maxRecDepth 100000 in
theorem bp_law_64 {p : Program} {l : Launch} {e : Env} {s : State} {m : MethodId} {args : Array Value} {below : List Frame} {meth : Method} {c : Code} {D : va_G} {cI cZ cO : ClassId} {mi de z0 o b L : Nat} {k : Nat → Nat} {xs : Nat → Int32} (E : lk_E D cI cZ cO mi de z0 b L k xs cL_law 19 (some .boolean) p l s m args meth c) (HL : s.heap.size ≤ z0 ∧ args = #[Value.ref b])    : ∀ (gh : rC_gh) (M : rv_Mem) (A : rv_Mem) (s0 : Bool), rv_M (lk_G D cI cZ cO de z0 o k) (fun q => z0 ≤ q) p l e room_1 s m args below meth c 1085 56973 (lk_qL below args s) (gp_law_64 L xs gh M A s0) 64 [some (.ref b), some (.ref o), some (.ref (k 0)), some (.ref (k 1)), some (.ref (k 2)), none, none, none, none, none, none, none, none, none, none, none, none, none, none] [.int (rv_i s0)] (gh, M, A) := by
  intro gh M A s0
  unfold gp_law_64
  refine rv_istore (q := 66) (lv' := [_, _, _, _, _, _, _, _, _, _, _, _, _, _, _, _, _, _, _]) E.x dL_law_64 (Nat.le_of_ble_eq_true rfl) rfl rfl rfl ?_
  refine rv_iconst (q := 67) E.x dL_law_66 rv_ki0 rfl ?_
  refine rv_istore (q := 69) (lv' := [_, _, _, _, _, _, _, _, _, _, _, _, _, _, _, _, _, _, _]) E.x dL_law_67 (Nat.le_of_ble_eq_true rfl) rfl rfl rfl ?_
  refine rv_wk [true, true, true, true, true, true, true, false, false, false, false, false, false, false, false, false, false, false, false] ?_
  refine rv_wd (1085 + 0) (56973 + 0) (Nat.le_of_ble_eq_true rfl) (Nat.le_of_ble_eq_true rfl) ?_
  exact bp_law_69 E HL 91 1085 56973 (Nat.le_of_ble_eq_true rfl) (Nat.le_of_ble_eq_true rfl) gh M A s0 0
set_option maxRecDepth 100000 in
theorem bp_law_63 {p : Program} {l : Launch} {e : Env} {s : State} {m : MethodId} {args : Array Value} {below : List Frame} {meth : Method} {c : Code} {D : va_G} {cI cZ cO : ClassId} {mi de z0 o b L : Nat} {k : Nat → Nat} {xs : Nat → Int32} (E : lk_E D cI cZ cO mi de z0 b L k xs cL_law 19 (some .boolean) p l s m args meth c) (HL : s.heap.size ≤ z0 ∧ args = #[Value.ref b])    : ∀ (gh : rC_gh) (M : rv_Mem) (A : rv_Mem), rv_M (lk_G D cI cZ cO de z0 o k) (fun q => z0 ≤ q) p l e room_1 s m args below meth c 1085 56973 (lk_qL below args s) (gp_law_63 L xs gh M A) 63 [some (.ref b), some (.ref o), some (.ref (k 0)), some (.ref (k 1)), some (.ref (k 2)), none, none, none, none, none, none, none, none, none, none, none, none, none, none] [] (gh, M, A) := by
  intro gh M A
  unfold gp_law_63
  refine rv_iconst (q := 64) E.x dL_law_63 rv_ki0 rfl ?_
  refine rv_wk [true, true, true, true, true, false, false, false, false, false, false, false, false, false, false, false, false, false, false] ?_
  exact bp_law_64 E HL gh M A false
set_option maxRecDepth 100000 in
theorem bp_law {p : Program} {l : Launch} {e : Env} {s : State} {m : MethodId} {args : Array Value} {below : List Frame} {meth : Method} {c : Code} {D : va_G} {cI cZ cO : ClassId} {mi de z0 o b L : Nat} {k : Nat → Nat} {xs : Nat → Int32} (E : lk_E D cI cZ cO mi de z0 b L k xs cL_law 19 (some .boolean) p l s m args meth c) (HL : s.heap.size ≤ z0 ∧ args = #[Value.ref b]) (gh : rC_gh) (M A : rv_Mem)  : rv_M (lk_G D cI cZ cO de z0 o k) (fun q => z0 ≤ q) p l e room_1 s m args below meth c 60 8000 (lk_qL below args s) (gp_law_23 L xs gh M A) 23 [some (.ref b), some (.ref o), some (.ref (k 0)), some (.ref (k 1)), some (.ref (k 2)), none, none, none, none, none, none, none, none, none, none, none, none, none, none] [] (gh, M, A) := by
  unfold gp_law_23
  refine rv_aload_n (q := 24) E.x dL_law_23 rfl rfl ?_
  refine rv_aload_n (q := 25) E.x dL_law_24 rfl rfl ?_
  refine rv_aload (q := 27) E.x dL_law_25 rfl rfl ?_
  refine rv_iconst (q := 28) E.x dL_law_27 rv_ki0 rfl ?_
  refine lk_b3 (fun r2 g4 M3 e1 => ?_)
  refine lk_cs (q := 31) (v := (rv_i r2)) (σ' := (g4, M3, A)) E (wP_isRefused E.2.2.1 e1) gPs_253 hP_isRefused ⟨rfl, rfl⟩ ⟨Nat.le_of_ble_eq_true rfl, Nat.le_of_ble_eq_true rfl⟩ ⟨Nat.le_of_ble_eq_true rfl, Nat.le_of_ble_eq_true rfl⟩ rfl rfl rfl (Nat.le_of_ble_eq_true rfl) dL_law_28 rfl ?_
  refine rv_ifz_eq (q := 34) (tgt := 63) E.x dL_law_31 (by decide) rfl ?_ ?_
  · refine rv_aload_n (q := 35) E.x dL_law_34 rfl rfl ?_
    refine rv_aload_n (q := 36) E.x dL_law_35 rfl rfl ?_
    refine rv_aload (q := 38) E.x dL_law_36 rfl rfl ?_
    refine rv_iconst (q := 39) E.x dL_law_38 rv_ki1 rfl ?_
    refine lk_b3 (fun r6 g8 M7 e5 => ?_)
    refine lk_cs (q := 42) (v := (rv_i r6)) (σ' := (g8, M7, A)) E (wP_isRefused E.2.2.1 e5) gPs_253 hP_isRefused ⟨rfl, rfl⟩ ⟨Nat.le_of_ble_eq_true rfl, Nat.le_of_ble_eq_true rfl⟩ ⟨Nat.le_of_ble_eq_true rfl, Nat.le_of_ble_eq_true rfl⟩ rfl rfl rfl (Nat.le_of_ble_eq_true rfl) dL_law_39 rfl ?_
    refine rv_ifz_eq (q := 45) (tgt := 63) E.x dL_law_42 (by decide) rfl ?_ ?_
    · refine rv_aload_n (q := 46) E.x dL_law_45 rfl rfl ?_
      refine rv_bipush (q := 48) E.x dL_law_46 rv_kb23 rfl ?_
      refine rv_iconst (q := 49) E.x dL_law_48 rv_ki4 rfl ?_
      refine rv_iconst (q := 50) E.x dL_law_49 rv_ki0 rfl ?_
      refine rv_iconst (q := 51) E.x dL_law_50 rv_ki0 rfl ?_
      refine rv_iconst (q := 52) E.x dL_law_51 rv_ki0 rfl ?_
      refine rv_iconst (q := 53) E.x dL_law_52 rv_ki0 rfl ?_
      refine lk_b3 (fun r10 g12 M11 e9 => ?_)
      refine lk_csW (q := 56) (v := r10) (σ' := (g12, M11, A)) E (wP_act E.2.2.1 e9) gPs_241 hP_act ⟨rfl, rfl⟩ ⟨Nat.le_of_ble_eq_true rfl, Nat.le_of_ble_eq_true rfl⟩ ⟨Nat.le_of_ble_eq_true rfl, Nat.le_of_ble_eq_true rfl⟩ rfl rfl rfl (Nat.le_of_ble_eq_true rfl) dL_law_53 rfl ?_
      refine rv_if_ne (q := 59) (tgt := 63) E.x dL_law_56 (by decide) rfl ?_ ?_
      · refine rv_iconst (q := 60) E.x dL_law_59 rv_ki1 rfl ?_
        refine rv_goto (q := 64) E.x dL_law_60 (by decide) ?_
        refine rv_wk [true, true, true, true, true, false, false, false, false, false, false, false, false, false, false, false, false, false, false] ?_
        exact bp_law_64 E HL g12 M11 A true
      · refine rv_wk [true, true, true, true, true, false, false, false, false, false, false, false, false, false, false, false, false, false, false] ?_
        exact bp_law_63 E HL g12 M11 A
    · refine rv_wk [true, true, true, true, true, false, false, false, false, false, false, false, false, false, false, false, false, false, false] ?_
      refine rv_wd 1085 56973 (Nat.le_of_ble_eq_true rfl) (Nat.le_of_ble_eq_true rfl) ?_
      exact bp_law_63 E HL g8 M7 A
  · refine rv_wk [true, true, true, true, true, false, false, false, false, false, false, false, false, false, false, false, false, false, false] ?_
    refine rv_wd 1085 56973 (Nat.le_of_ble_eq_true rfl) (Nat.le_of_ble_eq_true rfl) ?_
    exact bp_law_63 E HL g4 M3 A
