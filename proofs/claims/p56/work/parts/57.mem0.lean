/-! THE MEMORY AT THE START, by program (tools/mk41.py) -/
def m0_off : List Nat := [0, 1, 12, 32, 35, 41, 48, 13, 22, 45, 46, 47, 51, 52, 2, 3, 4, 5, 6, 7, 8, 9, 10, 11, 31, 14, 23, 15, 24, 16, 25, 17, 26, 18, 27, 19, 28, 20, 29, 21, 30, 33, 34, 36, 37, 38, 39, 40, 42, 43, 44, 49, 50]
def m0_ad (b de : Nat) (k : Nat) : Nat := if k < 53 then b + m0_off.getD k 0 else de
def m0_gh : rC_gh := (fun _ => 0, fun _ => 0)
def m0_Cl : List (Nat → Int32) := [fun _ => 0, fun j => ([0, 0, 0, 0, 0, 0, 0, 0, 0, 0, 2] : List Int32).getD j 0, fun _ => 0, fun _ => 0, fun j => ([0, 0, 0, 0, 0, 0, 1] : List Int32).getD j 0, fun _ => 0, fun _ => 0, fun _ => 0, fun _ => 0, fun _ => 0, fun _ => 0, fun _ => 0, fun _ => 0, fun _ => 0, fun _ => 0, fun _ => 0, upd (upd (fun _ => 0) 0 0) 1 1, upd (upd (fun _ => 0) 0 (-1)) 1 (-1), fun _ => (-1), fun _ => (-1), fun _ => 0, fun _ => 0, upd (upd (fun _ => 0) 0 0) 1 1, fun _ => (-1), fun _ => 0, fun _ => 0, fun _ => 0, fun _ => 0, fun _ => 0, fun _ => 0, fun _ => 0, fun _ => 0, fun _ => 0, fun _ => 0, fun _ => 0, fun _ => 0, fun _ => 0, fun _ => 0, fun _ => 0, fun _ => 0, fun _ => 0, fun _ => (-9), upd (upd (upd (upd (upd (upd (fun _ => 0) 0 1) 1 17) 2 31) 3 2) 4 10) 5 14, upd (fun _ => 0) 0 15, upd (fun _ => 0) 0 7, upd (fun _ => 0) 0 48, fun _ => 0, fun _ => 0, fun _ => 0, fun _ => 0, fun _ => 0, upd (upd (fun _ => 0) 0 1) 1 1, fun _ => 0]
def m0_C : rv_Mem := fun k => m0_Cl.getD k (fun _ => 0)
def kg_X12 (j : Nat) : Nat → Int32 := fun i => if i < j then -1 else 0
def m0_Rl : List (Nat → Int32) := [fun _ => 2, upd (fun _ => 0) 1 1, upd (upd (fun _ => 0) 0 (-1)) 1 (-1), fun _ => 0, fun _ => 0, kg_X12 82, fun _ => 0, fun _ => 0, kg_X12 82, upd (fun _ => 0) 1 1, upd (upd (fun _ => 0) 0 1) 1 1, fun _ => 0, fun _ => 0, fun _ => 0, fun _ => 0, fun _ => 0, fun _ => 0, fun _ => 0, fun _ => 0, fun _ => 0, fun _ => 0, fun _ => 0, fun _ => 0, upd (upd (upd (upd (upd (upd (fun _ => 0) 0 1) 1 17) 2 31) 3 2) 4 10) 5 14, fun _ => 0, fun _ => 0, fun _ => 0, fun _ => 0, fun _ => 0, fun _ => 0, fun _ => 0, fun _ => 0, fun _ => 0, fun _ => 0, fun _ => 0, fun _ => 0, fun _ => 0, fun _ => 0, fun _ => 0, fun _ => 0, fun _ => 0, fun _ => 0, fun _ => 0, fun _ => 0, fun _ => 0, fun _ => 1, upd (fun _ => 0) 0 15, upd (fun _ => 0) 0 7, upd (fun _ => 0) 0 48, fun _ => 0, fun _ => 0, fun _ => 0, fun _ => 0, fun _ => 0, fun _ => 0, fun _ => 0, fun _ => 0, fun _ => 0, fun _ => 0, fun _ => 0, fun _ => 0, fun _ => 0, fun _ => 0, fun _ => 0, fun _ => 0, fun _ => 0, fun _ => 0]
def m0_R : rv_Mem := fun k => m0_Rl.getD k (fun _ => 0)
theorem m0_inj : ∀ i, i < 53 → ∀ j, j < 53 → m0_off.getD i 0 = m0_off.getD j 0 → i = j := by decide +kernel
theorem m0_le : ∀ i, i < 53 → m0_off.getD i 0 ≤ 52 := by decide +kernel
theorem m0_dm {k : Nat} (h : rC_dm m0_gh k = true) : k < 53 := by
  by_cases c : k < 53
  · exact c
  · exfalso
    unfold rC_dm at h
    rw [if_neg c] at h
    simp only [m0_gh] at h
    (repeat' split at h) <;> first | (have h9 := of_decide_eq_true h; omega) | (simp at h; omega) | (simp at h)
section
variable {D : va_G} {cI cZ cO : ClassId} {b de : Nat} {H : Heap}
set_option maxRecDepth 100000 in
theorem m0_k0 (hW : rK_W D b 12 (kf_X11_init b, kw_X11_init cI cZ cO de b) H) : va_at D vwCl (m0_ad b de 0, rC_ent cI cZ (m0_ad b de) m0_gh m0_C 0) H := hW.2.1
set_option maxRecDepth 100000 in
theorem m0_k1 (hW : rK_W D b 12 (kf_X11_init b, kw_X11_init cI cZ cO de b) H) : va_at D vwCl (m0_ad b de 1, rC_ent cI cZ (m0_ad b de) m0_gh m0_C 1) H := hW.2.2 0 _ rfl
set_option maxRecDepth 100000 in
theorem m0_k2 (hW : rK_W D b 12 (kf_X11_init b, kw_X11_init cI cZ cO de b) H) : va_at D vwCl (m0_ad b de 2, rC_ent cI cZ (m0_ad b de) m0_gh m0_C 2) H := hW.2.2 11 _ rfl
set_option maxRecDepth 100000 in
theorem m0_k3 (hW : rK_W D b 12 (kf_X11_init b, kw_X11_init cI cZ cO de b) H) : va_at D vwCl (m0_ad b de 3, rC_ent cI cZ (m0_ad b de) m0_gh m0_C 3) H := hW.2.2 31 _ rfl
set_option maxRecDepth 100000 in
theorem m0_k4 (hW : rK_W D b 12 (kf_X11_init b, kw_X11_init cI cZ cO de b) H) : va_at D vwCl (m0_ad b de 4, rC_ent cI cZ (m0_ad b de) m0_gh m0_C 4) H := hW.2.2 34 _ rfl
set_option maxRecDepth 100000 in
theorem m0_k5 (hW : rK_W D b 12 (kf_X11_init b, kw_X11_init cI cZ cO de b) H) : va_at D vwCl (m0_ad b de 5, rC_ent cI cZ (m0_ad b de) m0_gh m0_C 5) H := hW.2.2 40 _ rfl
set_option maxRecDepth 100000 in
theorem m0_k6 (hW : rK_W D b 12 (kf_X11_init b, kw_X11_init cI cZ cO de b) H) : va_at D vwCl (m0_ad b de 6, rC_ent cI cZ (m0_ad b de) m0_gh m0_C 6) H := hW.2.2 47 _ rfl
set_option maxRecDepth 100000 in
theorem m0_k7 (hW : rK_W D b 12 (kf_X11_init b, kw_X11_init cI cZ cO de b) H) : va_at D vwCl (m0_ad b de 7, rC_ent cI cZ (m0_ad b de) m0_gh m0_C 7) H := hW.2.2 12 _ rfl
set_option maxRecDepth 100000 in
theorem m0_k8 (hW : rK_W D b 12 (kf_X11_init b, kw_X11_init cI cZ cO de b) H) : va_at D vwCl (m0_ad b de 8, rC_ent cI cZ (m0_ad b de) m0_gh m0_C 8) H := hW.2.2 21 _ rfl
set_option maxRecDepth 100000 in
theorem m0_k12 (hW : rK_W D b 12 (kf_X11_init b, kw_X11_init cI cZ cO de b) H) : va_at D vwCl (m0_ad b de 12, rC_ent cI cZ (m0_ad b de) m0_gh m0_C 12) H := hW.2.2 50 _ rfl
set_option maxRecDepth 100000 in
theorem m0_k13 (hW : rK_W D b 12 (kf_X11_init b, kw_X11_init cI cZ cO de b) H) : va_at D vwCl (m0_ad b de 13, rC_ent cI cZ (m0_ad b de) m0_gh m0_C 13) H := hW.2.2 51 _ rfl
set_option maxRecDepth 100000 in
theorem m0_k14 (hW : rK_W D b 12 (kf_X11_init b, kw_X11_init cI cZ cO de b) H) : va_at D vwCl (m0_ad b de 14, rC_ent cI cZ (m0_ad b de) m0_gh m0_C 14) H := hW.2.2 1 _ rfl
set_option maxRecDepth 100000 in
theorem m0_k15 (hW : rK_W D b 12 (kf_X11_init b, kw_X11_init cI cZ cO de b) H) : va_at D vwCl (m0_ad b de 15, rC_ent cI cZ (m0_ad b de) m0_gh m0_C 15) H := hW.2.2 2 _ rfl
set_option maxRecDepth 100000 in
theorem m0_k16 (hW : rK_W D b 12 (kf_X11_init b, kw_X11_init cI cZ cO de b) H) : va_at D vwCl (m0_ad b de 16, rC_ent cI cZ (m0_ad b de) m0_gh m0_C 16) H := hW.2.2 3 _ rfl
set_option maxRecDepth 100000 in
theorem m0_k17 (hW : rK_W D b 12 (kf_X11_init b, kw_X11_init cI cZ cO de b) H) : va_at D vwCl (m0_ad b de 17, rC_ent cI cZ (m0_ad b de) m0_gh m0_C 17) H := hW.2.2 4 _ rfl
set_option maxRecDepth 100000 in
theorem m0_k18 (hW : rK_W D b 12 (kf_X11_init b, kw_X11_init cI cZ cO de b) H) : va_at D vwCl (m0_ad b de 18, rC_ent cI cZ (m0_ad b de) m0_gh m0_C 18) H := hW.2.2 5 _ rfl
set_option maxRecDepth 100000 in
theorem m0_k19 (hW : rK_W D b 12 (kf_X11_init b, kw_X11_init cI cZ cO de b) H) : va_at D vwCl (m0_ad b de 19, rC_ent cI cZ (m0_ad b de) m0_gh m0_C 19) H := hW.2.2 6 _ rfl
set_option maxRecDepth 100000 in
theorem m0_k20 (hW : rK_W D b 12 (kf_X11_init b, kw_X11_init cI cZ cO de b) H) : va_at D vwCl (m0_ad b de 20, rC_ent cI cZ (m0_ad b de) m0_gh m0_C 20) H := hW.2.2 7 _ rfl
set_option maxRecDepth 100000 in
theorem m0_k21 (hW : rK_W D b 12 (kf_X11_init b, kw_X11_init cI cZ cO de b) H) : va_at D vwCl (m0_ad b de 21, rC_ent cI cZ (m0_ad b de) m0_gh m0_C 21) H := hW.2.2 8 _ rfl
set_option maxRecDepth 100000 in
theorem m0_k22 (hW : rK_W D b 12 (kf_X11_init b, kw_X11_init cI cZ cO de b) H) : va_at D vwCl (m0_ad b de 22, rC_ent cI cZ (m0_ad b de) m0_gh m0_C 22) H := hW.2.2 9 _ rfl
set_option maxRecDepth 100000 in
theorem m0_k23 (hW : rK_W D b 12 (kf_X11_init b, kw_X11_init cI cZ cO de b) H) : va_at D vwCl (m0_ad b de 23, rC_ent cI cZ (m0_ad b de) m0_gh m0_C 23) H := hW.2.2 10 _ rfl
set_option maxRecDepth 100000 in
theorem m0_k24 (hW : rK_W D b 12 (kf_X11_init b, kw_X11_init cI cZ cO de b) H) : va_at D vwCl (m0_ad b de 24, rC_ent cI cZ (m0_ad b de) m0_gh m0_C 24) H := hW.2.2 30 _ rfl
set_option maxRecDepth 100000 in
theorem m0_k25 (hW : rK_W D b 12 (kf_X11_init b, kw_X11_init cI cZ cO de b) H) : va_at D vwCl (m0_ad b de 25, rC_ent cI cZ (m0_ad b de) m0_gh m0_C 25) H := hW.2.2 13 _ rfl
set_option maxRecDepth 100000 in
theorem m0_k26 (hW : rK_W D b 12 (kf_X11_init b, kw_X11_init cI cZ cO de b) H) : va_at D vwCl (m0_ad b de 26, rC_ent cI cZ (m0_ad b de) m0_gh m0_C 26) H := hW.2.2 22 _ rfl
set_option maxRecDepth 100000 in
theorem m0_k27 (hW : rK_W D b 12 (kf_X11_init b, kw_X11_init cI cZ cO de b) H) : va_at D vwCl (m0_ad b de 27, rC_ent cI cZ (m0_ad b de) m0_gh m0_C 27) H := hW.2.2 14 _ rfl
set_option maxRecDepth 100000 in
theorem m0_k28 (hW : rK_W D b 12 (kf_X11_init b, kw_X11_init cI cZ cO de b) H) : va_at D vwCl (m0_ad b de 28, rC_ent cI cZ (m0_ad b de) m0_gh m0_C 28) H := hW.2.2 23 _ rfl
set_option maxRecDepth 100000 in
theorem m0_k29 (hW : rK_W D b 12 (kf_X11_init b, kw_X11_init cI cZ cO de b) H) : va_at D vwCl (m0_ad b de 29, rC_ent cI cZ (m0_ad b de) m0_gh m0_C 29) H := hW.2.2 15 _ rfl
set_option maxRecDepth 100000 in
theorem m0_k30 (hW : rK_W D b 12 (kf_X11_init b, kw_X11_init cI cZ cO de b) H) : va_at D vwCl (m0_ad b de 30, rC_ent cI cZ (m0_ad b de) m0_gh m0_C 30) H := hW.2.2 24 _ rfl
set_option maxRecDepth 100000 in
theorem m0_k31 (hW : rK_W D b 12 (kf_X11_init b, kw_X11_init cI cZ cO de b) H) : va_at D vwCl (m0_ad b de 31, rC_ent cI cZ (m0_ad b de) m0_gh m0_C 31) H := hW.2.2 16 _ rfl
set_option maxRecDepth 100000 in
theorem m0_k32 (hW : rK_W D b 12 (kf_X11_init b, kw_X11_init cI cZ cO de b) H) : va_at D vwCl (m0_ad b de 32, rC_ent cI cZ (m0_ad b de) m0_gh m0_C 32) H := hW.2.2 25 _ rfl
set_option maxRecDepth 100000 in
theorem m0_k33 (hW : rK_W D b 12 (kf_X11_init b, kw_X11_init cI cZ cO de b) H) : va_at D vwCl (m0_ad b de 33, rC_ent cI cZ (m0_ad b de) m0_gh m0_C 33) H := hW.2.2 17 _ rfl
set_option maxRecDepth 100000 in
theorem m0_k34 (hW : rK_W D b 12 (kf_X11_init b, kw_X11_init cI cZ cO de b) H) : va_at D vwCl (m0_ad b de 34, rC_ent cI cZ (m0_ad b de) m0_gh m0_C 34) H := hW.2.2 26 _ rfl
set_option maxRecDepth 100000 in
theorem m0_k35 (hW : rK_W D b 12 (kf_X11_init b, kw_X11_init cI cZ cO de b) H) : va_at D vwCl (m0_ad b de 35, rC_ent cI cZ (m0_ad b de) m0_gh m0_C 35) H := hW.2.2 18 _ rfl
set_option maxRecDepth 100000 in
theorem m0_k36 (hW : rK_W D b 12 (kf_X11_init b, kw_X11_init cI cZ cO de b) H) : va_at D vwCl (m0_ad b de 36, rC_ent cI cZ (m0_ad b de) m0_gh m0_C 36) H := hW.2.2 27 _ rfl
set_option maxRecDepth 100000 in
theorem m0_k37 (hW : rK_W D b 12 (kf_X11_init b, kw_X11_init cI cZ cO de b) H) : va_at D vwCl (m0_ad b de 37, rC_ent cI cZ (m0_ad b de) m0_gh m0_C 37) H := hW.2.2 19 _ rfl
set_option maxRecDepth 100000 in
theorem m0_k38 (hW : rK_W D b 12 (kf_X11_init b, kw_X11_init cI cZ cO de b) H) : va_at D vwCl (m0_ad b de 38, rC_ent cI cZ (m0_ad b de) m0_gh m0_C 38) H := hW.2.2 28 _ rfl
set_option maxRecDepth 100000 in
theorem m0_k39 (hW : rK_W D b 12 (kf_X11_init b, kw_X11_init cI cZ cO de b) H) : va_at D vwCl (m0_ad b de 39, rC_ent cI cZ (m0_ad b de) m0_gh m0_C 39) H := hW.2.2 20 _ rfl
set_option maxRecDepth 100000 in
theorem m0_k40 (hW : rK_W D b 12 (kf_X11_init b, kw_X11_init cI cZ cO de b) H) : va_at D vwCl (m0_ad b de 40, rC_ent cI cZ (m0_ad b de) m0_gh m0_C 40) H := hW.2.2 29 _ rfl
set_option maxRecDepth 100000 in
theorem m0_k41 (hW : rK_W D b 12 (kf_X11_init b, kw_X11_init cI cZ cO de b) H) : va_at D vwCl (m0_ad b de 41, rC_ent cI cZ (m0_ad b de) m0_gh m0_C 41) H := hW.2.2 32 _ rfl
set_option maxRecDepth 100000 in
theorem m0_k42 (hW : rK_W D b 12 (kf_X11_init b, kw_X11_init cI cZ cO de b) H) : va_at D vwCl (m0_ad b de 42, rC_ent cI cZ (m0_ad b de) m0_gh m0_C 42) H := hW.2.2 33 _ rfl
set_option maxRecDepth 100000 in
theorem m0_k43 (hW : rK_W D b 12 (kf_X11_init b, kw_X11_init cI cZ cO de b) H) : va_at D vwCl (m0_ad b de 43, rC_ent cI cZ (m0_ad b de) m0_gh m0_C 43) H := hW.2.2 35 _ rfl
set_option maxRecDepth 100000 in
theorem m0_k44 (hW : rK_W D b 12 (kf_X11_init b, kw_X11_init cI cZ cO de b) H) : va_at D vwCl (m0_ad b de 44, rC_ent cI cZ (m0_ad b de) m0_gh m0_C 44) H := hW.2.2 36 _ rfl
set_option maxRecDepth 100000 in
theorem m0_k45 (hW : rK_W D b 12 (kf_X11_init b, kw_X11_init cI cZ cO de b) H) : va_at D vwCl (m0_ad b de 45, rC_ent cI cZ (m0_ad b de) m0_gh m0_C 45) H := hW.2.2 37 _ rfl
set_option maxRecDepth 100000 in
theorem m0_k46 (hW : rK_W D b 12 (kf_X11_init b, kw_X11_init cI cZ cO de b) H) : va_at D vwCl (m0_ad b de 46, rC_ent cI cZ (m0_ad b de) m0_gh m0_C 46) H := hW.2.2 38 _ rfl
set_option maxRecDepth 100000 in
theorem m0_k47 (hW : rK_W D b 12 (kf_X11_init b, kw_X11_init cI cZ cO de b) H) : va_at D vwCl (m0_ad b de 47, rC_ent cI cZ (m0_ad b de) m0_gh m0_C 47) H := hW.2.2 39 _ rfl
set_option maxRecDepth 100000 in
theorem m0_k48 (hW : rK_W D b 12 (kf_X11_init b, kw_X11_init cI cZ cO de b) H) : va_at D vwCl (m0_ad b de 48, rC_ent cI cZ (m0_ad b de) m0_gh m0_C 48) H := hW.2.2 41 _ rfl
set_option maxRecDepth 100000 in
theorem m0_k49 (hW : rK_W D b 12 (kf_X11_init b, kw_X11_init cI cZ cO de b) H) : va_at D vwCl (m0_ad b de 49, rC_ent cI cZ (m0_ad b de) m0_gh m0_C 49) H := hW.2.2 42 _ rfl
set_option maxRecDepth 100000 in
theorem m0_k50 (hW : rK_W D b 12 (kf_X11_init b, kw_X11_init cI cZ cO de b) H) : va_at D vwCl (m0_ad b de 50, rC_ent cI cZ (m0_ad b de) m0_gh m0_C 50) H := hW.2.2 43 _ rfl
set_option maxRecDepth 100000 in
theorem m0_k51 (hW : rK_W D b 12 (kf_X11_init b, kw_X11_init cI cZ cO de b) H) : va_at D vwCl (m0_ad b de 51, rC_ent cI cZ (m0_ad b de) m0_gh m0_C 51) H := hW.2.2 48 _ rfl
set_option maxRecDepth 100000 in
theorem m0_k52 (hW : rK_W D b 12 (kf_X11_init b, kw_X11_init cI cZ cO de b) H) : va_at D vwCl (m0_ad b de 52, rC_ent cI cZ (m0_ad b de) m0_gh m0_C 52) H := hW.2.2 49 _ rfl
theorem m0_G (hW : rK_W D b 12 (kf_X11_init b, kw_X11_init cI cZ cO de b) H) (hde : rC_LA D cO de 0 0 (fun _ => none) H) (hlt : de < b) : rC_G D cI cZ cO (m0_ad b de) m0_gh de m0_C H := by
  have hne : ∀ k, k < 53 → m0_ad b de k ≠ de := fun k hk => by
    unfold m0_ad
    rw [if_pos hk]
    omega
  refine ⟨fun k hk => ?_, fun i hi => ?_⟩
  · have h53 := m0_dm hk
    exact (match k, h53, hk with
    | 0, _, _ => m0_k0 hW
    | 1, _, _ => m0_k1 hW
    | 2, _, _ => m0_k2 hW
    | 3, _, _ => m0_k3 hW
    | 4, _, _ => m0_k4 hW
    | 5, _, _ => m0_k5 hW
    | 6, _, _ => m0_k6 hW
    | 7, _, _ => m0_k7 hW
    | 8, _, _ => m0_k8 hW
    | 12, _, _ => m0_k12 hW
    | 13, _, _ => m0_k13 hW
    | 14, _, _ => m0_k14 hW
    | 15, _, _ => m0_k15 hW
    | 16, _, _ => m0_k16 hW
    | 17, _, _ => m0_k17 hW
    | 18, _, _ => m0_k18 hW
    | 19, _, _ => m0_k19 hW
    | 20, _, _ => m0_k20 hW
    | 21, _, _ => m0_k21 hW
    | 22, _, _ => m0_k22 hW
    | 23, _, _ => m0_k23 hW
    | 24, _, _ => m0_k24 hW
    | 25, _, _ => m0_k25 hW
    | 26, _, _ => m0_k26 hW
    | 27, _, _ => m0_k27 hW
    | 28, _, _ => m0_k28 hW
    | 29, _, _ => m0_k29 hW
    | 30, _, _ => m0_k30 hW
    | 31, _, _ => m0_k31 hW
    | 32, _, _ => m0_k32 hW
    | 33, _, _ => m0_k33 hW
    | 34, _, _ => m0_k34 hW
    | 35, _, _ => m0_k35 hW
    | 36, _, _ => m0_k36 hW
    | 37, _, _ => m0_k37 hW
    | 38, _, _ => m0_k38 hW
    | 39, _, _ => m0_k39 hW
    | 40, _, _ => m0_k40 hW
    | 41, _, _ => m0_k41 hW
    | 42, _, _ => m0_k42 hW
    | 43, _, _ => m0_k43 hW
    | 44, _, _ => m0_k44 hW
    | 45, _, _ => m0_k45 hW
    | 46, _, _ => m0_k46 hW
    | 47, _, _ => m0_k47 hW
    | 48, _, _ => m0_k48 hW
    | 49, _, _ => m0_k49 hW
    | 50, _, _ => m0_k50 hW
    | 51, _, _ => m0_k51 hW
    | 52, _, _ => m0_k52 hW
    | 9, _, h => absurd h (by decide)
    | 10, _, h => absurd h (by decide)
    | 11, _, h => absurd h (by decide)
    | k + 53, h, _ => absurd h (by omega))
  · have hl : va_at D vwCl (m0_ad b de (9 + i), .inr (0, [.int 0, .ref de, .int 0])) H := by
      match i, hi with
      | 0, _ => exact hW.2.2 44 _ rfl
      | 1, _ => exact hW.2.2 45 _ rfl
      | 2, _ => exact hW.2.2 46 _ rfl
    have ha : m0_ad b de (9 + i + 44) = de := by
      unfold m0_ad
      rw [if_neg (by omega)]
    refine ⟨0, 0, fun _ => none, by rw [ha]; exact hl, by rw [ha]; exact hde, Nat.le_refl _, Nat.zero_le _, fun _ => ⟨ha, rfl⟩, fun h => absurd h (Nat.lt_irrefl 0), fun j h => absurd h (Nat.not_lt_zero j), fun _ _ => rfl, fun k hk => ?_⟩
    rw [ha]
    exact hne k (hk.elim m0_dm (fun h => by omega))
theorem m0_I : rC_I (m0_ad b de) m0_gh := by
  refine ⟨fun i j hi hj e => ?_, Nat.zero_le _, Nat.zero_le _, Nat.zero_le _, fun i j _ _ _ h => absurd h (Nat.lt_irrefl 0)⟩
  have hi2 : i < 53 := hi.elim m0_dm (fun h => by omega)
  have hj2 : j < 53 := hj.elim m0_dm (fun h => by omega)
  unfold m0_ad at e
  rw [if_pos hi2, if_pos hj2] at e
  exact m0_inj i hi2 j hj2 (by omega)
theorem m0_in {q : Nat} (h : rl_in (m0_ad b de) m0_gh q) : b ≤ q ∧ q ≤ b + 52 := by
  have g : ∀ k, k < 53 → m0_ad b de k = q → b ≤ q ∧ q ≤ b + 52 := fun k hk e => by
    unfold m0_ad at e
    rw [if_pos hk] at e
    have := m0_le k hk
    omega
  rcases h with ⟨k, hk, e⟩ | ⟨i, hi, e | ⟨e, -⟩⟩
  · exact g k (m0_dm hk) e
  · exact g (9 + i) (by omega) e.symm
  · exact absurd e (Nat.lt_irrefl 0)
end
