/-! hunks, hunkAt -/
theorem goes_t (M : rv_Mem) : f12_goes M (rv_i false) = some (true, rv_u M 66 0 0) := rfl
theorem goes_f (M : rv_Mem) : f12_goes M (rv_i true) = some (false, rv_u M 66 0 1) := rfl
theorem isSet_no {R : rv_Mem} {x y : Int32} (h : f12_isChange R x = some false) : f12_isSet R x y = some false := by
  unfold f12_isSet
  rw [h]
  rfl
theorem Rn.diff {n : Nat} {gh : rC_gh} {C R : rv_Mem} (hR : Rn n gh C R) (p1 p2 p3 p4 : Int32) (w : Bool) :
    (∃ cnt C' R', cnt ≤ 11 ∧ f11_findDifference gh C p1 p2 p3 p4 w = some (.inl (nI cnt, C')) ∧ (∀ x : Int32, 0 ≤ x → f12_asksDifference R p1 p2 p3 p4 x w = some (true, R')) ∧ (∀ x : Int32, ¬ 0 ≤ x → f12_asksDifference R p1 p2 p3 p4 x w = some (false, rv_u R 66 0 1)) ∧ (Rn n gh C' R ∧ Rn n gh C' R') ∧ R' 66 0 = 0 ∧ R' 61 2 = nI cnt ∧ ∀ j, j < cnt → ∃ p d q e, lrow R' j (p, d, q, e) ∧ f2_tellLeft gh C' (nI j) = some (1000000 * nI p + 10000 * nI d + 100 * nI q + nI e)) ∨
    (f11_findDifference gh C p1 p2 p3 p4 w = some (.inr (1, C)) ∧ ∀ x : Int32, f12_asksDifference R p1 p2 p3 p4 x w = some (false, rv_u R 66 0 1)) := by
  have hn := hR.n80
  have bad : ∀ b, f12_asksDifference_36 R p1 p2 p3 p4 b = some (false, rv_u R 66 0 1) := fun b => rfl
  unfold f11_findDifference
  rcases hR.dchange p1 with ⟨h, h1, rfl, e1, e2⟩ | ⟨e1, e2⟩
  · rw [e1]
    simp only [x2_inl]
    rcases hR.dset h1 p2 with ⟨s, c, rfl, a1, a2, a3, a4, a5, a6, a7, a8, a9, a10, a11⟩ | ⟨g2, g3⟩
    · rw [a9]
      simp only [x2_inl]
      rcases hR.dset h1 p3 with ⟨s', c', rfl, b1, b2, b3, b4, b5, b6, b7, b8, b9, b10, b11⟩ | ⟨g2, g3⟩
      · rw [b9]
        simp only [x2_inl]
        rcases d_file gh C p4 with ⟨f, f1, rfl, f2, f3⟩ | ⟨f2, f3⟩
        · left
          rw [f2]
          simp only [x2_inl]
          obtain ⟨b, hb0, y1, y2, -⟩ := hR.base a3 a4
          obtain ⟨b', hb0', y1', y2', -⟩ := hR.base b3 b4
          have F := fun {x : Nat} (hx : x < n) => fil_files hR.fil (c := x) (f := f) (Or.inl hx) f1
          obtain ⟨C', r1, r2, r3, r4⟩ := s2_findLeft (gh := gh) w (by omega) (by omega) (by omega) (by omega) f1 y1 y1' (F a4).1 (F b4).1 (F (show b < n by omega)).1 (F (show b' < n by omega)).1
          have k2 : (rv_u (rv_u R 66 0 0) 64 0 (rv_i w)) 2 = R 2 := by rw [mu_ne (by omega), mu_ne (by omega)]
          have k3 : (rv_u (rv_u R 66 0 0) 64 0 (rv_i w)) 3 = R 3 := by rw [mu_ne (by omega), mu_ne (by omega)]
          have k4 : (rv_u (rv_u R 66 0 0) 64 0 (rv_i w)) 4 = R 4 := by rw [mu_ne (by omega), mu_ne (by omega)]
          have k5 : (rv_u (rv_u R 66 0 0) 64 0 (rv_i w)) 5 = R 5 := by rw [mu_ne (by omega), mu_ne (by omega)]
          have k6 : (rv_u (rv_u R 66 0 0) 64 0 (rv_i w)) 6 = R 6 := by rw [mu_ne (by omega), mu_ne (by omega)]
          have k0 : (rv_u (rv_u R 66 0 0) 64 0 (rv_i w)) 0 0 = nI n := by rw [mu_ne (by omega), mu_ne (by omega)]; exact hR.cnt.2.2.1
          obtain ⟨R', t1, t2, t3, t4⟩ := s12_laysDifference (M0 := rv_u (rv_u R 66 0 0) 64 0 (rv_i w)) (c1 := c) (c2 := c') (b1 := b) (b2 := b') (f := f) (g := wd w) (by rw [mu_same, rvz_i]) (by omega) (by omega) (by omega) (by omega) f1 (by rw [k2]; exact y2) (by rw [k2]; exact y2') (fileR_of k3 k4 (F a4).2.1) (fileR_of k3 k4 (F b4).2.1) (fileR_of k3 k4 (F (show b < n by omega)).2.1) (fileR_of k3 k4 (F (show b' < n by omega)).2.1) (fun e => by rw [e])
          have lA := (F a4).1.1
          have ll := hk_len ((fl R c f).map (wd w)) ((fl R c' f).map (wd w))
          have lm := LI_len (brk ((fl R c f).map (wd w)) ((fl R c' f).map (wd w)) ((fl R b f).map (wd w)) ((fl R b' f).map (wd w))) (hk ((fl R c f).map (wd w)) ((fl R c' f).map (wd w))).length
          rw [List.length_map] at ll
          refine ⟨_, C', rv_u R' 64 0 (rv_i false), ?_, by rw [r1]; rfl, fun x hx => ?_, fun x hx => ?_, ⟨Rn_cmp hR r2, ?_⟩, ?_, ?_, fun j hj => ?_⟩
          · omega
          · unfold f12_asksDifference
            rw [a10, o1_some, if_pos rfl, b10, o1_some, if_pos rfl, f3, o1_some, if_pos rfl, if_pos hx]
            unfold f12_asksDifference_37
            rw [goes_t]
            simp only [o2_some, bt_f, if_false, lt_do]
            rw [s12_commitAt k0 hn, k5, k6, a8, o1_some, s12_commitAt k0 hn, k5, k6, b8, o1_some, t1, o1_some]
          · unfold f12_asksDifference
            rw [a10, o1_some, if_pos rfl, b10, o1_some, if_pos rfl, f3, o1_some, if_pos rfl, if_neg hx]
            exact bad w
          · refine Rn_scr (R := R) (fun k hk => ?_) (by rw [mu_same]; rfl) (Rn_cmp hR r2)
            rw [mu_ne (by omega), t2 k (by omega), mu_ne (by omega), mu_ne (by omega)]
          · rw [mu_ne (by omega), t2 66 (by omega), mu_ne (by omega), mu_same]
          · rw [mu_ne (by omega)]; exact t3
          · obtain ⟨i, hi⟩ : ∃ i, (LI (brk ((fl R c f).map (wd w)) ((fl R c' f).map (wd w)) ((fl R b f).map (wd w)) ((fl R b' f).map (wd w))) (hk ((fl R c f).map (wd w)) ((fl R c' f).map (wd w))).length)[j]? = some i := ⟨_, List.getElem?_eq_getElem hj⟩
            refine ⟨_, _, _, _, ?_, s2_tellLeft (by simpa using lA) (by omega) r3 (LI_lt hi) (r4 j i hi)⟩
            obtain ⟨z1, z2, z3, z4⟩ := t4 j i hi
            exact ⟨by rw [mu_ne (by omega)]; exact z1, by rw [mu_ne (by omega)]; exact z2, by rw [mu_ne (by omega)]; exact z3, by rw [mu_ne (by omega)]; exact z4⟩
        · right
          refine ⟨by rw [f2]; rfl, fun x => ?_⟩
          unfold f12_asksDifference
          rw [a10, o1_some, if_pos rfl, b10, o1_some, if_pos rfl, f3, o1_some, if_neg (by simp)]
          exact bad w
      · right
        refine ⟨by rw [g2]; rfl, fun x => ?_⟩
        unfold f12_asksDifference
        rw [a10, o1_some, if_pos rfl, g3, o1_some, if_neg (by simp)]
        exact bad w
    · right
      refine ⟨by rw [g2]; rfl, fun x => ?_⟩
      unfold f12_asksDifference
      rw [g3, o1_some, if_neg (by simp)]
      exact bad w
  · right
    refine ⟨by rw [e1]; rfl, fun x => ?_⟩
    unfold f12_asksDifference
    rw [isSet_no e2, o1_some, if_neg (by simp)]
    exact bad w
theorem h_hunks : ∀ gh MC MR, Rel gh MC MR → ∀ p1 p2 p3 p4 (p5 : Bool), rS_hunks Rel gh MC MR p1 p2 p3 p4 p5 := fun gh C R h p1 p2 p3 p4 w => by
  obtain ⟨n, hR⟩ := h
  unfold rS_hunks f11_hunks f12_hunks
  rcases hR.diff p1 p2 p3 p4 w with ⟨cnt, C', R', x1, x2, x3, -, x5, x6, x7, -⟩ | ⟨x1, x2⟩
  · left
    rw [x2, x3 0 (by decide)]
    refine ⟨nI cnt, C', R', rfl, ?_, x6, ⟨n, x5.2⟩⟩
    simp (disch := omega) only [o2_some, if_true, q_2, q_in, if_pos, q_nc, x7]
  · right
    rw [x1, x2]
    exact ⟨C, rv_u R 66 0 1, 0, rfl, rfl, mu_same _ _ _ _, ⟨n, Rn_66 hR⟩⟩
theorem h_hunkAt : ∀ gh MC MR, Rel gh MC MR → ∀ p1 p2 p3 p4 (p5 : Bool) p6, rS_hunkAt Rel gh MC MR p1 p2 p3 p4 p5 p6 := fun gh C R h p1 p2 p3 p4 w p6 => by
  obtain ⟨n, hR⟩ := h
  unfold rS_hunkAt f11_hunkAt f12_hunkAt
  rcases hR.diff p1 p2 p3 p4 w with ⟨cnt, C', R', x1, x2, x3, x4, x5, x6, x7, x8⟩ | ⟨x1, x2⟩
  · rw [x2]
    have hx3 : ∀ k : rv_Mem → Int32 → Option ((Int32 × rv_Mem) ⊕ (Nat × rv_Mem)), rv_x3 (some (.inl (nI cnt, C'))) (fun a M => k M a) = k C' (nI cnt) := fun k => rfl
    rcases q_any p6 with hneg | ⟨j, hj, rfl⟩
    · right
      have hx : ¬ (0 : Int32) ≤ p6 := by rw [q_neg hneg]; exact fun z => z
      rw [x4 p6 hx]
      refine ⟨C', rv_u R 66 0 1, 0, ?_, rfl, mu_same _ _ _ _, ⟨n, ?_⟩⟩
      · show (if p6 < 0 then _ else _) = _
        rw [if_pos hneg]
      · exact Rn_66 x5.1
    · left
      have hx : (0 : Int32) ≤ nI j := by rw [q_0, q_le (by omega) hj]; omega
      rw [x3 _ hx]
      by_cases hc : j < cnt
      · obtain ⟨p, d, q, e, ⟨z1, z2, z3, z4⟩, z5⟩ := x8 j hc
        refine ⟨1000000 * nI p + 10000 * nI d + 100 * nI q + nI e, C', R', ?_, ?_, x6, ⟨n, x5.2⟩⟩
        · show (if nI j < 0 then _ else if nI j < nI cnt then _ else _) = _
          rw [if_neg (by rw [q_0, q_lt hj (by omega)]; omega), if_pos (by rw [q_lt hj (by omega)]; exact hc), z5, o1_some]
        · simp (disch := omega) only [o2_some, bt_f, if_false, q_2, q_in, if_pos, q_nc, x7, q_le, q_30, q_add]
          rw [if_neg (by omega)]
          rw [z1, z2, z3, z4]
      · refine ⟨-1, C', R', ?_, ?_, x6, ⟨n, x5.2⟩⟩
        · show (if nI j < 0 then _ else if nI j < nI cnt then _ else _) = _
          rw [if_neg (by rw [q_0, q_lt hj (by omega)]; omega), if_neg (by rw [q_lt hj (by omega)]; exact hc)]
        · simp (disch := omega) only [o2_some, bt_f, if_false, q_2, q_in, if_pos, q_nc, x7, q_le]
  · right
    rw [x1, x2]
    exact ⟨C, rv_u R 66 0 1, 0, rfl, rfl, mu_same _ _ _ _, ⟨n, Rn_66 hR⟩⟩
