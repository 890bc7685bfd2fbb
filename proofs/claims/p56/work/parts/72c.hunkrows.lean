/-! HUNKS AS THEY ARE TOLD -/
def cntH (R : rv_Mem) (c c' b b' f : Nat) (w : Bool) : List Nat := LI (brk ((fl R c f).map (wd w)) ((fl R c' f).map (wd w)) ((fl R b f).map (wd w)) ((fl R b' f).map (wd w))) (hk ((fl R c f).map (wd w)) ((fl R c' f).map (wd w))).length
def numH (h : Nat × Nat × Nat × Nat) : Int32 := 1000000 * nI h.1 + 10000 * nI h.2.1 + 100 * nI h.2.2.1 + nI h.2.2.2
theorem wd_f (X : List Int32) : X.map (wd false) = X := by
  have : wd false = id := by funext x; rfl
  rw [this, List.map_id]
theorem cntH_same (R : rv_Mem) (c c' b f : Nat) : cntH R c c' b b f false = List.range (hk (fl R c f) (fl R c' f)).length := by
  unfold cntH LI
  rw [wd_f, wd_f, wd_f]
  refine List.filter_eq_self.mpr (fun i _ => ?_)
  unfold brk
  rw [hk_self]; rfl
section
variable {n : Nat} {gh : rC_gh} {C R : rv_Mem}
theorem cntH_11 (hR : Rn n gh C R) {c c' b b' f : Nat} (hc : c < n) (hf : f < 4) (w : Bool) : (cntH R c c' b b' f w).length ≤ 11 := by
  have h1 := fl_10 hR (Or.inl hc) hf
  have h2 := hk_len ((fl R c f).map (wd w)) ((fl R c' f).map (wd w))
  have h3 := LI_len (brk ((fl R c f).map (wd w)) ((fl R c' f).map (wd w)) ((fl R b f).map (wd w)) ((fl R b' f).map (wd w))) (hk ((fl R c f).map (wd w)) ((fl R c' f).map (wd w))).length
  rw [List.length_map] at h2
  unfold cntH; omega
theorem ak_find (hR : Rn n gh C R) {m k s s' c c' b b' f : Nat} (hm : m < gh.1 0) (h14 : R 14 m = nI k) (hk80 : k ≤ 80) (hs : s < k) (hs' : s' < k) (hf : f < 4) (ec : mAt n (R 5) (R 6) (nI m) (nI s) = nI c) (hc : c < n) (ec' : mAt n (R 5) (R 6) (nI m) (nI s') = nI c') (hc' : c' < n) (eb : R 2 c = nI b) (hb : b < n) (eb' : R 2 c' = nI b') (hb' : b' < n) (w : Bool) :
    ∃ C', f11_findDifference gh C (nI m) (nI s) (nI s') (nI f) w = some (.inl (nI (cntH R c c' b b' f w).length, C')) ∧ Rn n gh C' R ∧ ∀ j i, (cntH R c c' b b' f w)[j]? = some i → f2_tellLeft gh C' (nI j) = some (numH ((hk ((fl R c f).map (wd w)) ((fl R c' f).map (wd w))).getD i hz0)) := by
  have hn := hR.n80
  obtain ⟨c1, -, c2, -, -, -, c3, e1⟩ := ok_set hR hm h14 hk80 hs
  obtain ⟨d1, -, d2, -, -, -, d3, e2⟩ := ok_set hR hm h14 hk80 hs'
  have q1 : c1 = c := by rw [ec, q_eq (by omega) (by omega)] at c3; exact c3.symm
  have q2 : d1 = c' := by rw [ec', q_eq (by omega) (by omega)] at d3; exact d3.symm
  subst q1; subst q2
  have F := fun {x : Nat} (hx : x < n) => fil_files hR.fil (c := x) (f := f) (Or.inl hx) hf
  have lA := fl_10 hR (Or.inl hc) hf
  have lm := cntH_11 (c' := d1) (b := b) (b' := b') hR hc hf w
  obtain ⟨C', r1, r2, r3, r4⟩ := s2_findLeft (gh := gh) w (by omega) (by omega) (by omega) (by omega) hf ((bs_eq hR (Or.inl hc)).trans eb) ((bs_eq hR (Or.inl hc')).trans eb') (F hc).1 (F hc').1 (F hb).1 (F hb').1
  refine ⟨C', ?_, Rn_cmp hR r2, fun j i hi => ?_⟩
  · unfold f11_findDifference
    rw [ok_change hR hm, x2_inl, e1, x2_inl, e2, x2_inl, ok_file hf, x2_inl, r1]
    rfl
  · have hj : j < (cntH R c1 d1 b b' f w).length := (List.getElem?_eq_some_iff.mp hi).1
    exact s2_tellLeft (by simpa using lA) (by omega) r3 (LI_lt hi) (r4 j i hi)
theorem ak_hunks (hR : Rn n gh C R) {m k s s' c c' b b' f : Nat} (hm : m < gh.1 0) (h14 : R 14 m = nI k) (hk80 : k ≤ 80) (hs : s < k) (hs' : s' < k) (hf : f < 4) (ec : mAt n (R 5) (R 6) (nI m) (nI s) = nI c) (hc : c < n) (ec' : mAt n (R 5) (R 6) (nI m) (nI s') = nI c') (hc' : c' < n) (eb : R 2 c = nI b) (hb : b < n) (eb' : R 2 c' = nI b') (hb' : b' < n) (w : Bool) :
    ∃ C', f11_hunks gh C (nI m) (nI s) (nI s') (nI f) w = some (.inl (nI (cntH R c c' b b' f w).length, C')) ∧ Rn n gh C' R := by
  obtain ⟨C', e, h, -⟩ := ak_find hR hm h14 hk80 hs hs' hf ec hc ec' hc' eb hb eb' hb' w
  refine ⟨C', ?_, h⟩
  unfold f11_hunks
  rw [e]; rfl
theorem ak_hunkEnd (hR : Rn n gh C R) {m k s s' c c' b b' f : Nat} (hm : m < gh.1 0) (h14 : R 14 m = nI k) (hk80 : k ≤ 80) (hs : s < k) (hs' : s' < k) (hf : f < 4) (ec : mAt n (R 5) (R 6) (nI m) (nI s) = nI c) (hc : c < n) (ec' : mAt n (R 5) (R 6) (nI m) (nI s') = nI c') (hc' : c' < n) (eb : R 2 c = nI b) (hb : b < n) (eb' : R 2 c' = nI b') (hb' : b' < n) (w : Bool) :
    ∃ C', f11_hunkAt gh C (nI m) (nI s) (nI s') (nI f) w (nI (cntH R c c' b b' f w).length) = some (.inl (-1, C')) ∧ Rn n gh C' R := by
  have lm := cntH_11 (c' := c') (b := b) (b' := b') hR hc hf w
  obtain ⟨C', e, h, -⟩ := ak_find hR hm h14 hk80 hs hs' hf ec hc ec' hc' eb hb eb' hb' w
  refine ⟨C', ?_, h⟩
  unfold f11_hunkAt
  rw [e]
  show (if nI (cntH R c c' b b' f w).length < 0 then _ else _) = _
  rw [if_neg (by rw [q_0, q_lt (by omega) (by omega)]; omega), if_neg (by rw [q_lt (by omega) (by omega)]; omega)]
theorem ak_hunkAt (hR : Rn n gh C R) {m k s s' c c' b f : Nat} (hm : m < gh.1 0) (h14 : R 14 m = nI k) (hk80 : k ≤ 80) (hs : s < k) (hs' : s' < k) (hf : f < 4) (ec : mAt n (R 5) (R 6) (nI m) (nI s) = nI c) (hc : c < n) (ec' : mAt n (R 5) (R 6) (nI m) (nI s') = nI c') (hc' : c' < n) (eb : R 2 c = nI b) (hb : b < n) (eb' : R 2 c' = nI b) {j : Nat} {h : Nat × Nat × Nat × Nat} (hj : (hk (fl R c f) (fl R c' f))[j]? = some h) :
    ∃ C', f11_hunkAt gh C (nI m) (nI s) (nI s') (nI f) false (nI j) = some (.inl (numH h, C')) ∧ Rn n gh C' R := by
  have lm := cntH_11 (c' := c') (b := b) (b' := b) hR hc hf false
  obtain ⟨C', e, h1, h2⟩ := ak_find hR hm h14 hk80 hs hs' hf ec hc ec' hc' eb hb eb' hb false
  have hl : j < (hk (fl R c f) (fl R c' f)).length := (List.getElem?_eq_some_iff.mp hj).1
  rw [cntH_same] at e h2 lm
  rw [List.length_range] at e lm
  refine ⟨C', ?_, h1⟩
  have t := h2 j j (by rw [List.getElem?_range hl])
  rw [wd_f, wd_f, List.getD_eq_getElem?_getD, hj] at t
  unfold f11_hunkAt
  rw [e]
  show (if nI j < 0 then _ else _) = _
  rw [if_neg (by rw [q_0, q_lt (by omega) (by omega)]; omega), if_pos (by rw [q_lt (by omega) (by omega)]; exact hl), t, o1_some]
  rfl
end
