/-! THE LAW: votes, comments, what is published -/
section
variable {n n' : Nat} {gh gh' : rC_gh} {C C' R R' M M' A A' : rv_Mem} {Ls : Nat} {xs : Nat → Int32} {k69 : rC_gh → rv_Mem → rv_Mem → Bool → Int32 → Option (Bool × rC_gh × rv_Mem × rv_Mem)}
theorem lw_885 (hR : Rn n gh C R) (J : JI n gh R A) {k X V m s f D d l u kk : Nat} (hk : k < 90) (hX : X < 2147483648) (hV : V < 2147483648) (hm : m < gh.1 0) (hkk : R 14 m = nI kk) (hk1 : 1 ≤ kk) (hk80 : kk ≤ 80) (hs : s < kk) (hf : f < 4) (hd : R 52 0 = nI d) (hD : d ≤ D) (hl : l < 2) (hu1 : 1 ≤ u) (hu5 : u ≤ 5) (hul : l = 1 → 2 ≤ u ∧ u ≤ 4) : stO k69 k D (gp_law_885 Ls xs k69 gh C A (nI k) (nI X) (nI V) (nI m) (nI s) (nI f) (nI l) (wI u)) := by
  have e3 : nI V / 3 - nI V / 3 / 6 * 6 = nI (V / 3 % 6) := by
    rw [show nI V / 3 = nI (V / 3) from q_div (L := 3) (d := 3) rfl hV (by omega) (by omega)]
    exact q_rem (L := 6) (d := 6) rfl (by omega) (by omega) (by omega)
  unfold gp_law_885 gp_law_968 gp_law_973
  rw [e3]
  rcases t_vote hR J hm hkk hk80 hs (show V / 3 % 6 < 6 by omega) hl hu1 hu5 hul with x1 | ⟨C', R', w, x1, x2, x3, x4, x5, x6, x7, x8⟩
  · rw [x1, o3k, if_neg (fun z => z rfl)]
    exact lw_end hR J hk hX hV (fun _ => hm) (by omega) hf hd hD
  · rw [x1, o3k, if_pos x2, x6, x1k, if_pos rfl, x7, x1k, q_1, q_sub hk1, x8, x1k, if_pos rfl]
    exact lw_end x3 x4 hk hX hV (fun _ => hm) (by omega) hf (by rw [x5]; exact hd) hD
theorem lw_vote (hR : Rn n gh C R) (J : JI n gh R A) {k X V p m s f D d kk : Nat} (hk : k < 90) (hX : X < 2147483648) (hV : V < 2147483648) (hm : m < gh.1 0) (hkk : R 14 m = nI kk) (hk1 : 1 ≤ kk) (hk80 : kk ≤ 80) (hs : s < kk) (hf : f < 4) (hd : R 52 0 = nI d) (hD : d ≤ D) (x9 : Int32) (h9 : ¬ x9 < 16) (h9' : ¬ x9 < 18) (h9'' : x9 < 22) : stO k69 k D (gp_law_572 Ls xs k69 gh C A (nI k) (nI X) (nI V) x9 (nI p) (nI m) (nI s) (nI f)) := by
  have hc := hR.ch20
  have e4 : (nI V / 400 - nI V / 400 / 4 * 4) / 3 = nI (V / 400 % 4 / 3) := by
    rw [show nI V / 400 = nI (V / 400) from q_div (L := 400) (d := 400) rfl hV (by omega) (by omega), show nI (V / 400) - nI (V / 400) / 4 * 4 = nI (V / 400 % 4) from q_rem (L := 4) (d := 4) rfl (by omega) (by omega) (by omega)]
    exact q_div (L := 3) (d := 3) rfl (by omega) (by omega) (by omega)
  have e84 : (nI V / 800 - nI V / 800 / 4 * 4) / 3 = nI (V / 800 % 4 / 3) := by
    rw [show nI V / 800 = nI (V / 800) from q_div (L := 800) (d := 800) rfl hV (by omega) (by omega), show nI (V / 800) - nI (V / 800) / 4 * 4 = nI (V / 800 % 4) from q_rem (L := 4) (d := 4) rfl (by omega) (by omega) (by omega)]
    exact q_div (L := 3) (d := 3) rfl (by omega) (by omega) (by omega)
  have e88 : nI V / 800 - nI V / 800 / 8 * 8 = nI (V / 800 % 8) := by
    rw [show nI V / 800 = nI (V / 800) from q_div (L := 800) (d := 800) rfl hV (by omega) (by omega)]
    exact q_rem (L := 8) (d := 8) rfl (by omega) (by omega) (by omega)
  unfold gp_law_572
  rw [show f11_changes gh C = some (nI (gh.1 0)) from rfl, o1_some, if_neg (show ¬ nI (gh.1 0) = 0 by rw [q_0, q_eq (by omega) (by omega)]; omega), if_neg h9, if_neg h9', if_pos h9'', e4, e84, e88]
  rcases (show V / 400 % 4 / 3 = 0 ∨ V / 400 % 4 / 3 = 1 by omega) with l0 | l1
  · rw [l0, if_neg (show ¬ nI 0 = 1 by decide)]
    by_cases c : 4 < V / 800 % 8
    · rw [if_pos (show 4 < nI (V / 800 % 8) by rw [q_4, q_lt (by omega) (by omega)]; exact c)]
      exact lw_885 hR J (u := 5) hk hX hV hm hkk hk1 hk80 hs hf hd hD (by omega) (by omega) (by omega) (fun z => by omega)
    · rw [if_neg (show ¬ 4 < nI (V / 800 % 8) by rw [q_4, q_lt (by omega) (by omega)]; exact c)]
      have e : nI (V / 800 % 8) - 2 = wI (V / 800 % 8 + 1) := by
        have h : ∀ x, x < 5 → nI x - 2 = wI (x + 1) := by decide
        exact h _ (by omega)
      rw [e]
      exact lw_885 hR J hk hX hV hm hkk hk1 hk80 hs hf hd hD (by omega) (by omega) (by omega) (fun z => by omega)
  · rw [l1, if_pos (show nI 1 = 1 from rfl)]
    rcases (show V / 800 % 4 / 3 = 0 ∨ V / 800 % 4 / 3 = 1 by omega) with y | y
    · rw [y]
      exact lw_885 hR J (u := 4) hk hX hV hm hkk hk1 hk80 hs hf hd hD (by omega) (by omega) (by omega) (fun _ => by omega)
    · rw [y]
      exact lw_885 hR J (u := 2) hk hX hV hm hkk hk1 hk80 hs hf hd hD (by omega) (by omega) (by omega) (fun _ => by omega)
theorem lw_1167 (hR : Rn n gh C R) (J : JI n gh R A) {k X V m s f D d : Nat} (hk : k < 90) (hX : X < 2147483648) (hV : V < 2147483648) (hm : m < gh.1 0) (hs : s < 2147483648) (hf : f < 4) (hd : R 52 0 = nI d) (hD : d ≤ D) {a b : Int32} (hab : a = b) : stO k69 k D (gp_law_1167 Ls xs k69 gh C A (nI k) (nI X) (nI V) (nI m) (nI s) (nI f) a b) := by
  unfold gp_law_1167 gp_law_1175
  rw [if_pos hab]
  exact lw_end hR J hk hX hV (fun _ => hm) hs hf hd hD
theorem lw_1043 (hR : Rn n gh C R) (J : JI n gh R A) {k X V p m s f D d kk c a w : Nat} (hk : k < 90) (hX : X < 2147483648) (hV : V < 2147483648) (hp : p < 6) (hm : m < gh.1 0) (hkk : R 14 m = nI kk) (hk80 : kk ≤ 80) (hs : s < kk) (hf : f < 4) (hd : R 52 0 = nI d) (hD : d ≤ D) (hcn : c < n) (ec : mAt n (R 5) (R 6) (nI m) (nI s) = nI c) (hw : (fl R c f).length ≠ 0 → 1 ≤ w ∧ a + w ≤ (fl R c f).length) (hw0 : (fl R c f).length = 0 → a = 0 ∧ w = 1) (ha : a < 100) : stO k69 k D (gp_law_1043 Ls xs k69 gh C A (nI k) (nI X) (nI V) (nI p) (nI m) (nI s) (nI f) (nI (fl R c f).length) (nI a) (nI w)) := by
  have hn := hR.n80
  have hc := hR.ch20
  have hcm := hR.cnt.2.2.2.2.2.1
  have l10 := fl_10 hR (c := c) (f := f) (Or.inl hcn) hf
  have i0 : rv_in (0 : Int32) (lk_n 2) = true := by decide
  have z0 : (0 : Int32).toNatClampNeg = 0 := rfl
  have ar : nI a - nI a / 2 * 2 = nI (a % 2) := q_rem (L := 2) (d := 2) rfl (by omega) (by omega) (by omega)
  have com : ∃ v : Bool, gp_commented gh C A (nI p) (nI m) (nI s) (nI f) (nI a) (nI w) = gp_commented_22 A gh C (nI p) (nI m) (nI s) (nI f) (nI a) (nI w) v := by
    unfold gp_commented
    by_cases e : nI a - nI a / 2 * 2 = 0
    · exact ⟨true, by rw [if_pos e]⟩
    · exact ⟨false, by rw [if_neg e]⟩
  obtain ⟨v, ev⟩ := com
  -- no comment
  have no : ∀ (x18 : Int32) {Cx : rv_Mem}, Rn n gh Cx R → x18 < 0 → (x18 = if (fl R c f).length = 0 then (if gh.1 1 < 60 then -1262 else -1263) else -1263) → stO k69 k D (gp_law_1076 Ls xs k69 gh Cx A (nI k) (nI X) (nI V) (nI m) (nI s) (nI f) (nI (fl R c f).length) (nI a) (nI w) x18) := fun x18 Cx hRx h1 h2 => by
    have h3 : ¬ 0 ≤ x18 := Int32.not_le.mpr h1
    unfold gp_law_1076 gp_law_1122
    rw [if_neg h3]
    by_cases e : (fl R c f).length = 0
    · rw [if_pos e] at h2
      rw [if_pos (show nI (fl R c f).length = 0 by rw [e]; rfl), if_pos i0, z0, J.pA]
      by_cases e2 : gh.1 1 < 60
      · rw [if_pos e2] at h2
        rw [if_pos (show nI (gh.1 1) < 60 by rw [q_60, q_lt (by omega) (by omega)]; exact e2)]
        exact lw_1167 hRx J hk hX hV hm (by omega) hf hd hD h2
      · rw [if_neg e2] at h2
        rw [if_neg (show ¬ nI (gh.1 1) < 60 by rw [q_60, q_lt (by omega) (by omega)]; exact e2)]
        exact lw_1167 hRx J hk hX hV hm (by omega) hf hd hD h2
    · rw [if_neg e] at h2
      rw [if_neg (show ¬ nI (fl R c f).length = 0 by rw [q_0, q_eq (by omega) (by omega)]; exact e), if_pos h1]
      exact lw_1167 hRx J hk hX hV hm (by omega) hf hd hD h2
  unfold gp_law_1043
  rw [if_pos i0, z0, J.pA]
  by_cases r : gh.1 1 < 60
  · rw [if_pos (show nI (gh.1 1) < 60 by rw [q_60, q_lt (by omega) (by omega)]; exact r), ev]
    by_cases e : (fl R c f).length = 0
    · obtain ⟨rfl, rfl⟩ := hw0 e
      rw [t_comment0 hR hp hm hkk hk80 hs hf hcn ec e, o3k]
      exact no (-1262) hR (by decide) (by rw [if_pos e, if_pos r])
    · obtain ⟨w1, w2⟩ := hw e
      rcases t_comment hR J (w := v) hp hm hkk hk80 hs hf r hcn ec w1 w2 with x1 | ⟨g', C', R', x1, x2, x3, x4, x5⟩
      · rw [x1, o3k]
        exact no (-1263) hR (by decide) (by rw [if_neg e])
      · have i1 : rv_in (nI (gh.1 1)) (lk_n 1) = true := q_inb (show gh.1 1 < 60 from r) (by omega)
        rw [x1, o3k]
        unfold gp_law_1076 gp_law_1122
        rw [if_pos (show 0 ≤ nI (gh.1 1) by rw [q_0, q_le (by omega) (by omega)]; omega), if_pos i0, z0, J.pA, if_pos i1, lt_do, if_pos i0, if_pos i0, q_nc (by omega), mu_ne (by omega), J.pA, q_succ, lt_do, if_neg (show ¬ nI (fl R c f).length = 0 by rw [q_0, q_eq (by omega) (by omega)]; exact e), if_neg (show ¬ nI (gh.1 1) < 0 by rw [q_0, q_lt (by omega) (by omega)]; omega), if_pos i0, mu_same, q_1, q_sub (by omega), Nat.add_sub_cancel]
        exact lw_1167 x3 x4 hk hX hV (by rw [x2]; exact hm) (by omega) hf (by rw [x5]; exact hd) hD rfl
  · rw [if_neg (show ¬ nI (gh.1 1) < 60 by rw [q_60, q_lt (by omega) (by omega)]; exact r)]
    refine no (-1263) hR (by decide) ?_
    by_cases e : (fl R c f).length = 0
    · rw [if_pos e, if_neg r]
    · rw [if_neg e]
theorem lw_comment (hR : Rn n gh C R) (J : JI n gh R A) {k X V p m s f D d kk : Nat} (hk : k < 90) (hX : X < 2147483648) (hV : V < 2147483648) (hp : p < 6) (hm : m < gh.1 0) (hkk : R 14 m = nI kk) (hk80 : kk ≤ 80) (hs : s < kk) (hf : f < 4) (hd : R 52 0 = nI d) (hD : d ≤ D) (x9 : Int32) (h9 : ¬ x9 < 16) (h9' : ¬ x9 < 18) (h9'' : ¬ x9 < 22) (h9''' : x9 < 24) : stO k69 k D (gp_law_572 Ls xs k69 gh C A (nI k) (nI X) (nI V) x9 (nI p) (nI m) (nI s) (nI f)) := by
  have hc := hR.ch20
  obtain ⟨c, c1, c2, c3, c4, c5, c6⟩ := ak_commitOf hR hm hkk hk80 hs
  have l10 := fl_10 hR (c := c) (f := f) (Or.inl c2) hf
  have e80 : nI V / 80 = nI (V / 80) := q_div (L := 80) (d := 80) rfl hV (by omega) (by omega)
  have e800 : nI V / 800 = nI (V / 800) := q_div (L := 800) (d := 800) rfl hV (by omega) (by omega)
  unfold gp_law_572
  rw [show f11_changes gh C = some (nI (gh.1 0)) from rfl, o1_some, if_neg (show ¬ nI (gh.1 0) = 0 by rw [q_0, q_eq (by omega) (by omega)]; omega), if_neg h9, if_neg h9', if_neg h9'', if_pos h9''', c6, x1k, ak_size hR (Or.inl ⟨c2, rfl⟩) hf, o2_some]
  by_cases e : (fl R c f).length = 0
  · rw [if_pos (show nI (fl R c f).length = 0 by rw [e]; rfl)]
    unfold gp_law_1018
    rw [if_pos (show nI (fl R c f).length = 0 by rw [e]; rfl)]
    exact lw_1043 hR J (a := 0) (w := 1) hk hX hV hp hm hkk hk80 hs hf hd hD c2 c5 (fun z => absurd e z) (fun _ => ⟨rfl, rfl⟩) (by omega)
  · have hne : ¬ nI (fl R c f).length = 0 := by rw [q_0, q_eq (by omega) (by omega)]; exact e
    have h1 : V / 80 % (fl R c f).length < (fl R c f).length := Nat.mod_lt _ (by omega)
    have h2 : V / 800 % ((fl R c f).length - V / 80 % (fl R c f).length) < (fl R c f).length - V / 80 % (fl R c f).length := Nat.mod_lt _ (by omega)
    have hne2 : ¬ nI ((fl R c f).length - V / 80 % (fl R c f).length) = 0 := by rw [q_0, q_eq (by omega) (by omega)]; omega
    rw [if_neg hne, if_neg hne, e80, show nI (V / 80) - nI (V / 80) / nI (fl R c f).length * nI (fl R c f).length = nI (V / 80 % (fl R c f).length) from q_rem rfl (by omega) (by omega) (by omega)]
    unfold gp_law_1018
    rw [if_neg hne, q_sub (by omega), if_neg hne2, e800, show nI (V / 800) - nI (V / 800) / nI ((fl R c f).length - V / 80 % (fl R c f).length) * nI ((fl R c f).length - V / 80 % (fl R c f).length) = nI (V / 800 % ((fl R c f).length - V / 80 % (fl R c f).length)) from q_rem rfl (by omega) (by omega) (by omega), q_1, q_add]
    exact lw_1043 hR J hk hX hV hp hm hkk hk80 hs hf hd hD c2 c5 (fun _ => by omega) (fun z => absurd z e) (by omega)
theorem lw_1241 (hR : Rn n gh C R) (J : JI n gh R A) {k X V p m s f D d : Nat} (hk : k < 90) (hX : X < 2147483648) (hV : V < 2147483648) (hm : m < gh.1 0) (hs : s < 2147483648) (hf : f < 4) (hd : R 52 0 = nI d) (hD : d ≤ D) (h : gp_act gh C A 12 (nI p) (nI m) 0 0 0 = some (-1263, gh, C)) : stO k69 k D (gp_law_1241 Ls xs k69 gh C A (nI k) (nI X) (nI V) (nI p) (nI m) (nI s) (nI f)) := by
  unfold gp_law_1241 gp_law_1260 gp_law_1265
  rw [h, o3k, if_pos rfl]
  exact lw_end hR J hk hX hV (fun _ => hm) hs hf hd hD
theorem lw_publish (hR : Rn n gh C R) (J : JI n gh R A) {k X V p m s f D d : Nat} (hk : k < 90) (hX : X < 2147483648) (hV : V < 2147483648) (hp : p < 6) (hm : m < gh.1 0) (hs : s < 2147483648) (hf : f < 4) (hd : R 52 0 = nI d) (hD : d ≤ D) : stO k69 k D (gp_law_572 Ls xs k69 gh C A (nI k) (nI X) (nI V) (nI 24) (nI p) (nI m) (nI s) (nI f)) := by
  have hc := hR.ch20
  have h8 := J.ch8
  unfold gp_law_572
  rw [show f11_changes gh C = some (nI (gh.1 0)) from rfl, o1_some, if_neg (show ¬ nI (gh.1 0) = 0 by rw [q_0, q_eq (by omega) (by omega)]; omega), if_neg (show ¬ nI 24 < 16 by decide), if_neg (show ¬ nI 24 < 18 by decide), if_neg (show ¬ nI 24 < 22 by decide), if_neg (show ¬ nI 24 < 24 by decide), if_pos (show nI 24 = 24 from rfl)]
  rcases t_publish hR J hp hm 0 0 0 with x1 | ⟨v, C', R', x1, x2, x3, x4, x5, x6, x7, x8⟩
  · rw [x1, o3k, if_neg (fun z => z rfl)]
    unfold gp_law_1260 gp_law_1265
    exact lw_end hR J hk hX hV (fun _ => hm) hs hf hd hD
  · have i4 : (4 : Int32) * nI m = nI (4 * m) := by rw [q_4, q_mul]
    have r4 : rv_in (nI (4 * m)) (lk_n 0) = true := q_inb (show 4 * m < 32 by omega) (by omega)
    rw [x1, o3k, if_pos (show ¬ nI v = -1263 from fun z => by
      have : nI v < 0 := by rw [z]; decide
      rw [q_0, q_lt (by omega) (by omega)] at this; omega), if_pos (show 0 < nI v by rw [q_0, q_lt (by omega) (by omega)]; exact x2), i4, if_pos r4, q_nc (by omega), x5.cA0 m hm]
    have last : stO k69 k D (gp_law_1241 Ls xs k69 gh C' A (nI k) (nI X) (nI V) (nI p) (nI m) (nI s) (nI f)) := lw_1241 x4 x5 hk hX hV hm hs hf (by rw [x6]; exact hd) hD x8
    by_cases e : nI p = R' 12 m
    · rw [if_neg (fun z => z e)]
      exact last
    · have hb : bt (rvS R' m) p = true := by
        rcases x7 with z | z
        · exact absurd z.symm e
        · exact z
      rw [if_pos e, ak_rev x4 hm, x1k, if_pos (by rw [b_test (by omega)]; exact hb)]
      exact last
end
