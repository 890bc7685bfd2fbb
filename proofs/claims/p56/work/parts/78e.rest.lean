/-! THE LAW: landing, settings, flags, topics, what is abandoned and restored, days -/
section
variable {n n' : Nat} {gh gh' : rC_gh} {C C' R R' M M' A A' : rv_Mem} {Ls : Nat} {xs : Nat → Int32} {k69 : rC_gh → rv_Mem → rv_Mem → Bool → Int32 → Option (Bool × rC_gh × rv_Mem × rv_Mem)}
theorem lw_572h (hc : gh.1 0 ≤ 20) {k X V p m s f H : Nat} (hm : m < gh.1 0) (h : 24 < H) (h32 : H < 32) : gp_law_572 Ls xs k69 gh C A (nI k) (nI X) (nI V) (nI H) (nI p) (nI m) (nI s) (nI f) = (if nI H < 27 then lk_o3 (gp_isLanded gh C A (nI p) (nI m)) (fun r78 g80 M79 => gp_law_1773 Ls xs k69 g80 M79 A r78 (nI k) (nI X) (nI V) (nI m) (nI s) (nI f)) else gp_law_572 Ls xs k69 gh C A (nI k) (nI X) (nI V) (nI H) (nI p) (nI m) (nI s) (nI f)) := by
  by_cases c : H < 27
  · rw [if_pos (show nI H < 27 by rw [show (27 : Int32) = nI 27 from rfl, q_lt (by omega) (by omega)]; exact c)]
    unfold gp_law_572
    rw [show f11_changes gh C = some (nI (gh.1 0)) from rfl, o1_some, if_neg (show ¬ nI (gh.1 0) = 0 by rw [q_0, q_eq (by omega) (by omega)]; omega), if_neg (show ¬ nI H < 16 by rw [q_16, q_lt (by omega) (by omega)]; omega), if_neg (show ¬ nI H < 18 by rw [show (18 : Int32) = nI 18 from rfl, q_lt (by omega) (by omega)]; omega), if_neg (show ¬ nI H < 22 by rw [show (22 : Int32) = nI 22 from rfl, q_lt (by omega) (by omega)]; omega), if_neg (show ¬ nI H < 24 by rw [show (24 : Int32) = nI 24 from rfl, q_lt (by omega) (by omega)]; omega), if_neg (show ¬ nI H = 24 by rw [show (24 : Int32) = nI 24 from rfl, q_eq (by omega) (by omega)]; omega), if_pos (show nI H < 27 by rw [show (27 : Int32) = nI 27 from rfl, q_lt (by omega) (by omega)]; exact c)]
  · rw [if_neg (show ¬ nI H < 27 by rw [show (27 : Int32) = nI 27 from rfl, q_lt (by omega) (by omega)]; exact c)]
theorem lw_land (hR : Rn n gh C R) (J : JI n gh R A) {k X V p m s f D d H : Nat} (hk : k < 90) (hX : X < 2147483648) (hV : V < 2147483648) (hp : p < 6) (hm : m < gh.1 0) (hs : s < 2147483648) (hf : f < 4) (hd : R 52 0 = nI d) (hD : d ≤ D) (h : 24 < H) (h27 : H < 27) : stO k69 k D (gp_law_572 Ls xs k69 gh C A (nI k) (nI X) (nI V) (nI H) (nI p) (nI m) (nI s) (nI f)) := by
  obtain ⟨n', C', R', x1, x2, x3, x4⟩ := isLanded_ok (A := A) hR J hp hm
  rw [lw_572h hR.ch20 hm h (by omega), if_pos (show nI H < 27 by rw [show (27 : Int32) = nI 27 from rfl, q_lt (by omega) (by omega)]; exact h27), x1, o3k]
  exact lw_end x2 x3 hk hX hV (fun _ => hm) hs hf (by rw [x4]; exact hd) hD
theorem lw_set (hR : Rn n gh C R) (J : JI n gh R A) {k X V p m s f D d : Nat} (hk : k < 90) (hX : X < 2147483648) (hV : V < 2147483648) (hm : m < gh.1 0) (hs : s < 2147483648) (hf : f < 4) (hd : R 52 0 = nI d) (hD : d ≤ D) : stO k69 k D (gp_law_572 Ls xs k69 gh C A (nI k) (nI X) (nI V) (nI 27) (nI p) (nI m) (nI s) (nI f)) := by
  have hc := hR.ch20
  have e2 : nI V / 2 - nI V / 2 / 2 * 2 = nI (V / 2 % 2) := by
    rw [show nI V / 2 = nI (V / 2) from q_div (L := 2) (d := 2) rfl hV (by omega) (by omega)]
    exact q_rem (L := 2) (d := 2) rfl (by omega) (by omega) (by omega)
  have e43 : nI V / 4 - nI V / 4 / 3 * 3 = nI (V / 4 % 3) := by
    rw [show nI V / 4 = nI (V / 4) from q_div (L := 4) (d := 4) rfl hV (by omega) (by omega)]
    exact q_rem (L := 3) (d := 3) rfl (by omega) (by omega) (by omega)
  have e47 : nI V / 4 - nI V / 4 / 7 * 7 = nI (V / 4 % 7) := by
    rw [show nI V / 4 = nI (V / 4) from q_div (L := 4) (d := 4) rfl hV (by omega) (by omega)]
    exact q_rem (L := 7) (d := 7) rfl (by omega) (by omega) (by omega)
  have e28 : nI V / 28 - nI V / 28 / 64 * 64 = nI (V / 28 % 64) := by
    rw [show nI V / 28 = nI (V / 28) from q_div (L := 28) (d := 28) rfl hV (by omega) (by omega)]
    exact q_rem (L := 64) (d := 64) rfl (by omega) (by omega) (by omega)
  unfold gp_law_572 gp_law_1380
  rw [show f11_changes gh C = some (nI (gh.1 0)) from rfl, o1_some, if_neg (show ¬ nI (gh.1 0) = 0 by rw [q_0, q_eq (by omega) (by omega)]; omega), if_neg (show ¬ nI 27 < 16 by decide), if_neg (show ¬ nI 27 < 18 by decide), if_neg (show ¬ nI 27 < 22 by decide), if_neg (show ¬ nI 27 < 24 by decide), if_neg (show ¬ nI 27 = 24 by decide), if_neg (show ¬ nI 27 < 27 by decide), if_pos (show nI 27 = 27 from rfl), e2, e43, e47, e28]
  by_cases c : nI V - nI V / 2 * 2 = 0
  · rw [if_pos c]
    obtain ⟨v, C', R', x1, x2, x3, x4, x5⟩ := t_setWay hR J (m := V / 2 % 2) (w := V / 4 % 3) (by omega) (by omega)
    rw [x1, o3k, if_pos (show 0 ≤ nI v by rw [q_0, q_le (by omega) (by omega)]; omega)]
    exact lw_end x3 x4 hk hX hV (fun _ => hm) hs hf (by rw [x5]; exact hd) hD
  · rw [if_neg c]
    have go : ∀ w : Bool, ∃ v C' R', gp_act_255 A gh C (nI (V / 2 % 2)) (nI (V / 4 % 7)) (nI (V / 28 % 64)) w = some (nI v, gh, C') ∧ v < 64 ∧ Rn n gh C' R' ∧ JI n gh R' A ∧ R' 52 = R 52 := fun w => by
      obtain ⟨v, C', R', x1, x2, x3, x4, x5⟩ := t_setOwners hR J (m := V / 2 % 2) (l := V / 4 % 7) (p := V / 28 % 64) w (by omega) (by omega) (by omega)
      refine ⟨v, C', R', ?_, x2, x3, x4, x5⟩
      unfold gp_act_255
      rw [x1, x3k]
    have act : ∃ w : Bool, gp_act gh C A 14 (nI (V / 2 % 2)) (nI (V / 4 % 7)) (nI (V / 28 % 64)) (nI V / 1800 - nI V / 1800 / 2 * 2) 0 = gp_act_255 A gh C (nI (V / 2 % 2)) (nI (V / 4 % 7)) (nI (V / 28 % 64)) w := by
      rw [ga_14]
      by_cases e : nI V / 1800 - nI V / 1800 / 2 * 2 = 1
      · exact ⟨true, by rw [if_pos e]⟩
      · exact ⟨false, by rw [if_neg e]⟩
    obtain ⟨w, ew⟩ := act
    obtain ⟨v, C', R', x1, x2, x3, x4, x5⟩ := go w
    rw [ew, x1, o3k, if_pos (show 0 ≤ nI v by rw [q_0, q_le (by omega) (by omega)]; omega)]
    exact lw_end x3 x4 hk hX hV (fun _ => hm) hs hf (by rw [x5]; exact hd) hD
theorem lw_flags (hR : Rn n gh C R) (J : JI n gh R A) {k X V p m s f D d : Nat} (hk : k < 90) (hX : X < 2147483648) (hV : V < 2147483648) (hm : m < gh.1 0) (hs : s < 2147483648) (hf : f < 4) (hd : R 52 0 = nI d) (hD : d ≤ D) : stO k69 k D (gp_law_572 Ls xs k69 gh C A (nI k) (nI X) (nI V) (nI 28) (nI p) (nI m) (nI s) (nI f)) := by
  have hc := hR.ch20
  have h8 := J.ch8
  have i4 : (4 : Int32) * nI m + 1 = nI (4 * m + 1) := by rw [q_4, q_mul, q_succ]
  have r4 : rv_in (nI (4 * m + 1)) (lk_n 0) = true := q_inb (show 4 * m + 1 < 32 by omega) (by omega)
  have e1 : nI V / 40 - nI V / 40 / 8 * 8 = nI (V / 40 % 8) := by
    rw [show nI V / 40 = nI (V / 40) from q_div (L := 40) (d := 40) rfl hV (by omega) (by omega)]
    exact q_rem (L := 8) (d := 8) rfl (by omega) (by omega) (by omega)
  have e2 : nI (V / 40 % 8) - nI (V / 40 % 8) / 5 * 5 = nI (V / 40 % 8 % 5) := q_rem (L := 5) (d := 5) rfl (by omega) (by omega) (by omega)
  have e3 : nI (V / 40 % 8 % 5) - nI (V / 40 % 8 % 5) / 4 * 4 = nI (V / 40 % 8 % 5 % 4) := q_rem (L := 4) (d := 4) rfl (by omega) (by omega) (by omega)
  generalize hT : V / 40 % 8 % 5 % 4 = T at e3
  have hT4 : T < 4 := by omega
  have e4 : nI T - nI T / 2 * 2 = nI (T % 2) := q_rem (L := 2) (d := 2) rfl (by omega) (by omega) (by omega)
  have e5 : nI T / 2 = nI (T / 2) := q_div (L := 2) (d := 2) rfl (by omega) (by omega) (by omega)
  unfold gp_law_572
  rw [show f11_changes gh C = some (nI (gh.1 0)) from rfl, o1_some, if_neg (show ¬ nI (gh.1 0) = 0 by rw [q_0, q_eq (by omega) (by omega)]; omega), if_neg (show ¬ nI 28 < 16 by decide), if_neg (show ¬ nI 28 < 18 by decide), if_neg (show ¬ nI 28 < 22 by decide), if_neg (show ¬ nI 28 < 24 by decide), if_neg (show ¬ nI 28 = 24 by decide), if_neg (show ¬ nI 28 < 27 by decide), if_neg (show ¬ nI 28 = 27 by decide), if_pos (show nI 28 = 28 from rfl), ak_state hR hm, x1k]
  by_cases o : R 13 m = nI 0
  · rw [if_pos (show R 13 m = 0 from o)]
    unfold gp_law_1406 gp_law_1451 gp_law_1483 gp_law_1491
    obtain ⟨C', R', x1, x2, x3, x4⟩ := t_flags hR J hm hT4 o (rv_u A 0 (4 * m + 1) (nI T))
    rw [i4, if_pos r4, if_pos rfl, if_pos r4, q_nc (by omega), e1, e2, e3, lt_do, e4, e5, x1, o3k, if_pos rfl, if_pos (J.cA1 m hm).symm]
    exact lw_end x2 x3 hk hX hV (fun _ => hm) hs hf (by rw [x4]; exact hd) hD
  · rw [if_neg (show ¬ R 13 m = 0 from o)]
    unfold gp_law_1406 gp_law_1451 gp_law_1483 gp_law_1491
    rw [i4, if_pos r4, if_neg (by simp), if_pos r4, q_nc (by omega), e1, e2, e3, lt_do, mu_id rfl, e4, e5, t_flags0 hR hm hT4 o A, o3k, if_neg (by simp), if_pos rfl]
    exact lw_end hR J hk hX hV (fun _ => hm) hs hf hd hD
theorem lw_topic (hR : Rn n gh C R) (J : JI n gh R A) {k X V p m s f D d : Nat} (hk : k < 90) (hX : X < 2147483648) (hV : V < 2147483648) (hm : m < gh.1 0) (hs : s < 2147483648) (hf : f < 4) (hd : R 52 0 = nI d) (hD : d ≤ D) : stO k69 k D (gp_law_572 Ls xs k69 gh C A (nI k) (nI X) (nI V) (nI 29) (nI p) (nI m) (nI s) (nI f)) := by
  have hc := hR.ch20
  have h8 := J.ch8
  have i4 : (4 : Int32) * nI m + 2 = nI (4 * m + 2) := by rw [q_4, q_mul, q_2, q_add]
  have r4 : rv_in (nI (4 * m + 2)) (lk_n 0) = true := q_inb (show 4 * m + 2 < 32 by omega) (by omega)
  have e1 : nI V / 40 - nI V / 40 / 3 * 3 = nI (V / 40 % 3) := by
    rw [show nI V / 40 = nI (V / 40) from q_div (L := 40) (d := 40) rfl hV (by omega) (by omega)]
    exact q_rem (L := 3) (d := 3) rfl (by omega) (by omega) (by omega)
  have e2 : R 17 m = A 0 (4 * m + 2) - 1 := by
    rw [J.cA2 m hm]
    obtain ⟨-, -, -, -, -, -, ⟨-, z⟩, -⟩ := hR.chg m hm
    rcases z with z | ⟨t, t1, t2⟩
    · rw [z]; decide
    · rw [t2, q_1, q_add, q_sub (by omega), Nat.add_sub_cancel]
  obtain ⟨C', R', x1, x2, x3, x4⟩ := t_setTopic hR J hm (show V / 40 % 3 < 3 by omega) (rv_u A 0 (4 * m + 2) (nI (V / 40 % 3)))
  have x1' : gp_act gh C (rv_u A 0 (4 * m + 2) (nI (V / 40 % 3))) 10 (nI m) (nI (V / 40 % 3) - 1) 0 0 0 = some (R 17 m, gh, C') := x1
  unfold gp_law_572 gp_law_1560
  rw [show f11_changes gh C = some (nI (gh.1 0)) from rfl, o1_some, if_neg (show ¬ nI (gh.1 0) = 0 by rw [q_0, q_eq (by omega) (by omega)]; omega), if_neg (show ¬ nI 29 < 16 by decide), if_neg (show ¬ nI 29 < 18 by decide), if_neg (show ¬ nI 29 < 22 by decide), if_neg (show ¬ nI 29 < 24 by decide), if_neg (show ¬ nI 29 = 24 by decide), if_neg (show ¬ nI 29 < 27 by decide), if_neg (show ¬ nI 29 = 27 by decide), if_neg (show ¬ nI 29 = 28 by decide), if_pos (show nI 29 = 29 from rfl), i4, if_pos r4, if_pos r4, q_nc (by omega), e1, lt_do, x1', o3k, if_pos e2]
  exact lw_end x2 x3 hk hX hV (fun _ => hm) hs hf (by rw [x4]; exact hd) hD
theorem lw_end30 (hR : Rn n gh C R) (J : JI n gh R A) {k X V p m s f D d : Nat} (hk : k < 90) (hX : X < 2147483648) (hV : V < 2147483648) (hp : p < 6) (hm : m < gh.1 0) (hs : s < 2147483648) (hf : f < 4) (hd : R 52 0 = nI d) (hD : d ≤ D) : stO k69 k D (gp_law_572 Ls xs k69 gh C A (nI k) (nI X) (nI V) (nI 30) (nI p) (nI m) (nI s) (nI f)) := by
  have hc := hR.ch20
  have e3 : nI V - nI V / 3 * 3 = nI (V % 3) := q_rem (L := 3) (d := 3) rfl hV (by omega) (by omega)
  have no : ∀ v, v < 100 → ¬ nI v = -1263 := fun v hv z => by
    have : nI v < 0 := by rw [z]; decide
    rw [q_0, q_lt (by omega) (by omega)] at this; omega
  unfold gp_law_572
  rw [show f11_changes gh C = some (nI (gh.1 0)) from rfl, o1_some, if_neg (show ¬ nI (gh.1 0) = 0 by rw [q_0, q_eq (by omega) (by omega)]; omega), if_neg (show ¬ nI 30 < 16 by decide), if_neg (show ¬ nI 30 < 18 by decide), if_neg (show ¬ nI 30 < 22 by decide), if_neg (show ¬ nI 30 < 24 by decide), if_neg (show ¬ nI 30 = 24 by decide), if_neg (show ¬ nI 30 < 27 by decide), if_neg (show ¬ nI 30 = 27 by decide), if_neg (show ¬ nI 30 = 28 by decide), if_neg (show ¬ nI 30 = 29 by decide), if_pos (show nI 30 = 30 from rfl), ak_state hR hm, x1k, e3]
  by_cases c : 0 < V % 3
  · have c' : (0 : Int32) < nI (V % 3) := by rw [q_0, q_lt (by omega) (by omega)]; exact c
    rw [if_pos c']
    unfold gp_law_1615 gp_law_1662 gp_law_1679
    rcases t_abandon hR J hm hp 0 0 0 with x1 | ⟨v, C', R', x1, x2, x3, x4, x5, x6, x7⟩
    · rw [x1, o3k, if_pos rfl, ak_state hR hm, x1k, if_pos rfl]
      exact lw_end hR J hk hX hV (fun _ => hm) hs hf hd hD
    · rw [x1, o3k, if_neg (no v (by omega)), ak_state x3 hm, x1k, e3, if_pos c', x6, if_pos (show nI 2 = 2 from rfl), ak_turn x3 hm, x1k, if_pos x7]
      exact lw_end x3 x4 hk hX hV (fun _ => hm) hs hf (by rw [x5]; exact hd) hD
  · have c' : ¬ (0 : Int32) < nI (V % 3) := by rw [q_0, q_lt (by omega) (by omega)]; exact c
    rw [if_neg c']
    unfold gp_law_1615 gp_law_1662 gp_law_1679
    rcases t_restore hR J hm 0 0 0 0 with x1 | ⟨v, C', R', x1, x2, x3, x4, x5, x6, x7⟩
    · rw [x1, o3k, if_pos rfl, ak_state hR hm, x1k, if_pos rfl]
      exact lw_end hR J hk hX hV (fun _ => hm) hs hf hd hD
    · rw [x1, o3k, if_neg (no v (by omega)), ak_state x3 hm, x1k, e3, if_neg c', x6, if_pos (show nI 0 = 0 from rfl), ak_turn x3 hm, x1k, if_pos x7]
      exact lw_end x3 x4 hk hX hV (fun _ => hm) hs hf (by rw [x5]; exact hd) hD
theorem lw_days (hR : Rn n gh C R) (J : JI n gh R A) {k X V p m s f D d : Nat} (hk : k < 90) (hX : X < 2147483648) (hV : V < 2147483648) (hp : p < 6) (hm : m < gh.1 0) (hs : s < 2147483648) (hf : f < 4) (hd : R 52 0 = nI d) (hD : d + 20 ≤ D) (hD2 : D ≤ 10000) : stO k69 k D (gp_law_572 Ls xs k69 gh C A (nI k) (nI X) (nI V) (nI 31) (nI p) (nI m) (nI s) (nI f)) := by
  have hc := hR.ch20
  have e1 : 1 + (nI V / 4 - nI V / 4 / 20 * 20) = nI (1 + V / 4 % 20) := by
    rw [show nI V / 4 = nI (V / 4) from q_div (L := 4) (d := 4) rfl hV (by omega) (by omega), show nI (V / 4) - nI (V / 4) / 20 * 20 = nI (V / 4 % 20) from q_rem (L := 20) (d := 20) rfl (by omega) (by omega) (by omega), q_1, q_add]
  obtain ⟨v, C', R', x1, x2, x3, x4, x5⟩ := t_advance hR J (d := 1 + V / 4 % 20) (D := d) (by omega) (by omega) hd (by omega) 0 0 0 0
  obtain ⟨w, C2, R2, y1, y2, y3, y4, y5⟩ := t_addReviewer x3 x4 hp hm 0 0 0
  have dd : R2 52 0 = nI (d + (1 + V / 4 % 20)) := by rw [y4]; exact x5
  unfold gp_law_572 gp_law_1766 gp_law_1771
  rw [show f11_changes gh C = some (nI (gh.1 0)) from rfl, o1_some, if_neg (show ¬ nI (gh.1 0) = 0 by rw [q_0, q_eq (by omega) (by omega)]; omega), if_neg (show ¬ nI 31 < 16 by decide), if_neg (show ¬ nI 31 < 18 by decide), if_neg (show ¬ nI 31 < 22 by decide), if_neg (show ¬ nI 31 < 24 by decide), if_neg (show ¬ nI 31 = 24 by decide), if_neg (show ¬ nI 31 < 27 by decide), if_neg (show ¬ nI 31 = 27 by decide), if_neg (show ¬ nI 31 = 28 by decide), if_neg (show ¬ nI 31 = 29 by decide), if_neg (show ¬ nI 31 = 30 by decide), ak_day hR, o1_some, e1, x1, o3k, if_pos (show 0 ≤ nI v by rw [q_0, q_le (by omega) (by omega)]; omega), ak_day x3, o1_some, if_pos (by rw [x5, hd, q_add]), y1, o3k]
  by_cases c : w = -1263
  · rw [if_neg (fun z => z c)]
    exact lw_end y2 y3 hk hX hV (fun _ => hm) hs hf dd (by omega)
  · have hb : bt (rvS R2 m) p = true := by
      rcases y5 with z | z
      · exact absurd z c
      · exact z
    rw [if_pos c, ak_rev y2 hm, x1k, if_pos (by rw [b_test (by omega)]; exact hb)]
    exact lw_end y2 y3 hk hX hV (fun _ => hm) hs hf dd (by omega)
end
