/-! UPLOADS -/
section
variable {n n' : Nat} {gh gh' : rC_gh} {C C' R R' M M' A A' : rv_Mem}
theorem t_upload (hR : Rn n gh C R) (J : JI n gh R A) {p h : Nat} (hp : p < 6) (hh : h < gh.1 0) (a b0 c : Int32) : (gp_act gh C A 5 (nI p) (nI h) a b0 c = some (-1263, gh, C)) ∨ ∃ k C2 R2, gp_act gh C A 5 (nI p) (nI h) a b0 c = some (nI k, gh, C2) ∧ n < 80 ∧ Rn (n + 1) gh C2 R2 ∧ R 14 h = nI k ∧ k ≤ 80 ∧ (∃ b, b < n ∧ R 2 80 = nI b ∧ R2 2 n = nI b ∧ ∀ x, x ≠ n → R2 2 x = R 2 x) ∧ JI (n + 1) gh R2 A ∧ xF n h k p R R2 := by
  have hc := hR.ch20
  have hn80 := hR.n80
  obtain ⟨b, b1, b2, b3⟩ := hR.bas.2.2.2
  obtain ⟨r, r0, r1, r2⟩ := (hR.bas.1 b b1).1
  obtain ⟨-, -, ⟨r', r0', a3, -⟩, -⟩ := hR.chg h hh
  have hval : C 19 b = R 5 b ∧ (R 5 b = NO ∨ ∃ g, g < gh.1 0 ∧ R 5 b = nI g) := by
    rcases hR.own b b1 with ⟨z1, z⟩ | ⟨g, s', p', o1, -, o2, o3, -⟩
    · exact ⟨by rw [z1, z], Or.inl z⟩
    · exact ⟨by rw [o2, o3], Or.inr ⟨g, o1, o3⟩⟩
  obtain ⟨w, w1, w2, w3⟩ := hR.above hh (x := R 5 b) hval.2
  have eC : f11_upload gh C (nI p) (nI h) = rv_x2 (f11_needOpenAndSeen gh C (nI p) (100 + h)) C (fun _ => if ¬ nI r = nI r' then (some (.inr (3, C))) else (if w = true then (some (.inr (3, C))) else rv_x2 (f11_needRoomForCommit gh C) C (fun r23 => rv_o2 (f11_addSet gh C (nI p) (100 + h) 80 (nI b)) (fun r27 M28 => (some (.inl (r27, M28))))))) := by
    unfold f11_upload f9_baseOf f9_repositoryOf f9_changeOf
    rw [ok_person hp, x2_inl, ok_change hR hh, x2_inl, show (80 : Int32) = nI 80 from rfl, s9_read (L := 82) (show 80 < 82 by omega) rfl rfl (by omega), o1_some, o1_some, b2, s9_read (L := 82) (show b < 82 by omega) rfl rfl (by omega), o1_some, o1_some, r1, if_pos (is1 hh hc), a3, s9_read (L := 82) (show b < 82 by omega) rfl rfl (by omega), o1_some, o1_some, hval.1, w1, o1_some]
  have bad : f11_upload gh C (nI p) (nI h) = some (.inr (3, C)) → gp_act gh C A 5 (nI p) (nI h) a b0 c = some (-1263, gh, C) := fun z => by
    rw [ga_5, z, x3e, hh3]
  rcases hR.shut hh hp with ⟨z1, z2, z3⟩ | ⟨z1, z2⟩
  · rw [z1, x2_inl] at eC
    by_cases c1 : r = r'
    · subst c1
      rw [if_neg (fun z => z rfl)] at eC
      cases w with
      | true =>
        rw [if_pos rfl] at eC
        exact Or.inl (bad eC)
      | false =>
        rw [if_neg (by simp)] at eC
        by_cases c2 : n = 80
        · subst c2
          refine Or.inl (bad ?_)
          rw [eC]
          unfold f11_needRoomForCommit f9_isFull
          rw [hR.cnt.2.1]; rfl
        · have room : f11_needRoomForCommit gh C = some (.inl ()) := by
            unfold f11_needRoomForCommit f9_isFull
            rw [hR.cnt.2.1, q_80, if_neg (by rw [q_le (by omega) (by omega)]; omega)]; rfl
          rw [room, x2_inl] at eC
          obtain ⟨Rc, y1, y2, y3, y4, y5⟩ := row80 hR (M := R) rfl rfl
          obtain ⟨k, C2, R2, x1, x2, x3, x4, x5, x6, x9, x7, x8⟩ := Rn_uplJ hR J (by omega) (s := 80) (b := b) (r := r) (h := h) (p := p) hh z3 hp (by omega) (by omega) b1 r0 a3 r2 y1 y2 y3 y4 y5 (fun e z => by
            have := w3.mpr ⟨e, z⟩
            cases this)
          right
          rw [show (80 : Int32) = nI 80 from rfl, x1, o2_some] at eC
          exact ⟨k, C2, R2, by rw [ga_5, eC, x3k], by omega, x3, x5, x6, ⟨b, b1, b3, x9⟩, x7, x8⟩
    · rw [if_pos (fun z => c1 (by rw [q_eq (by omega) (by omega)] at z; exact z))] at eC
      exact Or.inl (bad eC)
  · rw [z1] at eC
    exact Or.inl (bad eC)
end
