/-! THE RELATION HOLDS AT THE START -/
theorem m0_lt2 {P : Nat → Prop} (h0 : P 0) (h1 : P 1) : ∀ c, c < 2 → P c := fun c hc => by
  rcases (show c = 0 ∨ c = 1 by omega) with rfl | rfl
  · exact h0
  · exact h1
theorem m0_lt6 {P : Nat → Prop} (h0 : P 0) (h1 : P 1) (h2 : P 2) (h3 : P 3) (h4 : P 4) (h5 : P 5) : ∀ c, c < 6 → P c := fun c hc => by
  rcases (show c = 0 ∨ c = 1 ∨ c = 2 ∨ c = 3 ∨ c = 4 ∨ c = 5 by omega) with rfl | rfl | rfl | rfl | rfl | rfl
  · exact h0
  · exact h1
  · exact h2
  · exact h3
  · exact h4
  · exact h5
theorem m0_rlr : rlr 1 (m0_R 46) (m0_R 47) (m0_R 48) (m0_R 49) (fun _ => 0) = fun _ => 0 := by
  have e : rlh (m0_R 47) (m0_R 48) (fun _ => 0) 0 = 0 := by decide
  funext s
  show rl1 (m0_R 46) (m0_R 47) (m0_R 48) (m0_R 49) 0 (fun _ => 0) s = 0
  unfold rl1
  rw [e]
  split <;> rfl
theorem m0_rlk : ∀ k, rlk 1 (m0_R 46) (m0_R 47) (m0_R 48) (m0_R 49) k = fun _ => 0
  | 0 => rfl
  | k + 1 => by
    show rlr 1 (m0_R 46) (m0_R 47) (m0_R 48) (m0_R 49) (rlk 1 (m0_R 46) (m0_R 47) (m0_R 48) (m0_R 49) k) = _
    rw [m0_rlk k, m0_rlr]
theorem m0_Rel : Rel m0_gh m0_C m0_R := by
  refine ⟨2, ⟨⟨by omega, by omega⟩, rfl, rfl, Nat.zero_le _, rfl, Nat.zero_le _, rfl, Nat.zero_le _, rfl, rfl⟩, ?_, ⟨?_, ?_, ?_, ?_⟩, ?_, ?_, ⟨?_, ?_⟩, ?_, ?_, ⟨⟨fun _ => 0, ?_⟩, fun _ => False, ?_, ?_⟩, ?_, ?_, ⟨?_, ?_⟩, ?_, ?_, ?_, ?_, ?_, rfl⟩
  · exact fun c _ f _ => ⟨0, by omega, rfl, rfl, fun p hp => absurd hp (Nat.not_lt_zero _)⟩
  · exact m0_lt2 ⟨⟨0, by omega, rfl, rfl⟩, rfl⟩ ⟨⟨1, by omega, rfl, rfl⟩, rfl⟩
  · exact m0_lt2 ⟨rfl, rfl⟩ ⟨rfl, rfl⟩
  · exact fun c h1 h2 => by omega
  · exact ⟨0, by omega, rfl, rfl⟩
  · exact m0_lt2 ⟨⟨0, by omega, rfl, rfl, rfl⟩, 1, by omega, rfl, rfl⟩ ⟨⟨1, by omega, rfl, rfl, rfl⟩, 1, by omega, rfl, rfl⟩
  · exact m0_lt2 (Or.inl ⟨rfl, rfl⟩) (Or.inl ⟨rfl, rfl⟩)
  · exact fun h hh => absurd hh (Nat.not_lt_zero _)
  · exact fun h _ _ => rfl
  · exact fun h hh => absurd hh (Nat.not_lt_zero _)
  · exact fun h _ _ => ⟨rfl, rfl, rfl, rfl⟩
  · exact fun h g hh => absurd hh (Nat.not_lt_zero _)
  · exact fun r g _ hh => absurd hh (Nat.not_lt_zero _)
  · exact fun g hh => hh.elim
  · exact m0_lt2 (fun z => absurd rfl z) (fun z => absurd rfl z)
  · exact fun h hh => absurd hh (Nat.not_lt_zero _)
  · exact fun c l p _ _ _ => Or.inl ⟨rfl, rfl⟩
  · exact m0_lt6 ⟨1, by omega, rfl, rfl⟩ ⟨17, by omega, rfl, rfl⟩ ⟨31, by omega, rfl, rfl⟩ ⟨2, by omega, rfl, rfl⟩ ⟨10, by omega, rfl, rfl⟩ ⟨14, by omega, rfl, rfl⟩
  · exact fun h hh => absurd hh (Nat.not_lt_zero _)
  · exact fun h hh => absurd hh (Nat.not_lt_zero _)
  · exact ⟨fun i _ => ⟨⟨0, by omega, rfl, rfl⟩, rfl⟩, fun i _ => rfl, 0, by omega, rfl, rfl⟩
  · refine ⟨1, by omega, by omega, rfl, rfl, fun i hi => ?_, ?_, ?_, 0, rfl, by omega, ?_, Or.inl rfl⟩
    · have : i = 0 := by omega
      subst this
      exact ⟨⟨15, by omega, by omega, rfl, rfl⟩, ⟨7, by omega, rfl, rfl⟩, ⟨48, by omega, rfl, rfl⟩, rfl⟩
    · rw [m0_rlk]; exact m0_rlr
    · intro s _
      rw [m0_rlk]; rfl
    · intro s _
      rw [m0_rlk]; exact Nat.le_refl _
  · exact ⟨fun _ _ => rfl, fun _ _ => rfl, 0, by omega, rfl, rfl⟩
