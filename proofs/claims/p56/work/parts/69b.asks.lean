/-! THREE CALLS THAT ONLY ASK -/
theorem h_commits : ∀ gh MC MR, Rel gh MC MR → rS_commits Rel gh MC MR := fun gh C R h => by
  obtain ⟨n, hR⟩ := h
  refine ⟨C 1 10, rv_u R 66 0 0, rfl, ?_, ⟨n, Rn_66 hR⟩⟩
  show some (rv_u R 66 0 0 0 0, rv_u R 66 0 0) = _
  rw [mu_ne (by omega), hR.cnt.2.1, hR.cnt.2.2.1]
theorem h_changes : ∀ gh MC MR, Rel gh MC MR → rS_changes Rel gh MC MR := fun gh C R h => by
  obtain ⟨n, hR⟩ := h
  refine ⟨nI (gh.1 0), rv_u R 66 0 0, rfl, ?_, ⟨n, Rn_66 hR⟩⟩
  show some (rv_u R 66 0 0 11 0, rv_u R 66 0 0) = _
  rw [mu_ne (by omega), hR.cnt.2.2.2.2.1]
theorem h_day : ∀ gh MC MR, Rel gh MC MR → rS_day Rel gh MC MR := fun gh C R h => by
  obtain ⟨n, hR⟩ := h
  obtain ⟨d, d1, d2, d3⟩ := hR.mis.2.2
  refine ⟨C 0 11, rv_u R 66 0 0, rfl, ?_, ⟨n, Rn_66 hR⟩⟩
  show some (rv_u R 66 0 0 52 0, rv_u R 66 0 0) = _
  rw [mu_ne (by omega), d2, d3]
