theorem rv_gN {maxL : Nat} {y : MethodName} {cc : ByteArray} {ret : Option FieldType} (h5 : Cond.code y cc maxL ret ∈ rv_AL) : GoodIn rv_AL (rv_ws y cc maxL ret) := by
  intro w hw
  have : w ∈ rv_AL := by
    rcases List.mem_cons.mp hw with rfl | h
    · exact h5
    · exact h
  exact ⟨this, rv_good w this⟩
theorem wi_ReviewForge_Change : Cond.initialized "ReviewForge$Change" ∈ rv_AL := rv_al (rv_t1 (List.mem_of_getElem? (i := 21) rfl)) rfl
theorem wi_ReviewForge_Comment : Cond.initialized "ReviewForge$Comment" ∈ rv_AL := rv_al (rv_t1 (List.mem_of_getElem? (i := 25) rfl)) rfl
theorem wi_ReviewForge_Comparer : Cond.initialized "ReviewForge$Comparer" ∈ rv_AL := rv_al (rv_t1 (List.mem_of_getElem? (i := 4) rfl)) rfl
theorem wi_ReviewForge_Comparison : Cond.initialized "ReviewForge$Comparison" ∈ rv_AL := rv_al (rv_t1 (List.mem_of_getElem? (i := 5) rfl)) rfl
theorem wi_ReviewForge_Finding : Cond.initialized "ReviewForge$Finding" ∈ rv_AL := rv_al (rv_t1 (List.mem_of_getElem? (i := 28) rfl)) rfl
theorem wi_ReviewForge_Landing : Cond.initialized "ReviewForge$Landing" ∈ rv_AL := rv_al (rv_t1 (List.mem_of_getElem? (i := 12) rfl)) rfl
theorem wi_ReviewForge_OwnerLists : Cond.initialized "ReviewForge$OwnerLists" ∈ rv_AL := rv_al (rv_t1 (List.mem_of_getElem? (i := 8) rfl)) rfl
theorem wi_ReviewForge_Place : Cond.initialized "ReviewForge$Place" ∈ rv_AL := rv_al (rv_t1 (List.mem_of_getElem? (i := 27) rfl)) rfl
theorem wi_ReviewForge_Rules : Cond.initialized "ReviewForge$Rules" ∈ rv_AL := rv_al (rv_t1 (List.mem_of_getElem? (i := 7) rfl)) rfl
theorem wi_ReviewForge_Store : Cond.initialized "ReviewForge$Store" ∈ rv_AL := rv_al (rv_t1 (List.mem_of_getElem? (i := 2) rfl)) rfl
theorem wi_ReviewForge_Votes : Cond.initialized "ReviewForge$Votes" ∈ rv_AL := rv_al (rv_t1 (List.mem_of_getElem? (i := 6) rfl)) rfl
theorem wi_ReviewForge : Cond.initialized "ReviewForge" ∈ rv_AL := rv_al (rv_t1 (List.mem_of_getElem? (i := 1) rfl)) rfl
theorem wi_java_util_ArrayList : Cond.initialized "java/util/ArrayList" ∈ rv_AL := rv_al (rv_t1 (List.mem_of_getElem? (i := 11) rfl)) rfl
theorem wi_java_lang_Integer : Cond.initialized "java/lang/Integer" ∈ rv_AL := rv_al (rv_t1 (List.mem_of_getElem? (i := 26) rfl)) rfl
theorem wi_java_util_Arrays : Cond.initialized "java/util/Arrays" ∈ rv_AL := rv_al (rv_t1 (List.mem_of_getElem? (i := 3) rfl)) rfl
theorem wlX0_0 : u_lay RX0 TX0 0 ∈ rv_AL := rv_al (rv_t3 (List.mem_of_getElem? (i := 173) rfl)) rfl
theorem wlX0_1 : u_lay RX0 TX0 1 ∈ rv_AL := rv_al (rv_t3 (List.mem_of_getElem? (i := 175) rfl)) rfl
theorem wlX0_2 : u_lay RX0 TX0 2 ∈ rv_AL := rv_al (rv_t3 (List.mem_of_getElem? (i := 177) rfl)) rfl
theorem wlX0_3 : u_lay RX0 TX0 3 ∈ rv_AL := rv_al (rv_t3 (List.mem_of_getElem? (i := 179) rfl)) rfl
theorem wlX0_4 : u_lay RX0 TX0 4 ∈ rv_AL := rv_al (rv_t3 (List.mem_of_getElem? (i := 181) rfl)) rfl
theorem wlX0_5 : u_lay RX0 TX0 5 ∈ rv_AL := rv_al (rv_t3 (List.mem_of_getElem? (i := 183) rfl)) rfl
theorem wlX0_6 : u_lay RX0 TX0 6 ∈ rv_AL := rv_al (rv_t3 (List.mem_of_getElem? (i := 185) rfl)) rfl
theorem wlX0_7 : u_lay RX0 TX0 7 ∈ rv_AL := rv_al (rv_t3 (List.mem_of_getElem? (i := 187) rfl)) rfl
theorem wlX0_8 : u_lay RX0 TX0 8 ∈ rv_AL := rv_al (rv_t3 (List.mem_of_getElem? (i := 189) rfl)) rfl
theorem wlX0_9 : u_lay RX0 TX0 9 ∈ rv_AL := rv_al (rv_t3 (List.mem_of_getElem? (i := 191) rfl)) rfl
theorem wlX0_10 : u_lay RX0 TX0 10 ∈ rv_AL := rv_al (rv_t3 (List.mem_of_getElem? (i := 193) rfl)) rfl
theorem wlX0_11 : u_lay RX0 TX0 11 ∈ rv_AL := rv_al (rv_t3 (List.mem_of_getElem? (i := 195) rfl)) rfl
theorem wlX0_12 : u_lay RX0 TX0 12 ∈ rv_AL := rv_al (rv_t3 (List.mem_of_getElem? (i := 197) rfl)) rfl
theorem wlX0 : ∀ w ∈ u_ws RX0 TX0 13, w ∈ rv_AL := by
  intro w hw
  obtain ⟨k, hk, rfl⟩ := List.mem_map.mp hw
  rw [List.mem_range] at hk
  exact (match k, hk with | 0, _ => wlX0_0 | 1, _ => wlX0_1 | 2, _ => wlX0_2 | 3, _ => wlX0_3 | 4, _ => wlX0_4 | 5, _ => wlX0_5 | 6, _ => wlX0_6 | 7, _ => wlX0_7 | 8, _ => wlX0_8 | 9, _ => wlX0_9 | 10, _ => wlX0_10 | 11, _ => wlX0_11 | 12, _ => wlX0_12 | k + 13, h => absurd h (by omega))
theorem wlX1_0 : u_lay RX1 TX1 0 ∈ rv_AL := rv_al (rv_t4 (List.mem_of_getElem? (i := 226) rfl)) rfl
theorem wlX1_1 : u_lay RX1 TX1 1 ∈ rv_AL := rv_al (rv_t4 (List.mem_of_getElem? (i := 228) rfl)) rfl
theorem wlX1_2 : u_lay RX1 TX1 2 ∈ rv_AL := rv_al (rv_t4 (List.mem_of_getElem? (i := 230) rfl)) rfl
theorem wlX1_3 : u_lay RX1 TX1 3 ∈ rv_AL := rv_al (rv_t4 (List.mem_of_getElem? (i := 232) rfl)) rfl
theorem wlX1_4 : u_lay RX1 TX1 4 ∈ rv_AL := rv_al (rv_t4 (List.mem_of_getElem? (i := 234) rfl)) rfl
theorem wlX1 : ∀ w ∈ u_ws RX1 TX1 5, w ∈ rv_AL := by
  intro w hw
  obtain ⟨k, hk, rfl⟩ := List.mem_map.mp hw
  rw [List.mem_range] at hk
  exact (match k, hk with | 0, _ => wlX1_0 | 1, _ => wlX1_1 | 2, _ => wlX1_2 | 3, _ => wlX1_3 | 4, _ => wlX1_4 | k + 5, h => absurd h (by omega))
theorem wlX2_0 : u_lay RX2 TX2 0 ∈ rv_AL := rv_al (rv_t1 (List.mem_of_getElem? (i := 144) rfl)) rfl
theorem wlX2_1 : u_lay RX2 TX2 1 ∈ rv_AL := rv_al (rv_t1 (List.mem_of_getElem? (i := 146) rfl)) rfl
theorem wlX2_2 : u_lay RX2 TX2 2 ∈ rv_AL := rv_al (rv_t1 (List.mem_of_getElem? (i := 148) rfl)) rfl
theorem wlX2_3 : u_lay RX2 TX2 3 ∈ rv_AL := rv_al (rv_t1 (List.mem_of_getElem? (i := 150) rfl)) rfl
theorem wlX2 : ∀ w ∈ u_ws RX2 TX2 4, w ∈ rv_AL := by
  intro w hw
  obtain ⟨k, hk, rfl⟩ := List.mem_map.mp hw
  rw [List.mem_range] at hk
  exact (match k, hk with | 0, _ => wlX2_0 | 1, _ => wlX2_1 | 2, _ => wlX2_2 | 3, _ => wlX2_3 | k + 4, h => absurd h (by omega))
theorem wlX3_0 : u_lay RX3 TX3 0 ∈ rv_AL := rv_al (rv_t1 (List.mem_of_getElem? (i := 117) rfl)) rfl
theorem wlX3_1 : u_lay RX3 TX3 1 ∈ rv_AL := rv_al (rv_t1 (List.mem_of_getElem? (i := 119) rfl)) rfl
theorem wlX3_2 : u_lay RX3 TX3 2 ∈ rv_AL := rv_al (rv_t1 (List.mem_of_getElem? (i := 121) rfl)) rfl
theorem wlX3_3 : u_lay RX3 TX3 3 ∈ rv_AL := rv_al (rv_t1 (List.mem_of_getElem? (i := 123) rfl)) rfl
theorem wlX3_4 : u_lay RX3 TX3 4 ∈ rv_AL := rv_al (rv_t1 (List.mem_of_getElem? (i := 125) rfl)) rfl
theorem wlX3_5 : u_lay RX3 TX3 5 ∈ rv_AL := rv_al (rv_t1 (List.mem_of_getElem? (i := 127) rfl)) rfl
theorem wlX3_6 : u_lay RX3 TX3 6 ∈ rv_AL := rv_al (rv_t1 (List.mem_of_getElem? (i := 129) rfl)) rfl
theorem wlX3_7 : u_lay RX3 TX3 7 ∈ rv_AL := rv_al (rv_t1 (List.mem_of_getElem? (i := 131) rfl)) rfl
theorem wlX3_8 : u_lay RX3 TX3 8 ∈ rv_AL := rv_al (rv_t1 (List.mem_of_getElem? (i := 133) rfl)) rfl
theorem wlX3_9 : u_lay RX3 TX3 9 ∈ rv_AL := rv_al (rv_t1 (List.mem_of_getElem? (i := 135) rfl)) rfl
theorem wlX3_10 : u_lay RX3 TX3 10 ∈ rv_AL := rv_al (rv_t1 (List.mem_of_getElem? (i := 137) rfl)) rfl
theorem wlX3 : ∀ w ∈ u_ws RX3 TX3 11, w ∈ rv_AL := by
  intro w hw
  obtain ⟨k, hk, rfl⟩ := List.mem_map.mp hw
  rw [List.mem_range] at hk
  exact (match k, hk with | 0, _ => wlX3_0 | 1, _ => wlX3_1 | 2, _ => wlX3_2 | 3, _ => wlX3_3 | 4, _ => wlX3_4 | 5, _ => wlX3_5 | 6, _ => wlX3_6 | 7, _ => wlX3_7 | 8, _ => wlX3_8 | 9, _ => wlX3_9 | 10, _ => wlX3_10 | k + 11, h => absurd h (by omega))
theorem wlX4_0 : u_lay RX4 TX4 0 ∈ rv_AL := rv_al (rv_t6 (List.mem_of_getElem? (i := 220) rfl)) rfl
theorem wlX4_1 : u_lay RX4 TX4 1 ∈ rv_AL := rv_al (rv_t6 (List.mem_of_getElem? (i := 222) rfl)) rfl
theorem wlX4_2 : u_lay RX4 TX4 2 ∈ rv_AL := rv_al (rv_t6 (List.mem_of_getElem? (i := 224) rfl)) rfl
theorem wlX4 : ∀ w ∈ u_ws RX4 TX4 3, w ∈ rv_AL := by
  intro w hw
  obtain ⟨k, hk, rfl⟩ := List.mem_map.mp hw
  rw [List.mem_range] at hk
  exact (match k, hk with | 0, _ => wlX4_0 | 1, _ => wlX4_1 | 2, _ => wlX4_2 | k + 3, h => absurd h (by omega))
theorem wlX5_0 : u_lay RX5 TX5 0 ∈ rv_AL := rv_al (rv_t2 (List.mem_of_getElem? (i := 17) rfl)) rfl
theorem wlX5_1 : u_lay RX5 TX5 1 ∈ rv_AL := rv_al (rv_t2 (List.mem_of_getElem? (i := 19) rfl)) rfl
theorem wlX5_2 : u_lay RX5 TX5 2 ∈ rv_AL := rv_al (rv_t2 (List.mem_of_getElem? (i := 21) rfl)) rfl
theorem wlX5_3 : u_lay RX5 TX5 3 ∈ rv_AL := rv_al (rv_t2 (List.mem_of_getElem? (i := 23) rfl)) rfl
theorem wlX5_4 : u_lay RX5 TX5 4 ∈ rv_AL := rv_al (rv_t2 (List.mem_of_getElem? (i := 25) rfl)) rfl
theorem wlX5_5 : u_lay RX5 TX5 5 ∈ rv_AL := rv_al (rv_t2 (List.mem_of_getElem? (i := 27) rfl)) rfl
theorem wlX5 : ∀ w ∈ u_ws RX5 TX5 6, w ∈ rv_AL := by
  intro w hw
  obtain ⟨k, hk, rfl⟩ := List.mem_map.mp hw
  rw [List.mem_range] at hk
  exact (match k, hk with | 0, _ => wlX5_0 | 1, _ => wlX5_1 | 2, _ => wlX5_2 | 3, _ => wlX5_3 | 4, _ => wlX5_4 | 5, _ => wlX5_5 | k + 6, h => absurd h (by omega))
theorem wlX6_0 : u_lay RX6 TX6 0 ∈ rv_AL := rv_al (rv_t1 (List.mem_of_getElem? (i := 210) rfl)) rfl
theorem wlX6_1 : u_lay RX6 TX6 1 ∈ rv_AL := rv_al (rv_t1 (List.mem_of_getElem? (i := 212) rfl)) rfl
theorem wlX6_2 : u_lay RX6 TX6 2 ∈ rv_AL := rv_al (rv_t1 (List.mem_of_getElem? (i := 214) rfl)) rfl
theorem wlX6_3 : u_lay RX6 TX6 3 ∈ rv_AL := rv_al (rv_t1 (List.mem_of_getElem? (i := 216) rfl)) rfl
theorem wlX6 : ∀ w ∈ u_ws RX6 TX6 4, w ∈ rv_AL := by
  intro w hw
  obtain ⟨k, hk, rfl⟩ := List.mem_map.mp hw
  rw [List.mem_range] at hk
  exact (match k, hk with | 0, _ => wlX6_0 | 1, _ => wlX6_1 | 2, _ => wlX6_2 | 3, _ => wlX6_3 | k + 4, h => absurd h (by omega))
theorem wlX7_0 : u_lay RX7 TX7 0 ∈ rv_AL := rv_al (rv_t6 (List.mem_of_getElem? (i := 42) rfl)) rfl
theorem wlX7_1 : u_lay RX7 TX7 1 ∈ rv_AL := rv_al (rv_t6 (List.mem_of_getElem? (i := 44) rfl)) rfl
theorem wlX7_2 : u_lay RX7 TX7 2 ∈ rv_AL := rv_al (rv_t6 (List.mem_of_getElem? (i := 46) rfl)) rfl
theorem wlX7_3 : u_lay RX7 TX7 3 ∈ rv_AL := rv_al (rv_t6 (List.mem_of_getElem? (i := 48) rfl)) rfl
theorem wlX7_4 : u_lay RX7 TX7 4 ∈ rv_AL := rv_al (rv_t6 (List.mem_of_getElem? (i := 50) rfl)) rfl
theorem wlX7 : ∀ w ∈ u_ws RX7 TX7 5, w ∈ rv_AL := by
  intro w hw
  obtain ⟨k, hk, rfl⟩ := List.mem_map.mp hw
  rw [List.mem_range] at hk
  exact (match k, hk with | 0, _ => wlX7_0 | 1, _ => wlX7_1 | 2, _ => wlX7_2 | 3, _ => wlX7_3 | 4, _ => wlX7_4 | k + 5, h => absurd h (by omega))
theorem wlX8_0 : u_lay RX8 TX8 0 ∈ rv_AL := rv_al (rv_t1 (List.mem_of_getElem? (i := 183) rfl)) rfl
theorem wlX8_1 : u_lay RX8 TX8 1 ∈ rv_AL := rv_al (rv_t1 (List.mem_of_getElem? (i := 185) rfl)) rfl
theorem wlX8_2 : u_lay RX8 TX8 2 ∈ rv_AL := rv_al (rv_t1 (List.mem_of_getElem? (i := 187) rfl)) rfl
theorem wlX8_3 : u_lay RX8 TX8 3 ∈ rv_AL := rv_al (rv_t1 (List.mem_of_getElem? (i := 189) rfl)) rfl
theorem wlX8_4 : u_lay RX8 TX8 4 ∈ rv_AL := rv_al (rv_t1 (List.mem_of_getElem? (i := 191) rfl)) rfl
theorem wlX8_5 : u_lay RX8 TX8 5 ∈ rv_AL := rv_al (rv_t1 (List.mem_of_getElem? (i := 193) rfl)) rfl
theorem wlX8_6 : u_lay RX8 TX8 6 ∈ rv_AL := rv_al (rv_t1 (List.mem_of_getElem? (i := 195) rfl)) rfl
theorem wlX8 : ∀ w ∈ u_ws RX8 TX8 7, w ∈ rv_AL := by
  intro w hw
  obtain ⟨k, hk, rfl⟩ := List.mem_map.mp hw
  rw [List.mem_range] at hk
  exact (match k, hk with | 0, _ => wlX8_0 | 1, _ => wlX8_1 | 2, _ => wlX8_2 | 3, _ => wlX8_3 | 4, _ => wlX8_4 | 5, _ => wlX8_5 | 6, _ => wlX8_6 | k + 7, h => absurd h (by omega))
theorem wlX9_0 : u_lay RX9 TX9 0 ∈ rv_AL := rv_al (rv_t1 (List.mem_of_getElem? (i := 61) rfl)) rfl
theorem wlX9_1 : u_lay RX9 TX9 1 ∈ rv_AL := rv_al (rv_t1 (List.mem_of_getElem? (i := 63) rfl)) rfl
theorem wlX9_2 : u_lay RX9 TX9 2 ∈ rv_AL := rv_al (rv_t1 (List.mem_of_getElem? (i := 65) rfl)) rfl
theorem wlX9_3 : u_lay RX9 TX9 3 ∈ rv_AL := rv_al (rv_t1 (List.mem_of_getElem? (i := 67) rfl)) rfl
theorem wlX9_4 : u_lay RX9 TX9 4 ∈ rv_AL := rv_al (rv_t1 (List.mem_of_getElem? (i := 69) rfl)) rfl
theorem wlX9_5 : u_lay RX9 TX9 5 ∈ rv_AL := rv_al (rv_t1 (List.mem_of_getElem? (i := 71) rfl)) rfl
theorem wlX9_6 : u_lay RX9 TX9 6 ∈ rv_AL := rv_al (rv_t1 (List.mem_of_getElem? (i := 73) rfl)) rfl
theorem wlX9_7 : u_lay RX9 TX9 7 ∈ rv_AL := rv_al (rv_t1 (List.mem_of_getElem? (i := 75) rfl)) rfl
theorem wlX9_8 : u_lay RX9 TX9 8 ∈ rv_AL := rv_al (rv_t1 (List.mem_of_getElem? (i := 77) rfl)) rfl
theorem wlX9_9 : u_lay RX9 TX9 9 ∈ rv_AL := rv_al (rv_t1 (List.mem_of_getElem? (i := 79) rfl)) rfl
theorem wlX9_10 : u_lay RX9 TX9 10 ∈ rv_AL := rv_al (rv_t1 (List.mem_of_getElem? (i := 81) rfl)) rfl
theorem wlX9 : ∀ w ∈ u_ws RX9 TX9 11, w ∈ rv_AL := by
  intro w hw
  obtain ⟨k, hk, rfl⟩ := List.mem_map.mp hw
  rw [List.mem_range] at hk
  exact (match k, hk with | 0, _ => wlX9_0 | 1, _ => wlX9_1 | 2, _ => wlX9_2 | 3, _ => wlX9_3 | 4, _ => wlX9_4 | 5, _ => wlX9_5 | 6, _ => wlX9_6 | 7, _ => wlX9_7 | 8, _ => wlX9_8 | 9, _ => wlX9_9 | 10, _ => wlX9_10 | k + 11, h => absurd h (by omega))
theorem wlX10_0 : u_lay RX10 TX10 0 ∈ rv_AL := rv_al (rv_t1 (List.mem_of_getElem? (i := 163) rfl)) rfl
theorem wlX10_1 : u_lay RX10 TX10 1 ∈ rv_AL := rv_al (rv_t1 (List.mem_of_getElem? (i := 165) rfl)) rfl
theorem wlX10_2 : u_lay RX10 TX10 2 ∈ rv_AL := rv_al (rv_t1 (List.mem_of_getElem? (i := 167) rfl)) rfl
theorem wlX10 : ∀ w ∈ u_ws RX10 TX10 3, w ∈ rv_AL := by
  intro w hw
  obtain ⟨k, hk, rfl⟩ := List.mem_map.mp hw
  rw [List.mem_range] at hk
  exact (match k, hk with | 0, _ => wlX10_0 | 1, _ => wlX10_1 | 2, _ => wlX10_2 | k + 3, h => absurd h (by omega))
theorem wlX11_0 : u_lay RX11 TX11 0 ∈ rv_AL := rv_al (rv_t2 (List.mem_of_getElem? (i := 42) rfl)) rfl
theorem wlX11_1 : u_lay RX11 TX11 1 ∈ rv_AL := rv_al (rv_t2 (List.mem_of_getElem? (i := 44) rfl)) rfl
theorem wlX11_2 : u_lay RX11 TX11 2 ∈ rv_AL := rv_al (rv_t2 (List.mem_of_getElem? (i := 46) rfl)) rfl
theorem wlX11_3 : u_lay RX11 TX11 3 ∈ rv_AL := rv_al (rv_t2 (List.mem_of_getElem? (i := 48) rfl)) rfl
theorem wlX11_4 : u_lay RX11 TX11 4 ∈ rv_AL := rv_al (rv_t2 (List.mem_of_getElem? (i := 50) rfl)) rfl
theorem wlX11_5 : u_lay RX11 TX11 5 ∈ rv_AL := rv_al (rv_t2 (List.mem_of_getElem? (i := 52) rfl)) rfl
theorem wlX11_6 : u_lay RX11 TX11 6 ∈ rv_AL := rv_al (rv_t2 (List.mem_of_getElem? (i := 54) rfl)) rfl
theorem wlX11_7 : u_lay RX11 TX11 7 ∈ rv_AL := rv_al (rv_t2 (List.mem_of_getElem? (i := 56) rfl)) rfl
theorem wlX11_8 : u_lay RX11 TX11 8 ∈ rv_AL := rv_al (rv_t2 (List.mem_of_getElem? (i := 58) rfl)) rfl
theorem wlX11_9 : u_lay RX11 TX11 9 ∈ rv_AL := rv_al (rv_t2 (List.mem_of_getElem? (i := 60) rfl)) rfl
theorem wlX11_10 : u_lay RX11 TX11 10 ∈ rv_AL := rv_al (rv_t2 (List.mem_of_getElem? (i := 62) rfl)) rfl
theorem wlX11_11 : u_lay RX11 TX11 11 ∈ rv_AL := rv_al (rv_t2 (List.mem_of_getElem? (i := 64) rfl)) rfl
theorem wlX11 : ∀ w ∈ u_ws RX11 TX11 12, w ∈ rv_AL := by
  intro w hw
  obtain ⟨k, hk, rfl⟩ := List.mem_map.mp hw
  rw [List.mem_range] at hk
  exact (match k, hk with | 0, _ => wlX11_0 | 1, _ => wlX11_1 | 2, _ => wlX11_2 | 3, _ => wlX11_3 | 4, _ => wlX11_4 | 5, _ => wlX11_5 | 6, _ => wlX11_6 | 7, _ => wlX11_7 | 8, _ => wlX11_8 | 9, _ => wlX11_9 | 10, _ => wlX11_10 | 11, _ => wlX11_11 | k + 12, h => absurd h (by omega))
theorem wfX11_10 : Cond.fieldLink RX11 10 "ReviewForge" "store" "LReviewForge$Store;" ∈ rv_AL := rv_al (rv_t2 (List.mem_of_getElem? (i := 30) rfl)) rfl
theorem wfX11_21 : Cond.fieldLink RX11 21 "ReviewForge" "comparer" "LReviewForge$Comparer;" ∈ rv_AL := rv_al (rv_t2 (List.mem_of_getElem? (i := 31) rfl)) rfl
theorem wfX11_28 : Cond.fieldLink RX11 28 "ReviewForge" "votes" "LReviewForge$Votes;" ∈ rv_AL := rv_al (rv_t2 (List.mem_of_getElem? (i := 32) rfl)) rfl
theorem wfX11_35 : Cond.fieldLink RX11 35 "ReviewForge" "rules" "LReviewForge$Rules;" ∈ rv_AL := rv_al (rv_t2 (List.mem_of_getElem? (i := 33) rfl)) rfl
theorem wfX11_42 : Cond.fieldLink RX11 42 "ReviewForge" "ownerLists" "LReviewForge$OwnerLists;" ∈ rv_AL := rv_al (rv_t2 (List.mem_of_getElem? (i := 34) rfl)) rfl
theorem wfX11_49 : Cond.fieldLink RX11 49 "ReviewForge" "changeList" "Ljava/util/ArrayList;" ∈ rv_AL := rv_al (rv_t2 (List.mem_of_getElem? (i := 35) rfl)) rfl
theorem wfX11_53 : Cond.fieldLink RX11 53 "ReviewForge" "commentList" "Ljava/util/ArrayList;" ∈ rv_AL := rv_al (rv_t2 (List.mem_of_getElem? (i := 36) rfl)) rfl
theorem wfX11_56 : Cond.fieldLink RX11 56 "ReviewForge" "findingList" "Ljava/util/ArrayList;" ∈ rv_AL := rv_al (rv_t2 (List.mem_of_getElem? (i := 37) rfl)) rfl
theorem wfX11_64 : Cond.fieldLink RX11 64 "ReviewForge" "landing" "LReviewForge$Landing;" ∈ rv_AL := rv_al (rv_t2 (List.mem_of_getElem? (i := 38) rfl)) rfl
theorem wfX11_68 : Cond.fieldLink RX11 68 "ReviewForge" "watchers" "[I" ∈ rv_AL := rv_al (rv_t2 (List.mem_of_getElem? (i := 39) rfl)) rfl
theorem wfX11_72 : Cond.fieldLink RX11 72 "ReviewForge" "mailCounts" "[I" ∈ rv_AL := rv_al (rv_t2 (List.mem_of_getElem? (i := 40) rfl)) rfl
theorem wfX11_75 : Cond.fieldLink RX11 75 "ReviewForge" "today" "I" ∈ rv_AL := rv_al (rv_t2 (List.mem_of_getElem? (i := 41) rfl)) rfl
theorem wfX11_137 : Cond.fieldLink RX11 137 "ReviewForge$Store" "count" "I" ∈ rv_AL := rv_al (rv_t1 (List.mem_of_getElem? (i := 60) rfl)) rfl
theorem wfX11_180 : Cond.fieldLink RX11 180 "ReviewForge$Change" "number" "I" ∈ rv_AL := rv_al (rv_t3 (List.mem_of_getElem? (i := 146) rfl)) rfl
theorem wfX11_187 : Cond.fieldLink RX11 187 "ReviewForge$Change" "repository" "I" ∈ rv_AL := rv_al (rv_t3 (List.mem_of_getElem? (i := 151) rfl)) rfl
theorem wfX11_227 : Cond.fieldLink RX11 227 "ReviewForge$Change" "state" "I" ∈ rv_AL := rv_al (rv_t3 (List.mem_of_getElem? (i := 158) rfl)) rfl
theorem wfX11_235 : Cond.fieldLink RX11 235 "ReviewForge$Change" "lastAct" "I" ∈ rv_AL := rv_al (rv_t3 (List.mem_of_getElem? (i := 169) rfl)) rfl
theorem wfX11_238 : Cond.fieldLink RX11 238 "ReviewForge$Change" "setCount" "I" ∈ rv_AL := rv_al (rv_t3 (List.mem_of_getElem? (i := 155) rfl)) rfl
theorem wfX11_243 : Cond.fieldLink RX11 243 "ReviewForge$Change" "isInWork" "Z" ∈ rv_AL := rv_al (rv_t3 (List.mem_of_getElem? (i := 160) rfl)) rfl
theorem wfX11_247 : Cond.fieldLink RX11 247 "ReviewForge$Change" "isPrivate" "Z" ∈ rv_AL := rv_al (rv_t3 (List.mem_of_getElem? (i := 161) rfl)) rfl
theorem wfX11_250 : Cond.fieldLink RX11 250 "ReviewForge$Change" "turns" "I" ∈ rv_AL := rv_al (rv_t3 (List.mem_of_getElem? (i := 168) rfl)) rfl
theorem wfX11_253 : Cond.fieldLink RX11 253 "ReviewForge$Change" "reviewerSet" "I" ∈ rv_AL := rv_al (rv_t3 (List.mem_of_getElem? (i := 166) rfl)) rfl
theorem wfX11_258 : Cond.fieldLink RX11 258 "ReviewForge$Change" "topic" "I" ∈ rv_AL := rv_al (rv_t3 (List.mem_of_getElem? (i := 164) rfl)) rfl
theorem wfX11_303 : Cond.fieldLink RX11 303 "ReviewForge$Comment" "isPublished" "Z" ∈ rv_AL := rv_al (rv_t4 (List.mem_of_getElem? (i := 225) rfl)) rfl
theorem wfX11_306 : Cond.fieldLink RX11 306 "ReviewForge$Comment" "thread" "I" ∈ rv_AL := rv_al (rv_t4 (List.mem_of_getElem? (i := 220) rfl)) rfl
theorem wfX11_311 : Cond.fieldLink RX11 311 "ReviewForge$Comment" "place" "LReviewForge$Place;" ∈ rv_AL := rv_al (rv_t4 (List.mem_of_getElem? (i := 224) rfl)) rfl
theorem wfX11_315 : Cond.fieldLink RX11 315 "ReviewForge$Place" "change" "I" ∈ rv_AL := rv_al (rv_t6 (List.mem_of_getElem? (i := 30) rfl)) rfl
theorem wfX11_318 : Cond.fieldLink RX11 318 "ReviewForge$Comment" "author" "I" ∈ rv_AL := rv_al (rv_t4 (List.mem_of_getElem? (i := 218) rfl)) rfl
theorem wfX11_333 : Cond.fieldLink RX11 333 "ReviewForge$Place" "set" "I" ∈ rv_AL := rv_al (rv_t6 (List.mem_of_getElem? (i := 32) rfl)) rfl
theorem wfX11_339 : Cond.fieldLink RX11 339 "ReviewForge$Place" "many" "I" ∈ rv_AL := rv_al (rv_t6 (List.mem_of_getElem? (i := 41) rfl)) rfl
theorem wfX11_342 : Cond.fieldLink RX11 342 "ReviewForge$Place" "from" "I" ∈ rv_AL := rv_al (rv_t6 (List.mem_of_getElem? (i := 38) rfl)) rfl
theorem wfX11_345 : Cond.fieldLink RX11 345 "ReviewForge$Place" "file" "I" ∈ rv_AL := rv_al (rv_t6 (List.mem_of_getElem? (i := 35) rfl)) rfl
theorem wfX11_403 : Cond.fieldLink RX11 403 "ReviewForge$OwnerLists" "lastResort" "I" ∈ rv_AL := rv_al (rv_t1 (List.mem_of_getElem? (i := 209) rfl)) rfl
theorem wfX11_473 : Cond.fieldLink RX11 473 "ReviewForge$Change" "owner" "I" ∈ rv_AL := rv_al (rv_t3 (List.mem_of_getElem? (i := 148) rfl)) rfl
theorem wfX11_525 : Cond.fieldLink RX11 525 "ReviewForge$Change" "landedWith" "I" ∈ rv_AL := rv_al (rv_t3 (List.mem_of_getElem? (i := 172) rfl)) rfl
theorem wfX11_539 : Cond.fieldLink RX11 539 "ReviewForge$Comment" "isUnresolved" "Z" ∈ rv_AL := rv_al (rv_t4 (List.mem_of_getElem? (i := 222) rfl)) rfl
theorem wfX11_544 : Cond.fieldLink RX11 544 "ReviewForge$Finding" "commit" "I" ∈ rv_AL := rv_al (rv_t6 (List.mem_of_getElem? (i := 215) rfl)) rfl
theorem wfX11_547 : Cond.fieldLink RX11 547 "ReviewForge$Finding" "place" "LReviewForge$Place;" ∈ rv_AL := rv_al (rv_t6 (List.mem_of_getElem? (i := 219) rfl)) rfl
theorem wfX11_559 : Cond.fieldLink RX11 559 "ReviewForge$Finding" "line" "I" ∈ rv_AL := rv_al (rv_t6 (List.mem_of_getElem? (i := 217) rfl)) rfl
theorem wfX0_9 : Cond.fieldLink RX0 9 "ReviewForge$Change" "commits" "[I" ∈ rv_AL := rv_al (rv_t3 (List.mem_of_getElem? (i := 152) rfl)) rfl
theorem wfX0_15 : Cond.fieldLink RX0 15 "ReviewForge$Change" "state" "I" ∈ rv_AL := rv_al (rv_t3 (List.mem_of_getElem? (i := 156) rfl)) rfl
theorem wfX0_19 : Cond.fieldLink RX0 19 "ReviewForge$Change" "topic" "I" ∈ rv_AL := rv_al (rv_t3 (List.mem_of_getElem? (i := 162) rfl)) rfl
theorem wfX0_22 : Cond.fieldLink RX0 22 "ReviewForge$Change" "landedWith" "I" ∈ rv_AL := rv_al (rv_t3 (List.mem_of_getElem? (i := 170) rfl)) rfl
theorem wfX0_25 : Cond.fieldLink RX0 25 "ReviewForge$Change" "number" "I" ∈ rv_AL := rv_al (rv_t3 (List.mem_of_getElem? (i := 144) rfl)) rfl
theorem wfX0_28 : Cond.fieldLink RX0 28 "ReviewForge$Change" "owner" "I" ∈ rv_AL := rv_al (rv_t3 (List.mem_of_getElem? (i := 147) rfl)) rfl
theorem wfX0_31 : Cond.fieldLink RX0 31 "ReviewForge$Change" "repository" "I" ∈ rv_AL := rv_al (rv_t3 (List.mem_of_getElem? (i := 149) rfl)) rfl
theorem wfX0_34 : Cond.fieldLink RX0 34 "ReviewForge$Change" "setCount" "I" ∈ rv_AL := rv_al (rv_t3 (List.mem_of_getElem? (i := 153) rfl)) rfl
theorem wfX0_43 : Cond.fieldLink RX0 43 "ReviewForge$Change" "reviewerSet" "I" ∈ rv_AL := rv_al (rv_t3 (List.mem_of_getElem? (i := 165) rfl)) rfl
theorem wfX0_46 : Cond.fieldLink RX0 46 "ReviewForge$Change" "isInWork" "Z" ∈ rv_AL := rv_al (rv_t3 (List.mem_of_getElem? (i := 159) rfl)) rfl
theorem wfX0_50 : Cond.fieldLink RX0 50 "ReviewForge$Change" "turns" "I" ∈ rv_AL := rv_al (rv_t3 (List.mem_of_getElem? (i := 167) rfl)) rfl
theorem wfX1_7 : Cond.fieldLink RX1 7 "ReviewForge$Comment" "author" "I" ∈ rv_AL := rv_al (rv_t4 (List.mem_of_getElem? (i := 217) rfl)) rfl
theorem wfX1_13 : Cond.fieldLink RX1 13 "ReviewForge$Comment" "thread" "I" ∈ rv_AL := rv_al (rv_t4 (List.mem_of_getElem? (i := 219) rfl)) rfl
theorem wfX1_16 : Cond.fieldLink RX1 16 "ReviewForge$Comment" "isUnresolved" "Z" ∈ rv_AL := rv_al (rv_t4 (List.mem_of_getElem? (i := 221) rfl)) rfl
theorem wfX1_20 : Cond.fieldLink RX1 20 "ReviewForge$Comment" "place" "LReviewForge$Place;" ∈ rv_AL := rv_al (rv_t4 (List.mem_of_getElem? (i := 223) rfl)) rfl
theorem wfX2_12 : Cond.fieldLink RX2 12 "ReviewForge$Comparer" "one" "LReviewForge$Comparison;" ∈ rv_AL := rv_al (rv_t1 (List.mem_of_getElem? (i := 141) rfl)) rfl
theorem wfX2_18 : Cond.fieldLink RX2 18 "ReviewForge$Comparer" "two" "LReviewForge$Comparison;" ∈ rv_AL := rv_al (rv_t1 (List.mem_of_getElem? (i := 142) rfl)) rfl
theorem wfX2_21 : Cond.fieldLink RX2 21 "ReviewForge$Comparer" "left" "[I" ∈ rv_AL := rv_al (rv_t1 (List.mem_of_getElem? (i := 143) rfl)) rfl
theorem wfX2_25 : Cond.fieldLink RX2 25 "ReviewForge$Comparer" "store" "LReviewForge$Store;" ∈ rv_AL := rv_al (rv_t1 (List.mem_of_getElem? (i := 140) rfl)) rfl
theorem wfX2_47 : Cond.fieldLink RX2 47 "ReviewForge$Comparison" "firstSize" "I" ∈ rv_AL := rv_al (rv_t1 (List.mem_of_getElem? (i := 113) rfl)) rfl
theorem wfX2_55 : Cond.fieldLink RX2 55 "ReviewForge$Comparison" "drops" "[I" ∈ rv_AL := rv_al (rv_t1 (List.mem_of_getElem? (i := 107) rfl)) rfl
theorem wfX2_58 : Cond.fieldLink RX2 58 "ReviewForge$Comparison" "adds" "[I" ∈ rv_AL := rv_al (rv_t1 (List.mem_of_getElem? (i := 111) rfl)) rfl
theorem wfX2_61 : Cond.fieldLink RX2 61 "ReviewForge$Comparison" "second" "[I" ∈ rv_AL := rv_al (rv_t1 (List.mem_of_getElem? (i := 100) rfl)) rfl
theorem wfX2_64 : Cond.fieldLink RX2 64 "ReviewForge$Comparison" "addAt" "[I" ∈ rv_AL := rv_al (rv_t1 (List.mem_of_getElem? (i := 109) rfl)) rfl
theorem wfX2_71 : Cond.fieldLink RX2 71 "ReviewForge$Comparison" "first" "[I" ∈ rv_AL := rv_al (rv_t1 (List.mem_of_getElem? (i := 98) rfl)) rfl
theorem wfX2_87 : Cond.fieldLink RX2 87 "ReviewForge$Comparison" "count" "I" ∈ rv_AL := rv_al (rv_t1 (List.mem_of_getElem? (i := 116) rfl)) rfl
theorem wfX2_99 : Cond.fieldLink RX2 99 "ReviewForge$Comparison" "dropAt" "[I" ∈ rv_AL := rv_al (rv_t1 (List.mem_of_getElem? (i := 105) rfl)) rfl
theorem wfX2_105 : Cond.fieldLink RX2 105 "ReviewForge$Comparison" "mates" "[I" ∈ rv_AL := rv_al (rv_t1 (List.mem_of_getElem? (i := 103) rfl)) rfl
theorem wfX3_9 : Cond.fieldLink RX3 9 "ReviewForge$Comparison" "first" "[I" ∈ rv_AL := rv_al (rv_t1 (List.mem_of_getElem? (i := 97) rfl)) rfl
theorem wfX3_15 : Cond.fieldLink RX3 15 "ReviewForge$Comparison" "second" "[I" ∈ rv_AL := rv_al (rv_t1 (List.mem_of_getElem? (i := 99) rfl)) rfl
theorem wfX3_18 : Cond.fieldLink RX3 18 "ReviewForge$Comparison" "pairs" "[I" ∈ rv_AL := rv_al (rv_t1 (List.mem_of_getElem? (i := 101) rfl)) rfl
theorem wfX3_21 : Cond.fieldLink RX3 21 "ReviewForge$Comparison" "mates" "[I" ∈ rv_AL := rv_al (rv_t1 (List.mem_of_getElem? (i := 102) rfl)) rfl
theorem wfX3_24 : Cond.fieldLink RX3 24 "ReviewForge$Comparison" "dropAt" "[I" ∈ rv_AL := rv_al (rv_t1 (List.mem_of_getElem? (i := 104) rfl)) rfl
theorem wfX3_27 : Cond.fieldLink RX3 27 "ReviewForge$Comparison" "drops" "[I" ∈ rv_AL := rv_al (rv_t1 (List.mem_of_getElem? (i := 106) rfl)) rfl
theorem wfX3_30 : Cond.fieldLink RX3 30 "ReviewForge$Comparison" "addAt" "[I" ∈ rv_AL := rv_al (rv_t1 (List.mem_of_getElem? (i := 108) rfl)) rfl
theorem wfX3_33 : Cond.fieldLink RX3 33 "ReviewForge$Comparison" "adds" "[I" ∈ rv_AL := rv_al (rv_t1 (List.mem_of_getElem? (i := 110) rfl)) rfl
theorem wfX3_40 : Cond.fieldLink RX3 40 "ReviewForge$Comparison" "firstSize" "I" ∈ rv_AL := rv_al (rv_t1 (List.mem_of_getElem? (i := 112) rfl)) rfl
theorem wfX3_44 : Cond.fieldLink RX3 44 "ReviewForge$Comparison" "secondSize" "I" ∈ rv_AL := rv_al (rv_t1 (List.mem_of_getElem? (i := 114) rfl)) rfl
theorem wfX3_80 : Cond.fieldLink RX3 80 "ReviewForge$Comparison" "count" "I" ∈ rv_AL := rv_al (rv_t1 (List.mem_of_getElem? (i := 115) rfl)) rfl
theorem wfX4_7 : Cond.fieldLink RX4 7 "ReviewForge$Finding" "commit" "I" ∈ rv_AL := rv_al (rv_t6 (List.mem_of_getElem? (i := 214) rfl)) rfl
theorem wfX4_13 : Cond.fieldLink RX4 13 "ReviewForge$Finding" "line" "I" ∈ rv_AL := rv_al (rv_t6 (List.mem_of_getElem? (i := 216) rfl)) rfl
theorem wfX4_16 : Cond.fieldLink RX4 16 "ReviewForge$Finding" "place" "LReviewForge$Place;" ∈ rv_AL := rv_al (rv_t6 (List.mem_of_getElem? (i := 218) rfl)) rfl
theorem wfX5_9 : Cond.fieldLink RX5 9 "ReviewForge$Landing" "ways" "[I" ∈ rv_AL := rv_al (rv_t2 (List.mem_of_getElem? (i := 14) rfl)) rfl
theorem wfX5_15 : Cond.fieldLink RX5 15 "ReviewForge$Landing" "commits" "[I" ∈ rv_AL := rv_al (rv_t2 (List.mem_of_getElem? (i := 15) rfl)) rfl
theorem wfX5_18 : Cond.fieldLink RX5 18 "ReviewForge$Landing" "store" "LReviewForge$Store;" ∈ rv_AL := rv_al (rv_t2 (List.mem_of_getElem? (i := 11) rfl)) rfl
theorem wfX5_22 : Cond.fieldLink RX5 22 "ReviewForge$Landing" "comparer" "LReviewForge$Comparer;" ∈ rv_AL := rv_al (rv_t2 (List.mem_of_getElem? (i := 12) rfl)) rfl
theorem wfX5_26 : Cond.fieldLink RX5 26 "ReviewForge$Landing" "changes" "Ljava/util/ArrayList;" ∈ rv_AL := rv_al (rv_t2 (List.mem_of_getElem? (i := 13) rfl)) rfl
theorem wfX5_60 : Cond.fieldLink RX5 60 "ReviewForge$Change" "number" "I" ∈ rv_AL := rv_al (rv_t3 (List.mem_of_getElem? (i := 145) rfl)) rfl
theorem wfX5_68 : Cond.fieldLink RX5 68 "ReviewForge$Change" "topic" "I" ∈ rv_AL := rv_al (rv_t3 (List.mem_of_getElem? (i := 163) rfl)) rfl
theorem wfX5_71 : Cond.fieldLink RX5 71 "ReviewForge$Change" "state" "I" ∈ rv_AL := rv_al (rv_t3 (List.mem_of_getElem? (i := 157) rfl)) rfl
theorem wfX5_74 : Cond.fieldLink RX5 74 "ReviewForge$Store" "count" "I" ∈ rv_AL := rv_al (rv_t1 (List.mem_of_getElem? (i := 59) rfl)) rfl
theorem wfX5_77 : Cond.fieldLink RX5 77 "ReviewForge$Store" "tips" "[I" ∈ rv_AL := rv_al (rv_t1 (List.mem_of_getElem? (i := 56) rfl)) rfl
theorem wfX5_89 : Cond.fieldLink RX5 89 "ReviewForge$Landing" "squashed" "I" ∈ rv_AL := rv_al (rv_t2 (List.mem_of_getElem? (i := 16) rfl)) rfl
theorem wfX5_103 : Cond.fieldLink RX5 103 "ReviewForge$Change" "repository" "I" ∈ rv_AL := rv_al (rv_t3 (List.mem_of_getElem? (i := 150) rfl)) rfl
theorem wfX5_142 : Cond.fieldLink RX5 142 "ReviewForge$Change" "landedWith" "I" ∈ rv_AL := rv_al (rv_t3 (List.mem_of_getElem? (i := 171) rfl)) rfl
theorem wfX5_145 : Cond.fieldLink RX5 145 "ReviewForge$Store" "names" "[I" ∈ rv_AL := rv_al (rv_t1 (List.mem_of_getElem? (i := 51) rfl)) rfl
theorem wfX6_11 : Cond.fieldLink RX6 11 "ReviewForge$OwnerLists" "lists" "[I" ∈ rv_AL := rv_al (rv_t1 (List.mem_of_getElem? (i := 205) rfl)) rfl
theorem wfX6_15 : Cond.fieldLink RX6 15 "ReviewForge$OwnerLists" "cuts" "[Z" ∈ rv_AL := rv_al (rv_t1 (List.mem_of_getElem? (i := 206) rfl)) rfl
theorem wfX6_19 : Cond.fieldLink RX6 19 "ReviewForge$OwnerLists" "includes" "[Z" ∈ rv_AL := rv_al (rv_t1 (List.mem_of_getElem? (i := 207) rfl)) rfl
theorem wfX6_28 : Cond.fieldLink RX6 28 "ReviewForge$OwnerLists" "lastResort" "I" ∈ rv_AL := rv_al (rv_t1 (List.mem_of_getElem? (i := 208) rfl)) rfl
theorem wfX7_7 : Cond.fieldLink RX7 7 "ReviewForge$Place" "change" "I" ∈ rv_AL := rv_al (rv_t6 (List.mem_of_getElem? (i := 29) rfl)) rfl
theorem wfX7_13 : Cond.fieldLink RX7 13 "ReviewForge$Place" "set" "I" ∈ rv_AL := rv_al (rv_t6 (List.mem_of_getElem? (i := 31) rfl)) rfl
theorem wfX7_16 : Cond.fieldLink RX7 16 "ReviewForge$Place" "file" "I" ∈ rv_AL := rv_al (rv_t6 (List.mem_of_getElem? (i := 33) rfl)) rfl
theorem wfX7_19 : Cond.fieldLink RX7 19 "ReviewForge$Place" "from" "I" ∈ rv_AL := rv_al (rv_t6 (List.mem_of_getElem? (i := 36) rfl)) rfl
theorem wfX7_22 : Cond.fieldLink RX7 22 "ReviewForge$Place" "many" "I" ∈ rv_AL := rv_al (rv_t6 (List.mem_of_getElem? (i := 39) rfl)) rfl
theorem wfX8_9 : Cond.fieldLink RX8 9 "ReviewForge$Rules" "statementOf" "[I" ∈ rv_AL := rv_al (rv_t1 (List.mem_of_getElem? (i := 176) rfl)) rfl
theorem wfX8_15 : Cond.fieldLink RX8 15 "ReviewForge$Rules" "musts" "[I" ∈ rv_AL := rv_al (rv_t1 (List.mem_of_getElem? (i := 177) rfl)) rfl
theorem wfX8_18 : Cond.fieldLink RX8 18 "ReviewForge$Rules" "mustNots" "[I" ∈ rv_AL := rv_al (rv_t1 (List.mem_of_getElem? (i := 178) rfl)) rfl
theorem wfX8_21 : Cond.fieldLink RX8 21 "ReviewForge$Rules" "isDropped" "[Z" ∈ rv_AL := rv_al (rv_t1 (List.mem_of_getElem? (i := 179) rfl)) rfl
theorem wfX8_25 : Cond.fieldLink RX8 25 "ReviewForge$Rules" "levels" "[I" ∈ rv_AL := rv_al (rv_t1 (List.mem_of_getElem? (i := 180) rfl)) rfl
theorem wfX8_28 : Cond.fieldLink RX8 28 "ReviewForge$Rules" "count" "I" ∈ rv_AL := rv_al (rv_t1 (List.mem_of_getElem? (i := 182) rfl)) rfl
theorem wfX8_46 : Cond.fieldLink RX8 46 "ReviewForge$Rules" "highest" "I" ∈ rv_AL := rv_al (rv_t1 (List.mem_of_getElem? (i := 181) rfl)) rfl
theorem wfX9_11 : Cond.fieldLink RX9 11 "ReviewForge$Store" "lines" "[I" ∈ rv_AL := rv_al (rv_t1 (List.mem_of_getElem? (i := 46) rfl)) rfl
theorem wfX9_15 : Cond.fieldLink RX9 15 "ReviewForge$Store" "sizes" "[I" ∈ rv_AL := rv_al (rv_t1 (List.mem_of_getElem? (i := 47) rfl)) rfl
theorem wfX9_18 : Cond.fieldLink RX9 18 "ReviewForge$Store" "repositories" "[I" ∈ rv_AL := rv_al (rv_t1 (List.mem_of_getElem? (i := 48) rfl)) rfl
theorem wfX9_21 : Cond.fieldLink RX9 21 "ReviewForge$Store" "bases" "[I" ∈ rv_AL := rv_al (rv_t1 (List.mem_of_getElem? (i := 49) rfl)) rfl
theorem wfX9_24 : Cond.fieldLink RX9 24 "ReviewForge$Store" "names" "[I" ∈ rv_AL := rv_al (rv_t1 (List.mem_of_getElem? (i := 50) rfl)) rfl
theorem wfX9_27 : Cond.fieldLink RX9 27 "ReviewForge$Store" "owningChanges" "[I" ∈ rv_AL := rv_al (rv_t1 (List.mem_of_getElem? (i := 52) rfl)) rfl
theorem wfX9_30 : Cond.fieldLink RX9 30 "ReviewForge$Store" "uploaders" "[I" ∈ rv_AL := rv_al (rv_t1 (List.mem_of_getElem? (i := 53) rfl)) rfl
theorem wfX9_33 : Cond.fieldLink RX9 33 "ReviewForge$Store" "kinds" "[I" ∈ rv_AL := rv_al (rv_t1 (List.mem_of_getElem? (i := 54) rfl)) rfl
theorem wfX9_36 : Cond.fieldLink RX9 36 "ReviewForge$Store" "tips" "[I" ∈ rv_AL := rv_al (rv_t1 (List.mem_of_getElem? (i := 55) rfl)) rfl
theorem wfX9_39 : Cond.fieldLink RX9 39 "ReviewForge$Store" "currents" "[I" ∈ rv_AL := rv_al (rv_t1 (List.mem_of_getElem? (i := 57) rfl)) rfl
theorem wfX9_48 : Cond.fieldLink RX9 48 "ReviewForge$Store" "count" "I" ∈ rv_AL := rv_al (rv_t1 (List.mem_of_getElem? (i := 58) rfl)) rfl
theorem wfX9_92 : Cond.fieldLink RX9 92 "ReviewForge$Place" "file" "I" ∈ rv_AL := rv_al (rv_t6 (List.mem_of_getElem? (i := 34) rfl)) rfl
theorem wfX9_97 : Cond.fieldLink RX9 97 "ReviewForge$Place" "many" "I" ∈ rv_AL := rv_al (rv_t6 (List.mem_of_getElem? (i := 40) rfl)) rfl
theorem wfX9_104 : Cond.fieldLink RX9 104 "ReviewForge$Place" "from" "I" ∈ rv_AL := rv_al (rv_t6 (List.mem_of_getElem? (i := 37) rfl)) rfl
theorem wfX10_9 : Cond.fieldLink RX10 9 "ReviewForge$Votes" "cast" "[I" ∈ rv_AL := rv_al (rv_t1 (List.mem_of_getElem? (i := 161) rfl)) rfl
theorem wfX10_15 : Cond.fieldLink RX10 15 "ReviewForge$Votes" "copied" "[I" ∈ rv_AL := rv_al (rv_t1 (List.mem_of_getElem? (i := 162) rfl)) rfl
theorem wfX10_18 : Cond.fieldLink RX10 18 "ReviewForge$Votes" "store" "LReviewForge$Store;" ∈ rv_AL := rv_al (rv_t1 (List.mem_of_getElem? (i := 160) rfl)) rfl
theorem wfX10_55 : Cond.fieldLink RX10 55 "ReviewForge$Change" "setCount" "I" ∈ rv_AL := rv_al (rv_t3 (List.mem_of_getElem? (i := 154) rfl)) rfl
theorem wcX9_init : Cond.code yX9_init cX9_init 2 none ∈ rv_AL := rv_al (rv_t1 (List.mem_of_getElem? (i := 41) rfl)) rfl
theorem wmX11_9 : Cond.methodLink RX11 9 yX9_init ∈ rv_AL := rv_al (rv_t1 (List.mem_of_getElem? (i := 39) rfl)) rfl
theorem wcX2_init : Cond.code yX2_init cX2_init 2 none ∈ rv_AL := rv_al (rv_t1 (List.mem_of_getElem? (i := 89) rfl)) rfl
theorem wmX11_18 : Cond.methodLink RX11 18 yX2_init ∈ rv_AL := rv_al (rv_t1 (List.mem_of_getElem? (i := 87) rfl)) rfl
theorem wcX10_init : Cond.code yX10_init cX10_init 2 none ∈ rv_AL := rv_al (rv_t1 (List.mem_of_getElem? (i := 157) rfl)) rfl
theorem wmX11_27 : Cond.methodLink RX11 27 yX10_init ∈ rv_AL := rv_al (rv_t1 (List.mem_of_getElem? (i := 155) rfl)) rfl
theorem wcX8_init : Cond.code yX8_init cX8_init 1 none ∈ rv_AL := rv_al (rv_t1 (List.mem_of_getElem? (i := 174) rfl)) rfl
theorem wmX11_34 : Cond.methodLink RX11 34 yX8_init ∈ rv_AL := rv_al (rv_t1 (List.mem_of_getElem? (i := 172) rfl)) rfl
theorem wcX6_init : Cond.code yX6_init cX6_init 1 none ∈ rv_AL := rv_al (rv_t1 (List.mem_of_getElem? (i := 203) rfl)) rfl
theorem wcJx4a65c_init_da8c8 : Cond.code yJx4a65c_init_da8c8 cJx4a65c_init_da8c8 1 none ∈ rv_AL := rv_al (rv_t1 (List.mem_of_getElem? (i := 223) rfl)) rfl
theorem wmX11_48 : Cond.methodLink RX11 48 yJx4a65c_init_da8c8 ∈ rv_AL := rv_al (rv_t1 (List.mem_of_getElem? (i := 221) rfl)) rfl
theorem wcX5_init : Cond.code yX5_init cX5_init 4 none ∈ rv_AL := rv_al (rv_t2 (List.mem_of_getElem? (i := 9) rfl)) rfl
theorem wmX11_61 : Cond.methodLink RX11 61 yX5_init ∈ rv_AL := rv_al (rv_t2 (List.mem_of_getElem? (i := 7) rfl)) rfl
theorem wcX11_needCommit : Cond.code yX11_needCommit cX11_needCommit 2 none ∈ rv_AL := rv_al (rv_t2 (List.mem_of_getElem? (i := 82) rfl)) rfl
theorem gX11_79 : GoodIn rv_AL (wsV RX11 79 RX11 yX11_needCommit (rv_ws yX11_needCommit cX11_needCommit 2 none)) := rv_gV (rv_al (rv_t2 (List.mem_of_getElem? (i := 79) rfl)) rfl) (rv_al (rv_t2 (List.mem_of_getElem? (i := 81) rfl)) rfl) (rv_sl (q := (yX11_needCommit, 12)) (List.mem_append_left _ (List.mem_of_getElem? (i := 1) rfl))) wi_ReviewForge wcX11_needCommit
theorem wcX9_copyFiles : Cond.code yX9_copyFiles cX9_copyFiles 6 none ∈ rv_AL := rv_al (rv_t3 (List.mem_of_getElem? (i := 58) rfl)) rfl
theorem gX11_83 : GoodIn rv_AL (wsV RX11 83 RX9 yX9_copyFiles (rv_ws yX9_copyFiles cX9_copyFiles 6 none)) := rv_gV (rv_al (rv_t3 (List.mem_of_getElem? (i := 55) rfl)) rfl) (rv_al (rv_t3 (List.mem_of_getElem? (i := 56) rfl)) rfl) (rv_al (rv_t3 (List.mem_of_getElem? (i := 57) rfl)) rfl) wi_ReviewForge_Store wcX9_copyFiles
theorem wcX11_moveDesk : Cond.code yX11_moveDesk cX11_moveDesk 2 (some .int) ∈ rv_AL := rv_al (rv_t3 (List.mem_of_getElem? (i := 76) rfl)) rfl
theorem gX11_87 : GoodIn rv_AL (wsV RX11 87 RX11 yX11_moveDesk (rv_ws yX11_moveDesk cX11_moveDesk 2 (some .int))) := rv_gV (rv_al (rv_t3 (List.mem_of_getElem? (i := 73) rfl)) rfl) (rv_al (rv_t3 (List.mem_of_getElem? (i := 75) rfl)) rfl) (rv_sl (q := (yX11_moveDesk, 12)) (List.mem_append_left _ (List.mem_of_getElem? (i := 4) rfl))) wi_ReviewForge wcX11_moveDesk
theorem wcX11_needChange : Cond.code yX11_needChange cX11_needChange 2 (some (.object "ReviewForge$Change")) ∈ rv_AL := rv_al (rv_t2 (List.mem_of_getElem? (i := 173) rfl)) rfl
theorem gX11_91 : GoodIn rv_AL (wsV RX11 91 RX11 yX11_needChange (rv_ws yX11_needChange cX11_needChange 2 (some (.object "ReviewForge$Change")))) := rv_gV (rv_al (rv_t2 (List.mem_of_getElem? (i := 170) rfl)) rfl) (rv_al (rv_t2 (List.mem_of_getElem? (i := 172) rfl)) rfl) (rv_sl (q := (yX11_needChange, 12)) (List.mem_append_left _ (List.mem_of_getElem? (i := 3) rfl))) wi_ReviewForge wcX11_needChange
theorem wcX11_needSet : Cond.code yX11_needSet cX11_needSet 2 (some .int) ∈ rv_AL := rv_al (rv_t2 (List.mem_of_getElem? (i := 200) rfl)) rfl
theorem gX11_95 : GoodIn rv_AL (va_wsS RX11 95 yX11_needSet (rv_ws yX11_needSet cX11_needSet 2 (some .int))) := rv_gS (rv_al (rv_t2 (List.mem_of_getElem? (i := 198) rfl)) rfl) (rv_al (rv_t2 (List.mem_of_getElem? (i := 199) rfl)) rfl) wi_ReviewForge wcX11_needSet
theorem wcX9_baseOf : Cond.code yX9_baseOf cX9_baseOf 2 (some .int) ∈ rv_AL := rv_al (rv_t2 (List.mem_of_getElem? (i := 154) rfl)) rfl
theorem gX11_99 : GoodIn rv_AL (wsV RX11 99 RX9 yX9_baseOf (rv_ws yX9_baseOf cX9_baseOf 2 (some .int))) := rv_gV (rv_al (rv_t2 (List.mem_of_getElem? (i := 151) rfl)) rfl) (rv_al (rv_t2 (List.mem_of_getElem? (i := 152) rfl)) rfl) (rv_al (rv_t2 (List.mem_of_getElem? (i := 153) rfl)) rfl) wi_ReviewForge_Store wcX9_baseOf
theorem wcX11_needFile : Cond.code yX11_needFile cX11_needFile 1 none ∈ rv_AL := rv_al (rv_t3 (List.mem_of_getElem? (i := 95) rfl)) rfl
theorem gX11_102 : GoodIn rv_AL (va_wsS RX11 102 yX11_needFile (rv_ws yX11_needFile cX11_needFile 1 none)) := rv_gS (rv_al (rv_t3 (List.mem_of_getElem? (i := 93) rfl)) rfl) (rv_al (rv_t3 (List.mem_of_getElem? (i := 94) rfl)) rfl) wi_ReviewForge wcX11_needFile
theorem wcX9_sizeOf : Cond.code yX9_sizeOf cX9_sizeOf 4 (some .int) ∈ rv_AL := rv_al (rv_t3 (List.mem_of_getElem? (i := 62) rfl)) rfl
theorem gX11_105 : GoodIn rv_AL (wsV RX11 105 RX9 yX9_sizeOf (rv_ws yX9_sizeOf cX9_sizeOf 4 (some .int))) := rv_gV (rv_al (rv_t3 (List.mem_of_getElem? (i := 97) rfl)) rfl) (rv_al (rv_t3 (List.mem_of_getElem? (i := 60) rfl)) rfl) (rv_al (rv_t3 (List.mem_of_getElem? (i := 61) rfl)) rfl) wi_ReviewForge_Store wcX9_sizeOf
theorem wcX9_insertOnDesk : Cond.code yX9_insertOnDesk cX9_insertOnDesk 7 none ∈ rv_AL := rv_al (rv_t3 (List.mem_of_getElem? (i := 119) rfl)) rfl
theorem gX11_126 : GoodIn rv_AL (wsV RX11 126 RX9 yX9_insertOnDesk (rv_ws yX9_insertOnDesk cX9_insertOnDesk 7 none)) := rv_gV (rv_al (rv_t3 (List.mem_of_getElem? (i := 116) rfl)) rfl) (rv_al (rv_t3 (List.mem_of_getElem? (i := 117) rfl)) rfl) (rv_al (rv_t3 (List.mem_of_getElem? (i := 118) rfl)) rfl) wi_ReviewForge_Store wcX9_insertOnDesk
theorem wcX9_lineAt : Cond.code yX9_lineAt cX9_lineAt 6 (some .int) ∈ rv_AL := rv_al (rv_t3 (List.mem_of_getElem? (i := 72) rfl)) rfl
theorem gX11_130 : GoodIn rv_AL (wsV RX11 130 RX9 yX9_lineAt (rv_ws yX9_lineAt cX9_lineAt 6 (some .int))) := rv_gV (rv_al (rv_t3 (List.mem_of_getElem? (i := 124) rfl)) rfl) (rv_al (rv_t3 (List.mem_of_getElem? (i := 70) rfl)) rfl) (rv_al (rv_t3 (List.mem_of_getElem? (i := 71) rfl)) rfl) wi_ReviewForge_Store wcX9_lineAt
theorem wcX9_removeFromDesk : Cond.code yX9_removeFromDesk cX9_removeFromDesk 6 none ∈ rv_AL := rv_al (rv_t3 (List.mem_of_getElem? (i := 128) rfl)) rfl
theorem gX11_134 : GoodIn rv_AL (wsV RX11 134 RX9 yX9_removeFromDesk (rv_ws yX9_removeFromDesk cX9_removeFromDesk 6 none)) := rv_gV (rv_al (rv_t3 (List.mem_of_getElem? (i := 125) rfl)) rfl) (rv_al (rv_t3 (List.mem_of_getElem? (i := 126) rfl)) rfl) (rv_al (rv_t3 (List.mem_of_getElem? (i := 127) rfl)) rfl) wi_ReviewForge_Store wcX9_removeFromDesk
theorem wcX11_needCommitOrDesk : Cond.code yX11_needCommitOrDesk cX11_needCommitOrDesk 2 (some .int) ∈ rv_AL := rv_al (rv_t2 (List.mem_of_getElem? (i := 78) rfl)) rfl
theorem gX11_140 : GoodIn rv_AL (wsV RX11 140 RX11 yX11_needCommitOrDesk (rv_ws yX11_needCommitOrDesk cX11_needCommitOrDesk 2 (some .int))) := rv_gV (rv_al (rv_t2 (List.mem_of_getElem? (i := 75) rfl)) rfl) (rv_al (rv_t2 (List.mem_of_getElem? (i := 77) rfl)) rfl) (rv_sl (q := (yX11_needCommitOrDesk, 12)) (List.mem_append_left _ (List.mem_of_getElem? (i := 0) rfl))) wi_ReviewForge wcX11_needCommitOrDesk
theorem wcX11_needRepository : Cond.code yX11_needRepository cX11_needRepository 1 none ∈ rv_AL := rv_al (rv_t5 (List.mem_of_getElem? (i := 48) rfl)) rfl
theorem gX11_143 : GoodIn rv_AL (va_wsS RX11 143 yX11_needRepository (rv_ws yX11_needRepository cX11_needRepository 1 none)) := rv_gS (rv_al (rv_t5 (List.mem_of_getElem? (i := 46) rfl)) rfl) (rv_al (rv_t5 (List.mem_of_getElem? (i := 47) rfl)) rfl) wi_ReviewForge wcX11_needRepository
theorem wcX9_tipOf : Cond.code yX9_tipOf cX9_tipOf 2 (some .int) ∈ rv_AL := rv_al (rv_t4 (List.mem_of_getElem? (i := 147) rfl)) rfl
theorem gX11_146 : GoodIn rv_AL (wsV RX11 146 RX9 yX9_tipOf (rv_ws yX9_tipOf cX9_tipOf 2 (some .int))) := rv_gV (rv_al (rv_t4 (List.mem_of_getElem? (i := 144) rfl)) rfl) (rv_al (rv_t4 (List.mem_of_getElem? (i := 145) rfl)) rfl) (rv_al (rv_t4 (List.mem_of_getElem? (i := 146) rfl)) rfl) wi_ReviewForge_Store wcX9_tipOf
theorem wcX9_nameOf : Cond.code yX9_nameOf cX9_nameOf 2 (some .int) ∈ rv_AL := rv_al (rv_t6 (List.mem_of_getElem? (i := 132) rfl)) rfl
theorem gX11_149 : GoodIn rv_AL (wsV RX11 149 RX9 yX9_nameOf (rv_ws yX9_nameOf cX9_nameOf 2 (some .int))) := rv_gV (rv_al (rv_t6 (List.mem_of_getElem? (i := 129) rfl)) rfl) (rv_al (rv_t6 (List.mem_of_getElem? (i := 130) rfl)) rfl) (rv_al (rv_t6 (List.mem_of_getElem? (i := 131) rfl)) rfl) wi_ReviewForge_Store wcX9_nameOf
theorem wcX11_needPerson : Cond.code yX11_needPerson cX11_needPerson 1 none ∈ rv_AL := rv_al (rv_t2 (List.mem_of_getElem? (i := 231) rfl)) rfl
theorem gX11_152 : GoodIn rv_AL (va_wsS RX11 152 yX11_needPerson (rv_ws yX11_needPerson cX11_needPerson 1 none)) := rv_gS (rv_al (rv_t2 (List.mem_of_getElem? (i := 229) rfl)) rfl) (rv_al (rv_t2 (List.mem_of_getElem? (i := 230) rfl)) rfl) wi_ReviewForge wcX11_needPerson
theorem wcJx4a65c_size_8abf5 : Cond.code yJx4a65c_size_8abf5 cJx4a65c_size_8abf5 1 (some .int) ∈ rv_AL := rv_al (rv_t2 (List.mem_of_getElem? (i := 165) rfl)) rfl
theorem gX11_155 : GoodIn rv_AL (wsV RX11 155 RJx4a65c yJx4a65c_size_8abf5 (rv_ws yJx4a65c_size_8abf5 cJx4a65c_size_8abf5 1 (some .int))) := rv_gV (rv_al (rv_t2 (List.mem_of_getElem? (i := 162) rfl)) rfl) (rv_al (rv_t2 (List.mem_of_getElem? (i := 163) rfl)) rfl) (rv_al (rv_t2 (List.mem_of_getElem? (i := 164) rfl)) rfl) wi_java_util_ArrayList wcJx4a65c_size_8abf5
theorem wcX9_isFull : Cond.code yX9_isFull cX9_isFull 1 (some .boolean) ∈ rv_AL := rv_al (rv_t3 (List.mem_of_getElem? (i := 136) rfl)) rfl
theorem gX11_159 : GoodIn rv_AL (wsV RX11 159 RX9 yX9_isFull (rv_ws yX9_isFull cX9_isFull 1 (some .boolean))) := rv_gV (rv_al (rv_t3 (List.mem_of_getElem? (i := 133) rfl)) rfl) (rv_al (rv_t3 (List.mem_of_getElem? (i := 134) rfl)) rfl) (rv_al (rv_t3 (List.mem_of_getElem? (i := 135) rfl)) rfl) wi_ReviewForge_Store wcX9_isFull
theorem wcX9_repositoryOf : Cond.code yX9_repositoryOf cX9_repositoryOf 2 (some .int) ∈ rv_AL := rv_al (rv_t3 (List.mem_of_getElem? (i := 84) rfl)) rfl
theorem gX11_167 : GoodIn rv_AL (wsV RX11 167 RX9 yX9_repositoryOf (rv_ws yX9_repositoryOf cX9_repositoryOf 2 (some .int))) := rv_gV (rv_al (rv_t3 (List.mem_of_getElem? (i := 139) rfl)) rfl) (rv_al (rv_t3 (List.mem_of_getElem? (i := 82) rfl)) rfl) (rv_al (rv_t3 (List.mem_of_getElem? (i := 83) rfl)) rfl) wi_ReviewForge_Store wcX9_repositoryOf
theorem wcX0_init : Cond.code yX0_init cX0_init 4 none ∈ rv_AL := rv_al (rv_t3 (List.mem_of_getElem? (i := 142) rfl)) rfl
theorem wmX11_170 : Cond.methodLink RX11 170 yX0_init ∈ rv_AL := rv_al (rv_t3 (List.mem_of_getElem? (i := 140) rfl)) rfl
theorem wcJx4a65c_add_9ea2d : Cond.code yJx4a65c_add_9ea2d cJx4a65c_add_9ea2d 2 (some .boolean) ∈ rv_AL := rv_al (rv_t3 (List.mem_of_getElem? (i := 203) rfl)) rfl
theorem gX11_172 : GoodIn rv_AL (wsV RX11 172 RJx4a65c yJx4a65c_add_9ea2d (rv_ws yJx4a65c_add_9ea2d cJx4a65c_add_9ea2d 2 (some .boolean))) := rv_gV (rv_al (rv_t3 (List.mem_of_getElem? (i := 200) rfl)) rfl) (rv_al (rv_t3 (List.mem_of_getElem? (i := 201) rfl)) rfl) (rv_al (rv_t3 (List.mem_of_getElem? (i := 202) rfl)) rfl) wi_java_util_ArrayList wcJx4a65c_add_9ea2d
theorem wcX11_addSet : Cond.code yX11_addSet cX11_addSet 8 (some .int) ∈ rv_AL := rv_al (rv_t4 (List.mem_of_getElem? (i := 26) rfl)) rfl
theorem gX11_176 : GoodIn rv_AL (wsV RX11 176 RX11 yX11_addSet (rv_ws yX11_addSet cX11_addSet 8 (some .int))) := rv_gV (rv_al (rv_t4 (List.mem_of_getElem? (i := 23) rfl)) rfl) (rv_al (rv_t4 (List.mem_of_getElem? (i := 25) rfl)) rfl) (rv_sl (q := (yX11_addSet, 12)) (List.mem_append_left _ (List.mem_of_getElem? (i := 8) rfl))) wi_ReviewForge wcX11_addSet
theorem wcX11_needOpenAndSeen : Cond.code yX11_needOpenAndSeen cX11_needOpenAndSeen 2 none ∈ rv_AL := rv_al (rv_t4 (List.mem_of_getElem? (i := 111) rfl)) rfl
theorem gX11_183 : GoodIn rv_AL (va_wsS RX11 183 yX11_needOpenAndSeen (rv_ws yX11_needOpenAndSeen cX11_needOpenAndSeen 2 none)) := rv_gS (rv_al (rv_t4 (List.mem_of_getElem? (i := 109) rfl)) rfl) (rv_al (rv_t4 (List.mem_of_getElem? (i := 110) rfl)) rfl) wi_ReviewForge wcX11_needOpenAndSeen
theorem wcX9_changeOf : Cond.code yX9_changeOf cX9_changeOf 2 (some .int) ∈ rv_AL := rv_al (rv_t4 (List.mem_of_getElem? (i := 121) rfl)) rfl
theorem gX11_192 : GoodIn rv_AL (wsV RX11 192 RX9 yX9_changeOf (rv_ws yX9_changeOf cX9_changeOf 2 (some .int))) := rv_gV (rv_al (rv_t4 (List.mem_of_getElem? (i := 118) rfl)) rfl) (rv_al (rv_t4 (List.mem_of_getElem? (i := 119) rfl)) rfl) (rv_al (rv_t4 (List.mem_of_getElem? (i := 120) rfl)) rfl) wi_ReviewForge_Store wcX9_changeOf
theorem wcX11_isAtOrAbove : Cond.code yX11_isAtOrAbove cX11_isAtOrAbove 5 (some .boolean) ∈ rv_AL := rv_al (rv_t4 (List.mem_of_getElem? (i := 125) rfl)) rfl
theorem gX11_195 : GoodIn rv_AL (wsV RX11 195 RX11 yX11_isAtOrAbove (rv_ws yX11_isAtOrAbove cX11_isAtOrAbove 5 (some .boolean))) := rv_gV (rv_al (rv_t4 (List.mem_of_getElem? (i := 122) rfl)) rfl) (rv_al (rv_t4 (List.mem_of_getElem? (i := 124) rfl)) rfl) (rv_sl (q := (yX11_isAtOrAbove, 12)) (List.mem_append_left _ (List.mem_of_getElem? (i := 15) rfl))) wi_ReviewForge wcX11_isAtOrAbove
theorem wcX11_needRoomForCommit : Cond.code yX11_needRoomForCommit cX11_needRoomForCommit 1 none ∈ rv_AL := rv_al (rv_t4 (List.mem_of_getElem? (i := 130) rfl)) rfl
theorem gX11_201 : GoodIn rv_AL (wsV RX11 201 RX11 yX11_needRoomForCommit (rv_ws yX11_needRoomForCommit cX11_needRoomForCommit 1 none)) := rv_gV (rv_al (rv_t4 (List.mem_of_getElem? (i := 127) rfl)) rfl) (rv_al (rv_t4 (List.mem_of_getElem? (i := 129) rfl)) rfl) (rv_sl (q := (yX11_needRoomForCommit, 12)) (List.mem_append_right _ (List.mem_append_left _ (List.mem_of_getElem? (i := 0) rfl)))) wi_ReviewForge wcX11_needRoomForCommit
theorem wcX9_currentOf : Cond.code yX9_currentOf cX9_currentOf 2 (some .int) ∈ rv_AL := rv_al (rv_t2 (List.mem_of_getElem? (i := 223) rfl)) rfl
theorem gX11_204 : GoodIn rv_AL (wsV RX11 204 RX9 yX9_currentOf (rv_ws yX9_currentOf cX9_currentOf 2 (some .int))) := rv_gV (rv_al (rv_t4 (List.mem_of_getElem? (i := 27) rfl)) rfl) (rv_al (rv_t2 (List.mem_of_getElem? (i := 221) rfl)) rfl) (rv_al (rv_t2 (List.mem_of_getElem? (i := 222) rfl)) rfl) wi_ReviewForge_Store wcX9_currentOf
theorem wcX11_newBaseOf : Cond.code yX11_newBaseOf cX11_newBaseOf 3 (some .int) ∈ rv_AL := rv_al (rv_t4 (List.mem_of_getElem? (i := 139) rfl)) rfl
theorem gX11_207 : GoodIn rv_AL (wsV RX11 207 RX11 yX11_newBaseOf (rv_ws yX11_newBaseOf cX11_newBaseOf 3 (some .int))) := rv_gV (rv_al (rv_t4 (List.mem_of_getElem? (i := 136) rfl)) rfl) (rv_al (rv_t4 (List.mem_of_getElem? (i := 138) rfl)) rfl) (rv_sl (q := (yX11_newBaseOf, 12)) (List.mem_append_right _ (List.mem_append_left _ (List.mem_of_getElem? (i := 1) rfl)))) wi_ReviewForge wcX11_newBaseOf
theorem wcX2_mergeRows : Cond.code yX2_mergeRows cX2_mergeRows 5 (some .boolean) ∈ rv_AL := rv_al (rv_t4 (List.mem_of_getElem? (i := 152) rfl)) rfl
theorem gX11_213 : GoodIn rv_AL (wsV RX11 213 RX2 yX2_mergeRows (rv_ws yX2_mergeRows cX2_mergeRows 5 (some .boolean))) := rv_gV (rv_al (rv_t4 (List.mem_of_getElem? (i := 149) rfl)) rfl) (rv_al (rv_t4 (List.mem_of_getElem? (i := 150) rfl)) rfl) (rv_al (rv_t4 (List.mem_of_getElem? (i := 151) rfl)) rfl) wi_ReviewForge_Comparer wcX2_mergeRows
theorem wcX11_endChange : Cond.code yX11_endChange cX11_endChange 4 none ∈ rv_AL := rv_al (rv_t4 (List.mem_of_getElem? (i := 181) rfl)) rfl
theorem gX11_219 : GoodIn rv_AL (wsV RX11 219 RX11 yX11_endChange (rv_ws yX11_endChange cX11_endChange 4 none)) := rv_gV (rv_al (rv_t4 (List.mem_of_getElem? (i := 178) rfl)) rfl) (rv_al (rv_t4 (List.mem_of_getElem? (i := 180) rfl)) rfl) (rv_sl (q := (yX11_endChange, 12)) (List.mem_append_right _ (List.mem_append_left _ (List.mem_of_getElem? (i := 4) rfl)))) wi_ReviewForge wcX11_endChange
theorem wcJx4a65c_get_915e3 : Cond.code yJx4a65c_get_915e3 cJx4a65c_get_915e3 2 (some (.object "java/lang/Object")) ∈ rv_AL := rv_al (rv_t2 (List.mem_of_getElem? (i := 178) rfl)) rfl
theorem gX11_223 : GoodIn rv_AL (wsV RX11 223 RJx4a65c yJx4a65c_get_915e3 (rv_ws yJx4a65c_get_915e3 cJx4a65c_get_915e3 2 (some (.object "java/lang/Object")))) := rv_gV (rv_al (rv_t2 (List.mem_of_getElem? (i := 175) rfl)) rfl) (rv_al (rv_t2 (List.mem_of_getElem? (i := 176) rfl)) rfl) (rv_al (rv_t2 (List.mem_of_getElem? (i := 177) rfl)) rfl) wi_java_util_ArrayList wcJx4a65c_get_915e3
theorem wcX9_parentNumber : Cond.code yX9_parentNumber cX9_parentNumber 2 (some .int) ∈ rv_AL := rv_al (rv_t2 (List.mem_of_getElem? (i := 214) rfl)) rfl
theorem gX11_230 : GoodIn rv_AL (wsV RX11 230 RX9 yX9_parentNumber (rv_ws yX9_parentNumber cX9_parentNumber 2 (some .int))) := rv_gV (rv_al (rv_t2 (List.mem_of_getElem? (i := 211) rfl)) rfl) (rv_al (rv_t2 (List.mem_of_getElem? (i := 212) rfl)) rfl) (rv_al (rv_t2 (List.mem_of_getElem? (i := 213) rfl)) rfl) wi_ReviewForge_Store wcX9_parentNumber
theorem wcX9_kindAt : Cond.code yX9_kindAt cX9_kindAt 2 (some .int) ∈ rv_AL := rv_al (rv_t3 (List.mem_of_getElem? (i := 24) rfl)) rfl
theorem gX11_261 : GoodIn rv_AL (wsV RX11 261 RX9 yX9_kindAt (rv_ws yX9_kindAt cX9_kindAt 2 (some .int))) := rv_gV (rv_al (rv_t6 (List.mem_of_getElem? (i := 137) rfl)) rfl) (rv_al (rv_t3 (List.mem_of_getElem? (i := 22) rfl)) rfl) (rv_al (rv_t3 (List.mem_of_getElem? (i := 23) rfl)) rfl) wi_ReviewForge_Store wcX9_kindAt
theorem wcX9_isOutdated : Cond.code yX9_isOutdated cX9_isOutdated 3 (some .boolean) ∈ rv_AL := rv_al (rv_t2 (List.mem_of_getElem? (i := 218) rfl)) rfl
theorem gX11_264 : GoodIn rv_AL (wsV RX11 264 RX9 yX9_isOutdated (rv_ws yX9_isOutdated cX9_isOutdated 3 (some .boolean))) := rv_gV (rv_al (rv_t2 (List.mem_of_getElem? (i := 215) rfl)) rfl) (rv_al (rv_t2 (List.mem_of_getElem? (i := 216) rfl)) rfl) (rv_al (rv_t2 (List.mem_of_getElem? (i := 217) rfl)) rfl) wi_ReviewForge_Store wcX9_isOutdated
theorem wcX11_findDifference : Cond.code yX11_findDifference cX11_findDifference 9 (some .int) ∈ rv_AL := rv_al (rv_t6 (List.mem_of_getElem? (i := 73) rfl)) rfl
theorem gX11_268 : GoodIn rv_AL (wsV RX11 268 RX11 yX11_findDifference (rv_ws yX11_findDifference cX11_findDifference 9 (some .int))) := rv_gV (rv_al (rv_t6 (List.mem_of_getElem? (i := 70) rfl)) rfl) (rv_al (rv_t6 (List.mem_of_getElem? (i := 72) rfl)) rfl) (rv_sl (q := (yX11_findDifference, 12)) (List.mem_append_right _ (List.mem_append_right _ (List.mem_of_getElem? (i := 14) rfl)))) wi_ReviewForge wcX11_findDifference
theorem wcX2_tellLeft : Cond.code yX2_tellLeft cX2_tellLeft 3 (some .int) ∈ rv_AL := rv_al (rv_t6 (List.mem_of_getElem? (i := 90) rfl)) rfl
theorem gX11_274 : GoodIn rv_AL (wsV RX11 274 RX2 yX2_tellLeft (rv_ws yX2_tellLeft cX2_tellLeft 3 (some .int))) := rv_gV (rv_al (rv_t6 (List.mem_of_getElem? (i := 87) rfl)) rfl) (rv_al (rv_t6 (List.mem_of_getElem? (i := 88) rfl)) rfl) (rv_al (rv_t6 (List.mem_of_getElem? (i := 89) rfl)) rfl) wi_ReviewForge_Comparer wcX2_tellLeft
theorem wcX11_needLines : Cond.code yX11_needLines cX11_needLines 6 none ∈ rv_AL := rv_al (rv_t6 (List.mem_of_getElem? (i := 21) rfl)) rfl
theorem gX11_279 : GoodIn rv_AL (wsV RX11 279 RX11 yX11_needLines (rv_ws yX11_needLines cX11_needLines 6 none)) := rv_gV (rv_al (rv_t6 (List.mem_of_getElem? (i := 18) rfl)) rfl) (rv_al (rv_t6 (List.mem_of_getElem? (i := 20) rfl)) rfl) (rv_sl (q := (yX11_needLines, 12)) (List.mem_append_right _ (List.mem_append_right _ (List.mem_of_getElem? (i := 13) rfl)))) wi_ReviewForge wcX11_needLines
theorem wcX11_needSeen : Cond.code yX11_needSeen cX11_needSeen 2 none ∈ rv_AL := rv_al (rv_t4 (List.mem_of_getElem? (i := 115) rfl)) rfl
theorem gX11_283 : GoodIn rv_AL (va_wsS RX11 283 yX11_needSeen (rv_ws yX11_needSeen cX11_needSeen 2 none)) := rv_gS (rv_al (rv_t4 (List.mem_of_getElem? (i := 113) rfl)) rfl) (rv_al (rv_t4 (List.mem_of_getElem? (i := 114) rfl)) rfl) wi_ReviewForge wcX11_needSeen
theorem wcX11_needRoomForComment : Cond.code yX11_needRoomForComment cX11_needRoomForComment 1 none ∈ rv_AL := rv_al (rv_t4 (List.mem_of_getElem? (i := 210) rfl)) rfl
theorem gX11_286 : GoodIn rv_AL (wsV RX11 286 RX11 yX11_needRoomForComment (rv_ws yX11_needRoomForComment cX11_needRoomForComment 1 none)) := rv_gV (rv_al (rv_t4 (List.mem_of_getElem? (i := 207) rfl)) rfl) (rv_al (rv_t4 (List.mem_of_getElem? (i := 209) rfl)) rfl) (rv_sl (q := (yX11_needRoomForComment, 12)) (List.mem_append_right _ (List.mem_append_left _ (List.mem_of_getElem? (i := 6) rfl)))) wi_ReviewForge wcX11_needRoomForComment
theorem wcX7_init : Cond.code yX7_init cX7_init 6 none ∈ rv_AL := rv_al (rv_t6 (List.mem_of_getElem? (i := 27) rfl)) rfl
theorem wmX11_293 : Cond.methodLink RX11 293 yX7_init ∈ rv_AL := rv_al (rv_t6 (List.mem_of_getElem? (i := 25) rfl)) rfl
theorem wcX1_init : Cond.code yX1_init cX1_init 5 none ∈ rv_AL := rv_al (rv_t4 (List.mem_of_getElem? (i := 215) rfl)) rfl
theorem wmX11_296 : Cond.methodLink RX11 296 yX1_init ∈ rv_AL := rv_al (rv_t4 (List.mem_of_getElem? (i := 213) rfl)) rfl
theorem wcX11_needComment : Cond.code yX11_needComment cX11_needComment 2 (some (.object "ReviewForge$Comment")) ∈ rv_AL := rv_al (rv_t4 (List.mem_of_getElem? (i := 203) rfl)) rfl
theorem gX11_299 : GoodIn rv_AL (wsV RX11 299 RX11 yX11_needComment (rv_ws yX11_needComment cX11_needComment 2 (some (.object "ReviewForge$Comment")))) := rv_gV (rv_al (rv_t4 (List.mem_of_getElem? (i := 200) rfl)) rfl) (rv_al (rv_t4 (List.mem_of_getElem? (i := 202) rfl)) rfl) (rv_sl (q := (yX11_needComment, 12)) (List.mem_append_right _ (List.mem_append_left _ (List.mem_of_getElem? (i := 5) rfl)))) wi_ReviewForge wcX11_needComment
theorem wcX0_takePart : Cond.code yX0_takePart cX0_takePart 2 none ∈ rv_AL := rv_al (rv_t5 (List.mem_of_getElem? (i := 5) rfl)) rfl
theorem gX11_323 : GoodIn rv_AL (wsV RX11 323 RX0 yX0_takePart (rv_ws yX0_takePart cX0_takePart 2 none)) := rv_gV (rv_al (rv_t5 (List.mem_of_getElem? (i := 2) rfl)) rfl) (rv_al (rv_t5 (List.mem_of_getElem? (i := 3) rfl)) rfl) (rv_al (rv_t5 (List.mem_of_getElem? (i := 4) rfl)) rfl) wi_ReviewForge_Change wcX0_takePart
theorem wcX11_passTurns : Cond.code yX11_passTurns cX11_passTurns 4 none ∈ rv_AL := rv_al (rv_t4 (List.mem_of_getElem? (i := 90) rfl)) rfl
theorem gX11_326 : GoodIn rv_AL (wsV RX11 326 RX11 yX11_passTurns (rv_ws yX11_passTurns cX11_passTurns 4 none)) := rv_gV (rv_al (rv_t4 (List.mem_of_getElem? (i := 87) rfl)) rfl) (rv_al (rv_t4 (List.mem_of_getElem? (i := 89) rfl)) rfl) (rv_sl (q := (yX11_passTurns, 12)) (List.mem_append_left _ (List.mem_of_getElem? (i := 13) rfl))) wi_ReviewForge wcX11_passTurns
theorem wcX11_noteAct : Cond.code yX11_noteAct cX11_noteAct 5 none ∈ rv_AL := rv_al (rv_t4 (List.mem_of_getElem? (i := 103) rfl)) rfl
theorem gX11_330 : GoodIn rv_AL (wsV RX11 330 RX11 yX11_noteAct (rv_ws yX11_noteAct cX11_noteAct 5 none)) := rv_gV (rv_al (rv_t4 (List.mem_of_getElem? (i := 100) rfl)) rfl) (rv_al (rv_t4 (List.mem_of_getElem? (i := 102) rfl)) rfl) (rv_sl (q := (yX11_noteAct, 12)) (List.mem_append_left _ (List.mem_of_getElem? (i := 14) rfl))) wi_ReviewForge wcX11_noteAct
theorem wcX0_commitAt : Cond.code yX0_commitAt cX0_commitAt 2 (some .int) ∈ rv_AL := rv_al (rv_t2 (List.mem_of_getElem? (i := 205) rfl)) rfl
theorem gX11_336 : GoodIn rv_AL (wsV RX11 336 RX0 yX0_commitAt (rv_ws yX0_commitAt cX0_commitAt 2 (some .int))) := rv_gV (rv_al (rv_t2 (List.mem_of_getElem? (i := 202) rfl)) rfl) (rv_al (rv_t2 (List.mem_of_getElem? (i := 203) rfl)) rfl) (rv_al (rv_t2 (List.mem_of_getElem? (i := 204) rfl)) rfl) wi_ReviewForge_Change wcX0_commitAt
theorem wcX2_follow : Cond.code yX2_follow cX2_follow 7 (some .int) ∈ rv_AL := rv_al (rv_t6 (List.mem_of_getElem? (i := 108) rfl)) rfl
theorem gX11_348 : GoodIn rv_AL (wsV RX11 348 RX2 yX2_follow (rv_ws yX2_follow cX2_follow 7 (some .int))) := rv_gV (rv_al (rv_t6 (List.mem_of_getElem? (i := 105) rfl)) rfl) (rv_al (rv_t6 (List.mem_of_getElem? (i := 106) rfl)) rfl) (rv_al (rv_t6 (List.mem_of_getElem? (i := 107) rfl)) rfl) wi_ReviewForge_Comparer wcX2_follow
theorem wcX9_lookFor : Cond.code yX9_lookFor cX9_lookFor 7 (some .int) ∈ rv_AL := rv_al (rv_t6 (List.mem_of_getElem? (i := 113) rfl)) rfl
theorem gX11_352 : GoodIn rv_AL (wsV RX11 352 RX9 yX9_lookFor (rv_ws yX9_lookFor cX9_lookFor 7 (some .int))) := rv_gV (rv_al (rv_t6 (List.mem_of_getElem? (i := 110) rfl)) rfl) (rv_al (rv_t6 (List.mem_of_getElem? (i := 111) rfl)) rfl) (rv_al (rv_t6 (List.mem_of_getElem? (i := 112) rfl)) rfl) wi_ReviewForge_Store wcX9_lookFor
theorem wcX11_countUnresolved : Cond.code yX11_countUnresolved cX11_countUnresolved 4 (some .int) ∈ rv_AL := rv_al (rv_t5 (List.mem_of_getElem? (i := 165) rfl)) rfl
theorem gX11_356 : GoodIn rv_AL (wsV RX11 356 RX11 yX11_countUnresolved (rv_ws yX11_countUnresolved cX11_countUnresolved 4 (some .int))) := rv_gV (rv_al (rv_t5 (List.mem_of_getElem? (i := 162) rfl)) rfl) (rv_al (rv_t5 (List.mem_of_getElem? (i := 164) rfl)) rfl) (rv_sl (q := (yX11_countUnresolved, 12)) (List.mem_append_right _ (List.mem_append_right _ (List.mem_of_getElem? (i := 2) rfl)))) wi_ReviewForge wcX11_countUnresolved
theorem wcX4_init : Cond.code yX4_init cX4_init 4 none ∈ rv_AL := rv_al (rv_t6 (List.mem_of_getElem? (i := 212) rfl)) rfl
theorem wmX11_365 : Cond.methodLink RX11 365 yX4_init ∈ rv_AL := rv_al (rv_t6 (List.mem_of_getElem? (i := 210) rfl)) rfl
theorem wcX11_chooseFixes : Cond.code yX11_chooseFixes cX11_chooseFixes 7 (some .long) ∈ rv_AL := rv_al (rv_t5 (List.mem_of_getElem? (i := 13) rfl)) rfl
theorem gX11_368 : GoodIn rv_AL (wsV RX11 368 RX11 yX11_chooseFixes (rv_ws yX11_chooseFixes cX11_chooseFixes 7 (some .long))) := rv_gV (rv_al (rv_t5 (List.mem_of_getElem? (i := 10) rfl)) rfl) (rv_al (rv_t5 (List.mem_of_getElem? (i := 12) rfl)) rfl) (rv_sl (q := (yX11_chooseFixes, 12)) (List.mem_append_right _ (List.mem_append_left _ (List.mem_of_getElem? (i := 7) rfl)))) wi_ReviewForge wcX11_chooseFixes
theorem wcX11_isSomeTouching : Cond.code yX11_isSomeTouching cX11_isSomeTouching 6 (some .boolean) ∈ rv_AL := rv_al (rv_t5 (List.mem_of_getElem? (i := 19) rfl)) rfl
theorem gX11_372 : GoodIn rv_AL (wsV RX11 372 RX11 yX11_isSomeTouching (rv_ws yX11_isSomeTouching cX11_isSomeTouching 6 (some .boolean))) := rv_gV (rv_al (rv_t5 (List.mem_of_getElem? (i := 16) rfl)) rfl) (rv_al (rv_t5 (List.mem_of_getElem? (i := 18) rfl)) rfl) (rv_sl (q := (yX11_isSomeTouching, 12)) (List.mem_append_right _ (List.mem_append_left _ (List.mem_of_getElem? (i := 8) rfl)))) wi_ReviewForge wcX11_isSomeTouching
theorem wcX11_makeFixedFile : Cond.code yX11_makeFixedFile cX11_makeFixedFile 10 (some .boolean) ∈ rv_AL := rv_al (rv_t5 (List.mem_of_getElem? (i := 28) rfl)) rfl
theorem gX11_378 : GoodIn rv_AL (wsV RX11 378 RX11 yX11_makeFixedFile (rv_ws yX11_makeFixedFile cX11_makeFixedFile 10 (some .boolean))) := rv_gV (rv_al (rv_t5 (List.mem_of_getElem? (i := 25) rfl)) rfl) (rv_al (rv_t5 (List.mem_of_getElem? (i := 27) rfl)) rfl) (rv_sl (q := (yX11_makeFixedFile, 12)) (List.mem_append_right _ (List.mem_append_left _ (List.mem_of_getElem? (i := 9) rfl)))) wi_ReviewForge wcX11_makeFixedFile
theorem wcJ6_bitCount_0f7a4 : Cond.code yJ6_bitCount_0f7a4 cJ6_bitCount_0f7a4 1 (some .int) ∈ rv_AL := rv_al (rv_t5 (List.mem_of_getElem? (i := 38) rfl)) rfl
theorem gX11_384 : GoodIn rv_AL (va_wsS RX11 384 yJ6_bitCount_0f7a4 (rv_ws yJ6_bitCount_0f7a4 cJ6_bitCount_0f7a4 1 (some .int))) := rv_gS (rv_al (rv_t5 (List.mem_of_getElem? (i := 36) rfl)) rfl) (rv_al (rv_t5 (List.mem_of_getElem? (i := 37) rfl)) rfl) wi_java_lang_Integer wcJ6_bitCount_0f7a4
theorem wcX6_setList : Cond.code yX6_setList cX6_setList 5 (some .int) ∈ rv_AL := rv_al (rv_t5 (List.mem_of_getElem? (i := 55) rfl)) rfl
theorem gX11_393 : GoodIn rv_AL (wsV RX11 393 RX6 yX6_setList (rv_ws yX6_setList cX6_setList 5 (some .int))) := rv_gV (rv_al (rv_t5 (List.mem_of_getElem? (i := 52) rfl)) rfl) (rv_al (rv_t5 (List.mem_of_getElem? (i := 53) rfl)) rfl) (rv_al (rv_t5 (List.mem_of_getElem? (i := 54) rfl)) rfl) wi_ReviewForge_OwnerLists wcX6_setList
theorem wcX6_setIncluding : Cond.code yX6_setIncluding cX6_setIncluding 4 (some .boolean) ∈ rv_AL := rv_al (rv_t6 (List.mem_of_getElem? (i := 5) rfl)) rfl
theorem gX11_399 : GoodIn rv_AL (wsV RX11 399 RX6 yX6_setIncluding (rv_ws yX6_setIncluding cX6_setIncluding 4 (some .boolean))) := rv_gV (rv_al (rv_t6 (List.mem_of_getElem? (i := 2) rfl)) rfl) (rv_al (rv_t6 (List.mem_of_getElem? (i := 3) rfl)) rfl) (rv_al (rv_t6 (List.mem_of_getElem? (i := 4) rfl)) rfl) wi_ReviewForge_OwnerLists wcX6_setIncluding
theorem wcX6_ownersOf : Cond.code yX6_ownersOf cX6_ownersOf 7 (some .int) ∈ rv_AL := rv_al (rv_t5 (List.mem_of_getElem? (i := 156) rfl)) rfl
theorem gX11_406 : GoodIn rv_AL (wsV RX11 406 RX6 yX6_ownersOf (rv_ws yX6_ownersOf cX6_ownersOf 7 (some .int))) := rv_gV (rv_al (rv_t5 (List.mem_of_getElem? (i := 153) rfl)) rfl) (rv_al (rv_t5 (List.mem_of_getElem? (i := 154) rfl)) rfl) (rv_al (rv_t5 (List.mem_of_getElem? (i := 155) rfl)) rfl) wi_ReviewForge_OwnerLists wcX6_ownersOf
theorem wcX11_isOwnedBy : Cond.code yX11_isOwnedBy cX11_isOwnedBy 4 (some .boolean) ∈ rv_AL := rv_al (rv_t5 (List.mem_of_getElem? (i := 152) rfl)) rfl
theorem gX11_409 : GoodIn rv_AL (wsV RX11 409 RX11 yX11_isOwnedBy (rv_ws yX11_isOwnedBy cX11_isOwnedBy 4 (some .boolean))) := rv_gV (rv_al (rv_t5 (List.mem_of_getElem? (i := 149) rfl)) rfl) (rv_al (rv_t5 (List.mem_of_getElem? (i := 151) rfl)) rfl) (rv_sl (q := (yX11_isOwnedBy, 12)) (List.mem_append_right _ (List.mem_append_right _ (List.mem_of_getElem? (i := 0) rfl)))) wi_ReviewForge wcX11_isOwnedBy
theorem wcX11_needLabel : Cond.code yX11_needLabel cX11_needLabel 1 none ∈ rv_AL := rv_al (rv_t2 (List.mem_of_getElem? (i := 235) rfl)) rfl
theorem gX11_413 : GoodIn rv_AL (va_wsS RX11 413 yX11_needLabel (rv_ws yX11_needLabel cX11_needLabel 1 none)) := rv_gS (rv_al (rv_t2 (List.mem_of_getElem? (i := 233) rfl)) rfl) (rv_al (rv_t2 (List.mem_of_getElem? (i := 234) rfl)) rfl) wi_ReviewForge wcX11_needLabel
theorem wcX10_castVote : Cond.code yX10_castVote cX10_castVote 5 none ∈ rv_AL := rv_al (rv_t5 (List.mem_of_getElem? (i := 65) rfl)) rfl
theorem gX11_418 : GoodIn rv_AL (wsV RX11 418 RX10 yX10_castVote (rv_ws yX10_castVote cX10_castVote 5 none)) := rv_gV (rv_al (rv_t5 (List.mem_of_getElem? (i := 62) rfl)) rfl) (rv_al (rv_t5 (List.mem_of_getElem? (i := 63) rfl)) rfl) (rv_al (rv_t5 (List.mem_of_getElem? (i := 64) rfl)) rfl) wi_ReviewForge_Votes wcX10_castVote
theorem wcX10_worthOn : Cond.code yX10_worthOn cX10_worthOn 9 (some .int) ∈ rv_AL := rv_al (rv_t3 (List.mem_of_getElem? (i := 15) rfl)) rfl
theorem gX11_421 : GoodIn rv_AL (wsV RX11 421 RX10 yX10_worthOn (rv_ws yX10_worthOn cX10_worthOn 9 (some .int))) := rv_gV (rv_al (rv_t3 (List.mem_of_getElem? (i := 12) rfl)) rfl) (rv_al (rv_t3 (List.mem_of_getElem? (i := 13) rfl)) rfl) (rv_al (rv_t3 (List.mem_of_getElem? (i := 14) rfl)) rfl) wi_ReviewForge_Votes wcX10_worthOn
theorem wcX10_replaceCopied : Cond.code yX10_replaceCopied cX10_replaceCopied 4 (some .int) ∈ rv_AL := rv_al (rv_t5 (List.mem_of_getElem? (i := 76) rfl)) rfl
theorem gX11_429 : GoodIn rv_AL (wsV RX11 429 RX10 yX10_replaceCopied (rv_ws yX10_replaceCopied cX10_replaceCopied 4 (some .int))) := rv_gV (rv_al (rv_t5 (List.mem_of_getElem? (i := 73) rfl)) rfl) (rv_al (rv_t5 (List.mem_of_getElem? (i := 74) rfl)) rfl) (rv_al (rv_t5 (List.mem_of_getElem? (i := 75) rfl)) rfl) wi_ReviewForge_Votes wcX10_replaceCopied
theorem wcX8_tryAdd : Cond.code yX8_tryAdd cX8_tryAdd 5 (some .int) ∈ rv_AL := rv_al (rv_t5 (List.mem_of_getElem? (i := 87) rfl)) rfl
theorem gX11_437 : GoodIn rv_AL (wsV RX11 437 RX8 yX8_tryAdd (rv_ws yX8_tryAdd cX8_tryAdd 5 (some .int))) := rv_gV (rv_al (rv_t5 (List.mem_of_getElem? (i := 84) rfl)) rfl) (rv_al (rv_t5 (List.mem_of_getElem? (i := 85) rfl)) rfl) (rv_al (rv_t5 (List.mem_of_getElem? (i := 86) rfl)) rfl) wi_ReviewForge_Rules wcX8_tryAdd
theorem wcX8_tryDrop : Cond.code yX8_tryDrop cX8_tryDrop 2 (some .int) ∈ rv_AL := rv_al (rv_t5 (List.mem_of_getElem? (i := 107) rfl)) rfl
theorem gX11_442 : GoodIn rv_AL (wsV RX11 442 RX8 yX8_tryDrop (rv_ws yX8_tryDrop cX8_tryDrop 2 (some .int))) := rv_gV (rv_al (rv_t5 (List.mem_of_getElem? (i := 104) rfl)) rfl) (rv_al (rv_t5 (List.mem_of_getElem? (i := 105) rfl)) rfl) (rv_al (rv_t5 (List.mem_of_getElem? (i := 106) rfl)) rfl) wi_ReviewForge_Rules wcX8_tryDrop
theorem wcX11_factsOf : Cond.code yX11_factsOf cX11_factsOf 6 (some .int) ∈ rv_AL := rv_al (rv_t5 (List.mem_of_getElem? (i := 144) rfl)) rfl
theorem gX11_447 : GoodIn rv_AL (wsV RX11 447 RX11 yX11_factsOf (rv_ws yX11_factsOf cX11_factsOf 6 (some .int))) := rv_gV (rv_al (rv_t5 (List.mem_of_getElem? (i := 141) rfl)) rfl) (rv_al (rv_t5 (List.mem_of_getElem? (i := 143) rfl)) rfl) (rv_sl (q := (yX11_factsOf, 12)) (List.mem_append_right _ (List.mem_append_left _ (List.mem_of_getElem? (i := 15) rfl)))) wi_ReviewForge wcX11_factsOf
theorem wcX8_follow : Cond.code yX8_follow cX8_follow 7 (some .int) ∈ rv_AL := rv_al (rv_t5 (List.mem_of_getElem? (i := 177) rfl)) rfl
theorem gX11_450 : GoodIn rv_AL (wsV RX11 450 RX8 yX8_follow (rv_ws yX8_follow cX8_follow 7 (some .int))) := rv_gV (rv_al (rv_t5 (List.mem_of_getElem? (i := 174) rfl)) rfl) (rv_al (rv_t5 (List.mem_of_getElem? (i := 175) rfl)) rfl) (rv_al (rv_t5 (List.mem_of_getElem? (i := 176) rfl)) rfl) wi_ReviewForge_Rules wcX8_follow
theorem wcX8_lackingFacts : Cond.code yX8_lackingFacts cX8_lackingFacts 5 (some .int) ∈ rv_AL := rv_al (rv_t6 (List.mem_of_getElem? (i := 165) rfl)) rfl
theorem gX11_452 : GoodIn rv_AL (wsV RX11 452 RX8 yX8_lackingFacts (rv_ws yX8_lackingFacts cX8_lackingFacts 5 (some .int))) := rv_gV (rv_al (rv_t6 (List.mem_of_getElem? (i := 162) rfl)) rfl) (rv_al (rv_t6 (List.mem_of_getElem? (i := 163) rfl)) rfl) (rv_al (rv_t6 (List.mem_of_getElem? (i := 164) rfl)) rfl) wi_ReviewForge_Rules wcX8_lackingFacts
theorem wcX5_replaceWay : Cond.code yX5_replaceWay cX5_replaceWay 4 (some .int) ∈ rv_AL := rv_al (rv_t5 (List.mem_of_getElem? (i := 117) rfl)) rfl
theorem gX11_457 : GoodIn rv_AL (wsV RX11 457 RX5 yX5_replaceWay (rv_ws yX5_replaceWay cX5_replaceWay 4 (some .int))) := rv_gV (rv_al (rv_t5 (List.mem_of_getElem? (i := 114) rfl)) rfl) (rv_al (rv_t5 (List.mem_of_getElem? (i := 115) rfl)) rfl) (rv_al (rv_t5 (List.mem_of_getElem? (i := 116) rfl)) rfl) wi_ReviewForge_Landing wcX5_replaceWay
theorem wcX5_groupOf : Cond.code yX5_groupOf cX5_groupOf 7 (some .int) ∈ rv_AL := rv_al (rv_t5 (List.mem_of_getElem? (i := 127) rfl)) rfl
theorem gX11_460 : GoodIn rv_AL (wsV RX11 460 RX5 yX5_groupOf (rv_ws yX5_groupOf cX5_groupOf 7 (some .int))) := rv_gV (rv_al (rv_t5 (List.mem_of_getElem? (i := 124) rfl)) rfl) (rv_al (rv_t5 (List.mem_of_getElem? (i := 125) rfl)) rfl) (rv_al (rv_t5 (List.mem_of_getElem? (i := 126) rfl)) rfl) wi_ReviewForge_Landing wcX5_groupOf
theorem wcX11_isIn : Cond.code yX11_isIn cX11_isIn 2 (some .boolean) ∈ rv_AL := rv_al (rv_t3 (List.mem_of_getElem? (i := 27) rfl)) rfl
theorem gX11_463 : GoodIn rv_AL (va_wsS RX11 463 yX11_isIn (rv_ws yX11_isIn cX11_isIn 2 (some .boolean))) := rv_gS (rv_al (rv_t4 (List.mem_of_getElem? (i := 104) rfl)) rfl) (rv_al (rv_t3 (List.mem_of_getElem? (i := 26) rfl)) rfl) wi_ReviewForge wcX11_isIn
theorem wcX11_canLandIn : Cond.code yX11_canLandIn cX11_canLandIn 3 (some .boolean) ∈ rv_AL := rv_al (rv_t5 (List.mem_of_getElem? (i := 140) rfl)) rfl
theorem gX11_466 : GoodIn rv_AL (wsV RX11 466 RX11 yX11_canLandIn (rv_ws yX11_canLandIn cX11_canLandIn 3 (some .boolean))) := rv_gV (rv_al (rv_t5 (List.mem_of_getElem? (i := 137) rfl)) rfl) (rv_al (rv_t5 (List.mem_of_getElem? (i := 139) rfl)) rfl) (rv_sl (q := (yX11_canLandIn, 12)) (List.mem_append_right _ (List.mem_append_left _ (List.mem_of_getElem? (i := 14) rfl)))) wi_ReviewForge wcX11_canLandIn
theorem wcX5_tryAll : Cond.code yX5_tryAll cX5_tryAll 8 (some .boolean) ∈ rv_AL := rv_al (rv_t5 (List.mem_of_getElem? (i := 185) rfl)) rfl
theorem gX11_470 : GoodIn rv_AL (wsV RX11 470 RX5 yX5_tryAll (rv_ws yX5_tryAll cX5_tryAll 8 (some .boolean))) := rv_gV (rv_al (rv_t5 (List.mem_of_getElem? (i := 182) rfl)) rfl) (rv_al (rv_t5 (List.mem_of_getElem? (i := 183) rfl)) rfl) (rv_al (rv_t5 (List.mem_of_getElem? (i := 184) rfl)) rfl) wi_ReviewForge_Landing wcX5_tryAll
theorem wcX0_giveTurns : Cond.code yX0_giveTurns cX0_giveTurns 2 none ∈ rv_AL := rv_al (rv_t4 (List.mem_of_getElem? (i := 94) rfl)) rfl
theorem gX11_478 : GoodIn rv_AL (wsV RX11 478 RX0 yX0_giveTurns (rv_ws yX0_giveTurns cX0_giveTurns 2 none)) := rv_gV (rv_al (rv_t4 (List.mem_of_getElem? (i := 91) rfl)) rfl) (rv_al (rv_t4 (List.mem_of_getElem? (i := 92) rfl)) rfl) (rv_al (rv_t4 (List.mem_of_getElem? (i := 93) rfl)) rfl) wi_ReviewForge_Change wcX0_giveTurns
theorem wcX9_setDeskBase : Cond.code yX9_setDeskBase cX9_setDeskBase 2 (some .int) ∈ rv_AL := rv_al (rv_t3 (List.mem_of_getElem? (i := 80) rfl)) rfl
theorem gX11_507 : GoodIn rv_AL (wsV RX11 507 RX9 yX9_setDeskBase (rv_ws yX9_setDeskBase cX9_setDeskBase 2 (some .int))) := rv_gV (rv_al (rv_t3 (List.mem_of_getElem? (i := 77) rfl)) rfl) (rv_al (rv_t3 (List.mem_of_getElem? (i := 78) rfl)) rfl) (rv_al (rv_t3 (List.mem_of_getElem? (i := 79) rfl)) rfl) wi_ReviewForge_Store wcX9_setDeskBase
theorem wcX9_addCommit : Cond.code yX9_addCommit cX9_addCommit 5 (some .int) ∈ rv_AL := rv_al (rv_t4 (List.mem_of_getElem? (i := 31) rfl)) rfl
theorem gX11_510 : GoodIn rv_AL (wsV RX11 510 RX9 yX9_addCommit (rv_ws yX9_addCommit cX9_addCommit 5 (some .int))) := rv_gV (rv_al (rv_t4 (List.mem_of_getElem? (i := 28) rfl)) rfl) (rv_al (rv_t4 (List.mem_of_getElem? (i := 29) rfl)) rfl) (rv_al (rv_t4 (List.mem_of_getElem? (i := 30) rfl)) rfl) wi_ReviewForge_Store wcX9_addCommit
theorem wcX2_kindBetween : Cond.code yX2_kindBetween cX2_kindBetween 6 (some .int) ∈ rv_AL := rv_al (rv_t4 (List.mem_of_getElem? (i := 37) rfl)) rfl
theorem gX11_513 : GoodIn rv_AL (wsV RX11 513 RX2 yX2_kindBetween (rv_ws yX2_kindBetween cX2_kindBetween 6 (some .int))) := rv_gV (rv_al (rv_t4 (List.mem_of_getElem? (i := 34) rfl)) rfl) (rv_al (rv_t4 (List.mem_of_getElem? (i := 35) rfl)) rfl) (rv_al (rv_t4 (List.mem_of_getElem? (i := 36) rfl)) rfl) wi_ReviewForge_Comparer wcX2_kindBetween
theorem wcX9_makeSet : Cond.code yX9_makeSet cX9_makeSet 5 none ∈ rv_AL := rv_al (rv_t4 (List.mem_of_getElem? (i := 82) rfl)) rfl
theorem gX11_516 : GoodIn rv_AL (wsV RX11 516 RX9 yX9_makeSet (rv_ws yX9_makeSet cX9_makeSet 5 none)) := rv_gV (rv_al (rv_t4 (List.mem_of_getElem? (i := 79) rfl)) rfl) (rv_al (rv_t4 (List.mem_of_getElem? (i := 80) rfl)) rfl) (rv_al (rv_t4 (List.mem_of_getElem? (i := 81) rfl)) rfl) wi_ReviewForge_Store wcX9_makeSet
theorem wcX0_addCommit : Cond.code yX0_addCommit cX0_addCommit 2 none ∈ rv_AL := rv_al (rv_t4 (List.mem_of_getElem? (i := 86) rfl)) rfl
theorem gX11_519 : GoodIn rv_AL (wsV RX11 519 RX0 yX0_addCommit (rv_ws yX0_addCommit cX0_addCommit 2 none)) := rv_gV (rv_al (rv_t4 (List.mem_of_getElem? (i := 83) rfl)) rfl) (rv_al (rv_t4 (List.mem_of_getElem? (i := 84) rfl)) rfl) (rv_al (rv_t4 (List.mem_of_getElem? (i := 85) rfl)) rfl) wi_ReviewForge_Change wcX0_addCommit
theorem wcX11_findParent : Cond.code yX11_findParent cX11_findParent 3 (some (.object "ReviewForge$Change")) ∈ rv_AL := rv_al (rv_t4 (List.mem_of_getElem? (i := 143) rfl)) rfl
theorem gX11_521 : GoodIn rv_AL (wsV RX11 521 RX11 yX11_findParent (rv_ws yX11_findParent cX11_findParent 3 (some (.object "ReviewForge$Change")))) := rv_gV (rv_al (rv_t4 (List.mem_of_getElem? (i := 140) rfl)) rfl) (rv_al (rv_t4 (List.mem_of_getElem? (i := 142) rfl)) rfl) (rv_sl (q := (yX11_findParent, 12)) (List.mem_append_right _ (List.mem_append_left _ (List.mem_of_getElem? (i := 2) rfl)))) wi_ReviewForge wcX11_findParent
theorem wcX10_peopleWith : Cond.code yX10_peopleWith cX10_peopleWith 6 (some .int) ∈ rv_AL := rv_al (rv_t4 (List.mem_of_getElem? (i := 98) rfl)) rfl
theorem gX11_528 : GoodIn rv_AL (wsV RX11 528 RX10 yX10_peopleWith (rv_ws yX10_peopleWith cX10_peopleWith 6 (some .int))) := rv_gV (rv_al (rv_t4 (List.mem_of_getElem? (i := 95) rfl)) rfl) (rv_al (rv_t4 (List.mem_of_getElem? (i := 96) rfl)) rfl) (rv_al (rv_t4 (List.mem_of_getElem? (i := 97) rfl)) rfl) wi_ReviewForge_Votes wcX10_peopleWith
theorem wcX2_findLeft : Cond.code yX2_findLeft cX2_findLeft 7 (some .int) ∈ rv_AL := rv_al (rv_t6 (List.mem_of_getElem? (i := 77) rfl)) rfl
theorem gX11_532 : GoodIn rv_AL (wsV RX11 532 RX2 yX2_findLeft (rv_ws yX2_findLeft cX2_findLeft 7 (some .int))) := rv_gV (rv_al (rv_t6 (List.mem_of_getElem? (i := 74) rfl)) rfl) (rv_al (rv_t6 (List.mem_of_getElem? (i := 75) rfl)) rfl) (rv_al (rv_t6 (List.mem_of_getElem? (i := 76) rfl)) rfl) wi_ReviewForge_Comparer wcX2_findLeft
theorem wcX11_isThreadUnresolved : Cond.code yX11_isThreadUnresolved cX11_isThreadUnresolved 5 (some .boolean) ∈ rv_AL := rv_al (rv_t5 (List.mem_of_getElem? (i := 169) rfl)) rfl
theorem gX11_536 : GoodIn rv_AL (wsV RX11 536 RX11 yX11_isThreadUnresolved (rv_ws yX11_isThreadUnresolved cX11_isThreadUnresolved 5 (some .boolean))) := rv_gV (rv_al (rv_t5 (List.mem_of_getElem? (i := 166) rfl)) rfl) (rv_al (rv_t5 (List.mem_of_getElem? (i := 168) rfl)) rfl) (rv_sl (q := (yX11_isThreadUnresolved, 12)) (List.mem_append_right _ (List.mem_append_right _ (List.mem_of_getElem? (i := 3) rfl)))) wi_ReviewForge wcX11_isThreadUnresolved
theorem wcX7_touches : Cond.code yX7_touches cX7_touches 2 (some .boolean) ∈ rv_AL := rv_al (rv_t5 (List.mem_of_getElem? (i := 23) rfl)) rfl
theorem gX11_548 : GoodIn rv_AL (wsV RX11 548 RX7 yX7_touches (rv_ws yX7_touches cX7_touches 2 (some .boolean))) := rv_gV (rv_al (rv_t5 (List.mem_of_getElem? (i := 20) rfl)) rfl) (rv_al (rv_t5 (List.mem_of_getElem? (i := 21) rfl)) rfl) (rv_al (rv_t5 (List.mem_of_getElem? (i := 22) rfl)) rfl) wi_ReviewForge_Place wcX7_touches
theorem wcX9_startFile : Cond.code yX9_startFile cX9_startFile 2 none ∈ rv_AL := rv_al (rv_t4 (List.mem_of_getElem? (i := 164) rfl)) rfl
theorem gX11_552 : GoodIn rv_AL (wsV RX11 552 RX9 yX9_startFile (rv_ws yX9_startFile cX9_startFile 2 none)) := rv_gV (rv_al (rv_t5 (List.mem_of_getElem? (i := 29) rfl)) rfl) (rv_al (rv_t4 (List.mem_of_getElem? (i := 162) rfl)) rfl) (rv_al (rv_t4 (List.mem_of_getElem? (i := 163) rfl)) rfl) wi_ReviewForge_Store wcX9_startFile
theorem wcX11_fixAt : Cond.code yX11_fixAt cX11_fixAt 7 (some .int) ∈ rv_AL := rv_al (rv_t5 (List.mem_of_getElem? (i := 33) rfl)) rfl
theorem gX11_555 : GoodIn rv_AL (wsV RX11 555 RX11 yX11_fixAt (rv_ws yX11_fixAt cX11_fixAt 7 (some .int))) := rv_gV (rv_al (rv_t5 (List.mem_of_getElem? (i := 30) rfl)) rfl) (rv_al (rv_t5 (List.mem_of_getElem? (i := 32) rfl)) rfl) (rv_sl (q := (yX11_fixAt, 12)) (List.mem_append_right _ (List.mem_append_left _ (List.mem_of_getElem? (i := 10) rfl)))) wi_ReviewForge wcX11_fixAt
theorem wcX9_addLine : Cond.code yX9_addLine cX9_addLine 4 (some .boolean) ∈ rv_AL := rv_al (rv_t4 (List.mem_of_getElem? (i := 172) rfl)) rfl
theorem gX11_562 : GoodIn rv_AL (wsV RX11 562 RX9 yX9_addLine (rv_ws yX9_addLine cX9_addLine 4 (some .boolean))) := rv_gV (rv_al (rv_t5 (List.mem_of_getElem? (i := 34) rfl)) rfl) (rv_al (rv_t4 (List.mem_of_getElem? (i := 170) rfl)) rfl) (rv_al (rv_t4 (List.mem_of_getElem? (i := 171) rfl)) rfl) wi_ReviewForge_Store wcX9_addLine
theorem wcX9_isSameFile : Cond.code yX9_isSameFile cX9_isSameFile 7 (some .boolean) ∈ rv_AL := rv_al (rv_t4 (List.mem_of_getElem? (i := 42) rfl)) rfl
theorem gX11_565 : GoodIn rv_AL (wsV RX11 565 RX9 yX9_isSameFile (rv_ws yX9_isSameFile cX9_isSameFile 7 (some .boolean))) := rv_gV (rv_al (rv_t5 (List.mem_of_getElem? (i := 161) rfl)) rfl) (rv_al (rv_t4 (List.mem_of_getElem? (i := 40) rfl)) rfl) (rv_al (rv_t4 (List.mem_of_getElem? (i := 41) rfl)) rfl) wi_ReviewForge_Store wcX9_isSameFile
theorem wcX11_isChanged : Cond.code yX11_isChanged cX11_isChanged 4 (some .boolean) ∈ rv_AL := rv_al (rv_t5 (List.mem_of_getElem? (i := 160) rfl)) rfl
theorem gX11_568 : GoodIn rv_AL (wsV RX11 568 RX11 yX11_isChanged (rv_ws yX11_isChanged cX11_isChanged 4 (some .boolean))) := rv_gV (rv_al (rv_t5 (List.mem_of_getElem? (i := 157) rfl)) rfl) (rv_al (rv_t5 (List.mem_of_getElem? (i := 159) rfl)) rfl) (rv_sl (q := (yX11_isChanged, 12)) (List.mem_append_right _ (List.mem_append_right _ (List.mem_of_getElem? (i := 1) rfl)))) wi_ReviewForge wcX11_isChanged
theorem wcX9_uploaderOf : Cond.code yX9_uploaderOf cX9_uploaderOf 2 (some .int) ∈ rv_AL := rv_al (rv_t5 (List.mem_of_getElem? (i := 148) rfl)) rfl
theorem gX11_571 : GoodIn rv_AL (wsV RX11 571 RX9 yX9_uploaderOf (rv_ws yX9_uploaderOf cX9_uploaderOf 2 (some .int))) := rv_gV (rv_al (rv_t5 (List.mem_of_getElem? (i := 145) rfl)) rfl) (rv_al (rv_t5 (List.mem_of_getElem? (i := 146) rfl)) rfl) (rv_al (rv_t5 (List.mem_of_getElem? (i := 147) rfl)) rfl) wi_ReviewForge_Store wcX9_uploaderOf
theorem wcX11_isParentSettled : Cond.code yX11_isParentSettled cX11_isParentSettled 4 (some .boolean) ∈ rv_AL := rv_al (rv_t5 (List.mem_of_getElem? (i := 173) rfl)) rfl
theorem gX11_574 : GoodIn rv_AL (wsV RX11 574 RX11 yX11_isParentSettled (rv_ws yX11_isParentSettled cX11_isParentSettled 4 (some .boolean))) := rv_gV (rv_al (rv_t5 (List.mem_of_getElem? (i := 170) rfl)) rfl) (rv_al (rv_t5 (List.mem_of_getElem? (i := 172) rfl)) rfl) (rv_sl (q := (yX11_isParentSettled, 12)) (List.mem_append_right _ (List.mem_append_right _ (List.mem_of_getElem? (i := 4) rfl)))) wi_ReviewForge wcX11_isParentSettled
theorem wcX9_read : Cond.code yX9_read cX9_read 2 (some .int) ∈ rv_AL := rv_al (rv_t2 (List.mem_of_getElem? (i := 157) rfl)) rfl
theorem gX0_37 : GoodIn rv_AL (va_wsS RX0 37 yX9_read (rv_ws yX9_read cX9_read 2 (some .int))) := rv_gS (rv_al (rv_t2 (List.mem_of_getElem? (i := 206) rfl)) rfl) (rv_al (rv_t2 (List.mem_of_getElem? (i := 156) rfl)) rfl) wi_ReviewForge_Store wcX9_read
theorem wcX3_init : Cond.code yX3_init cX3_init 1 none ∈ rv_AL := rv_al (rv_t1 (List.mem_of_getElem? (i := 95) rfl)) rfl
theorem wcX3_compare : Cond.code yX3_compare cX3_compare 6 none ∈ rv_AL := rv_al (rv_t4 (List.mem_of_getElem? (i := 50) rfl)) rfl
theorem gX2_29 : GoodIn rv_AL (wsV RX2 29 RX3 yX3_compare (rv_ws yX3_compare cX3_compare 6 none)) := rv_gV (rv_al (rv_t4 (List.mem_of_getElem? (i := 47) rfl)) rfl) (rv_al (rv_t4 (List.mem_of_getElem? (i := 48) rfl)) rfl) (rv_al (rv_t4 (List.mem_of_getElem? (i := 49) rfl)) rfl) wi_ReviewForge_Comparison wcX3_compare
theorem wcX3_isInConflict : Cond.code yX3_isInConflict cX3_isInConflict 6 (some .boolean) ∈ rv_AL := rv_al (rv_t4 (List.mem_of_getElem? (i := 156) rfl)) rfl
theorem gX2_33 : GoodIn rv_AL (wsV RX2 33 RX3 yX3_isInConflict (rv_ws yX3_isInConflict cX3_isInConflict 6 (some .boolean))) := rv_gV (rv_al (rv_t4 (List.mem_of_getElem? (i := 153) rfl)) rfl) (rv_al (rv_t4 (List.mem_of_getElem? (i := 154) rfl)) rfl) (rv_al (rv_t4 (List.mem_of_getElem? (i := 155) rfl)) rfl) wi_ReviewForge_Comparison wcX3_isInConflict
theorem wcX2_makeMergedFile : Cond.code yX2_makeMergedFile cX2_makeMergedFile 7 (some .boolean) ∈ rv_AL := rv_al (rv_t4 (List.mem_of_getElem? (i := 160) rfl)) rfl
theorem gX2_37 : GoodIn rv_AL (wsV RX2 37 RX2 yX2_makeMergedFile (rv_ws yX2_makeMergedFile cX2_makeMergedFile 7 (some .boolean))) := rv_gV (rv_al (rv_t4 (List.mem_of_getElem? (i := 157) rfl)) rfl) (rv_al (rv_t4 (List.mem_of_getElem? (i := 159) rfl)) rfl) (rv_sl (q := (yX2_makeMergedFile, 4)) (List.mem_append_right _ (List.mem_append_left _ (List.mem_of_getElem? (i := 3) rfl)))) wi_ReviewForge_Comparer wcX2_makeMergedFile
theorem gX2_41 : GoodIn rv_AL (wsV RX2 41 RX9 yX9_startFile (rv_ws yX9_startFile cX9_startFile 2 none)) := rv_gV (rv_al (rv_t4 (List.mem_of_getElem? (i := 161) rfl)) rfl) (rv_al (rv_t4 (List.mem_of_getElem? (i := 162) rfl)) rfl) (rv_al (rv_t4 (List.mem_of_getElem? (i := 163) rfl)) rfl) wi_ReviewForge_Store wcX9_startFile
theorem wcX3_hunkFrom : Cond.code yX3_hunkFrom cX3_hunkFrom 3 (some .int) ∈ rv_AL := rv_al (rv_t4 (List.mem_of_getElem? (i := 168) rfl)) rfl
theorem gX2_51 : GoodIn rv_AL (wsV RX2 51 RX3 yX3_hunkFrom (rv_ws yX3_hunkFrom cX3_hunkFrom 3 (some .int))) := rv_gV (rv_al (rv_t4 (List.mem_of_getElem? (i := 165) rfl)) rfl) (rv_al (rv_t4 (List.mem_of_getElem? (i := 166) rfl)) rfl) (rv_al (rv_t4 (List.mem_of_getElem? (i := 167) rfl)) rfl) wi_ReviewForge_Comparison wcX3_hunkFrom
theorem gX2_67 : GoodIn rv_AL (wsV RX2 67 RX9 yX9_addLine (rv_ws yX9_addLine cX9_addLine 4 (some .boolean))) := rv_gV (rv_al (rv_t4 (List.mem_of_getElem? (i := 169) rfl)) rfl) (rv_al (rv_t4 (List.mem_of_getElem? (i := 170) rfl)) rfl) (rv_al (rv_t4 (List.mem_of_getElem? (i := 171) rfl)) rfl) wi_ReviewForge_Store wcX9_addLine
theorem gX2_74 : GoodIn rv_AL (wsV RX2 74 RX9 yX9_baseOf (rv_ws yX9_baseOf cX9_baseOf 2 (some .int))) := rv_gV (rv_al (rv_t4 (List.mem_of_getElem? (i := 38) rfl)) rfl) (rv_al (rv_t2 (List.mem_of_getElem? (i := 152) rfl)) rfl) (rv_al (rv_t2 (List.mem_of_getElem? (i := 153) rfl)) rfl) wi_ReviewForge_Store wcX9_baseOf
theorem gX2_77 : GoodIn rv_AL (wsV RX2 77 RX9 yX9_isSameFile (rv_ws yX9_isSameFile cX9_isSameFile 7 (some .boolean))) := rv_gV (rv_al (rv_t4 (List.mem_of_getElem? (i := 39) rfl)) rfl) (rv_al (rv_t4 (List.mem_of_getElem? (i := 40) rfl)) rfl) (rv_al (rv_t4 (List.mem_of_getElem? (i := 41) rfl)) rfl) wi_ReviewForge_Store wcX9_isSameFile
theorem wcX2_isChangedAlike : Cond.code yX2_isChangedAlike cX2_isChangedAlike 4 (some .boolean) ∈ rv_AL := rv_al (rv_t4 (List.mem_of_getElem? (i := 46) rfl)) rfl
theorem gX2_81 : GoodIn rv_AL (wsV RX2 81 RX2 yX2_isChangedAlike (rv_ws yX2_isChangedAlike cX2_isChangedAlike 4 (some .boolean))) := rv_gV (rv_al (rv_t4 (List.mem_of_getElem? (i := 43) rfl)) rfl) (rv_al (rv_t4 (List.mem_of_getElem? (i := 45) rfl)) rfl) (rv_sl (q := (yX2_isChangedAlike, 4)) (List.mem_append_left _ (List.mem_of_getElem? (i := 9) rfl))) wi_ReviewForge_Comparer wcX2_isChangedAlike
theorem wcX3_isAlikeOneByOne : Cond.code yX3_isAlikeOneByOne cX3_isAlikeOneByOne 4 (some .boolean) ∈ rv_AL := rv_al (rv_t4 (List.mem_of_getElem? (i := 74) rfl)) rfl
theorem gX2_84 : GoodIn rv_AL (wsV RX2 84 RX3 yX3_isAlikeOneByOne (rv_ws yX3_isAlikeOneByOne cX3_isAlikeOneByOne 4 (some .boolean))) := rv_gV (rv_al (rv_t4 (List.mem_of_getElem? (i := 71) rfl)) rfl) (rv_al (rv_t4 (List.mem_of_getElem? (i := 72) rfl)) rfl) (rv_al (rv_t4 (List.mem_of_getElem? (i := 73) rfl)) rfl) wi_ReviewForge_Comparison wcX3_isAlikeOneByOne
theorem wcX3_hasAlike : Cond.code yX3_hasAlike cX3_hasAlike 4 (some .boolean) ∈ rv_AL := rv_al (rv_t6 (List.mem_of_getElem? (i := 81) rfl)) rfl
theorem gX2_90 : GoodIn rv_AL (wsV RX2 90 RX3 yX3_hasAlike (rv_ws yX3_hasAlike cX3_hasAlike 4 (some .boolean))) := rv_gV (rv_al (rv_t6 (List.mem_of_getElem? (i := 78) rfl)) rfl) (rv_al (rv_t6 (List.mem_of_getElem? (i := 79) rfl)) rfl) (rv_al (rv_t6 (List.mem_of_getElem? (i := 80) rfl)) rfl) wi_ReviewForge_Comparison wcX3_hasAlike
theorem gX2_94 : GoodIn rv_AL (va_wsS RX2 94 yX9_read (rv_ws yX9_read cX9_read 2 (some .int))) := rv_gS (rv_al (rv_t6 (List.mem_of_getElem? (i := 91) rfl)) rfl) (rv_al (rv_t2 (List.mem_of_getElem? (i := 156) rfl)) rfl) wi_ReviewForge_Store wcX9_read
theorem wsgX2_102 : Cond.static yX11_isIn ∈ rv_AL := rv_al (rv_t3 (List.mem_of_getElem? (i := 26) rfl)) rfl
theorem gX2_102 : GoodIn rv_AL (rv_ws yX11_isIn cX11_isIn 2 (some .boolean)) := rv_gN wcX11_isIn
theorem wcX3_readLines : Cond.code yX3_readLines cX3_readLines 8 (some .int) ∈ rv_AL := rv_al (rv_t4 (List.mem_of_getElem? (i := 53) rfl)) rfl
theorem gX3_36 : GoodIn rv_AL (va_wsS RX3 36 yX3_readLines (rv_ws yX3_readLines cX3_readLines 8 (some .int))) := rv_gS (rv_al (rv_t4 (List.mem_of_getElem? (i := 51) rfl)) rfl) (rv_al (rv_t4 (List.mem_of_getElem? (i := 52) rfl)) rfl) wi_ReviewForge_Comparison wcX3_readLines
theorem wcX3_countPairs : Cond.code yX3_countPairs cX3_countPairs 4 none ∈ rv_AL := rv_al (rv_t4 (List.mem_of_getElem? (i := 60) rfl)) rfl
theorem gX3_47 : GoodIn rv_AL (wsV RX3 47 RX3 yX3_countPairs (rv_ws yX3_countPairs cX3_countPairs 4 none)) := rv_gV (rv_al (rv_t4 (List.mem_of_getElem? (i := 57) rfl)) rfl) (rv_al (rv_t4 (List.mem_of_getElem? (i := 59) rfl)) rfl) (rv_sl (q := (yX3_countPairs, 11)) (List.mem_append_left _ (List.mem_of_getElem? (i := 10) rfl))) wi_ReviewForge_Comparison wcX3_countPairs
theorem wcX3_pairLines : Cond.code yX3_pairLines cX3_pairLines 4 none ∈ rv_AL := rv_al (rv_t4 (List.mem_of_getElem? (i := 65) rfl)) rfl
theorem gX3_50 : GoodIn rv_AL (wsV RX3 50 RX3 yX3_pairLines (rv_ws yX3_pairLines cX3_pairLines 4 none)) := rv_gV (rv_al (rv_t4 (List.mem_of_getElem? (i := 62) rfl)) rfl) (rv_al (rv_t4 (List.mem_of_getElem? (i := 64) rfl)) rfl) (rv_sl (q := (yX3_pairLines, 11)) (List.mem_append_left _ (List.mem_of_getElem? (i := 11) rfl))) wi_ReviewForge_Comparison wcX3_pairLines
theorem wcX3_gatherHunks : Cond.code yX3_gatherHunks cX3_gatherHunks 5 none ∈ rv_AL := rv_al (rv_t4 (List.mem_of_getElem? (i := 70) rfl)) rfl
theorem gX3_53 : GoodIn rv_AL (wsV RX3 53 RX3 yX3_gatherHunks (rv_ws yX3_gatherHunks cX3_gatherHunks 5 none)) := rv_gV (rv_al (rv_t4 (List.mem_of_getElem? (i := 67) rfl)) rfl) (rv_al (rv_t4 (List.mem_of_getElem? (i := 69) rfl)) rfl) (rv_sl (q := (yX3_gatherHunks, 11)) (List.mem_append_left _ (List.mem_of_getElem? (i := 12) rfl))) wi_ReviewForge_Comparison wcX3_gatherHunks
theorem gX3_56 : GoodIn rv_AL (wsV RX3 56 RX9 yX9_sizeOf (rv_ws yX9_sizeOf cX9_sizeOf 4 (some .int))) := rv_gV (rv_al (rv_t4 (List.mem_of_getElem? (i := 54) rfl)) rfl) (rv_al (rv_t3 (List.mem_of_getElem? (i := 60) rfl)) rfl) (rv_al (rv_t3 (List.mem_of_getElem? (i := 61) rfl)) rfl) wi_ReviewForge_Store wcX9_sizeOf
theorem gX3_67 : GoodIn rv_AL (wsV RX3 67 RX9 yX9_lineAt (rv_ws yX9_lineAt cX9_lineAt 6 (some .int))) := rv_gV (rv_al (rv_t4 (List.mem_of_getElem? (i := 56) rfl)) rfl) (rv_al (rv_t3 (List.mem_of_getElem? (i := 70) rfl)) rfl) (rv_al (rv_t3 (List.mem_of_getElem? (i := 71) rfl)) rfl) wi_ReviewForge_Store wcX9_lineAt
theorem wcJ7_fill_53178 : Cond.code yJ7_fill_53178 cJ7_fill_53178 4 none ∈ rv_AL := rv_al (rv_t1 (List.mem_of_getElem? (i := 45) rfl)) rfl
theorem gX3_74 : GoodIn rv_AL (va_wsS RX3 74 yJ7_fill_53178 (rv_ws yJ7_fill_53178 cJ7_fill_53178 4 none)) := rv_gS (rv_al (rv_t4 (List.mem_of_getElem? (i := 66) rfl)) rfl) (rv_al (rv_t1 (List.mem_of_getElem? (i := 44) rfl)) rfl) wi_java_util_Arrays wcJ7_fill_53178
theorem wcX3_isAlike : Cond.code yX3_isAlike cX3_isAlike 6 (some .boolean) ∈ rv_AL := rv_al (rv_t4 (List.mem_of_getElem? (i := 78) rfl)) rfl
theorem gX3_83 : GoodIn rv_AL (wsV RX3 83 RX3 yX3_isAlike (rv_ws yX3_isAlike cX3_isAlike 6 (some .boolean))) := rv_gV (rv_al (rv_t4 (List.mem_of_getElem? (i := 75) rfl)) rfl) (rv_al (rv_t4 (List.mem_of_getElem? (i := 76) rfl)) rfl) (rv_al (rv_t4 (List.mem_of_getElem? (i := 77) rfl)) rfl) wi_ReviewForge_Comparison wcX3_isAlike
theorem gX5_30 : GoodIn rv_AL (va_wsS RX5 30 yX9_read (rv_ws yX9_read cX9_read 2 (some .int))) := rv_gS (rv_al (rv_t5 (List.mem_of_getElem? (i := 118) rfl)) rfl) (rv_al (rv_t2 (List.mem_of_getElem? (i := 156) rfl)) rfl) wi_ReviewForge_Store wcX9_read
theorem wcX9_write : Cond.code yX9_write cX9_write 3 none ∈ rv_AL := rv_al (rv_t3 (List.mem_of_getElem? (i := 65) rfl)) rfl
theorem gX5_36 : GoodIn rv_AL (va_wsS RX5 36 yX9_write (rv_ws yX9_write cX9_write 3 none)) := rv_gS (rv_al (rv_t5 (List.mem_of_getElem? (i := 119) rfl)) rfl) (rv_al (rv_t3 (List.mem_of_getElem? (i := 64) rfl)) rfl) wi_ReviewForge_Store wcX9_write
theorem gX5_40 : GoodIn rv_AL (wsV RX5 40 RJx4a65c yJx4a65c_size_8abf5 (rv_ws yJx4a65c_size_8abf5 cJx4a65c_size_8abf5 1 (some .int))) := rv_gV (rv_al (rv_t5 (List.mem_of_getElem? (i := 128) rfl)) rfl) (rv_al (rv_t2 (List.mem_of_getElem? (i := 163) rfl)) rfl) (rv_al (rv_t2 (List.mem_of_getElem? (i := 164) rfl)) rfl) wi_java_util_ArrayList wcJx4a65c_size_8abf5
theorem wsgX5_46 : Cond.static yX11_isIn ∈ rv_AL := rv_al (rv_t3 (List.mem_of_getElem? (i := 26) rfl)) rfl
theorem gX5_46 : GoodIn rv_AL (rv_ws yX11_isIn cX11_isIn 2 (some .boolean)) := rv_gN wcX11_isIn
theorem gX5_50 : GoodIn rv_AL (wsV RX5 50 RJx4a65c yJx4a65c_get_915e3 (rv_ws yJx4a65c_get_915e3 cJx4a65c_get_915e3 2 (some (.object "java/lang/Object")))) := rv_gV (rv_al (rv_t5 (List.mem_of_getElem? (i := 130) rfl)) rfl) (rv_al (rv_t2 (List.mem_of_getElem? (i := 176) rfl)) rfl) (rv_al (rv_t2 (List.mem_of_getElem? (i := 177) rfl)) rfl) wi_java_util_ArrayList wcJx4a65c_get_915e3
theorem wcX5_drawnBy : Cond.code yX5_drawnBy cX5_drawnBy 7 (some .int) ∈ rv_AL := rv_al (rv_t5 (List.mem_of_getElem? (i := 135) rfl)) rfl
theorem gX5_56 : GoodIn rv_AL (wsV RX5 56 RX5 yX5_drawnBy (rv_ws yX5_drawnBy cX5_drawnBy 7 (some .int))) := rv_gV (rv_al (rv_t5 (List.mem_of_getElem? (i := 132) rfl)) rfl) (rv_al (rv_t5 (List.mem_of_getElem? (i := 134) rfl)) rfl) (rv_sl (q := (yX5_drawnBy, 6)) (List.mem_append_right _ (List.mem_append_left _ (List.mem_of_getElem? (i := 13) rfl)))) wi_ReviewForge_Landing wcX5_drawnBy
theorem gX5_64 : GoodIn rv_AL (wsV RX5 64 RX9 yX9_parentNumber (rv_ws yX9_parentNumber cX9_parentNumber 2 (some .int))) := rv_gV (rv_al (rv_t5 (List.mem_of_getElem? (i := 136) rfl)) rfl) (rv_al (rv_t2 (List.mem_of_getElem? (i := 212) rfl)) rfl) (rv_al (rv_t2 (List.mem_of_getElem? (i := 213) rfl)) rfl) wi_ReviewForge_Store wcX9_parentNumber
theorem gX5_80 : GoodIn rv_AL (va_wsS RX5 80 yJ7_fill_53178 (rv_ws yJ7_fill_53178 cJ7_fill_53178 4 none)) := rv_gS (rv_al (rv_t5 (List.mem_of_getElem? (i := 186) rfl)) rfl) (rv_al (rv_t1 (List.mem_of_getElem? (i := 44) rfl)) rfl) wi_java_util_Arrays wcJ7_fill_53178
theorem wcX5_findSquashed : Cond.code yX5_findSquashed cX5_findSquashed 6 (some .int) ∈ rv_AL := rv_al (rv_t5 (List.mem_of_getElem? (i := 190) rfl)) rfl
theorem gX5_86 : GoodIn rv_AL (wsV RX5 86 RX5 yX5_findSquashed (rv_ws yX5_findSquashed cX5_findSquashed 6 (some .int))) := rv_gV (rv_al (rv_t5 (List.mem_of_getElem? (i := 187) rfl)) rfl) (rv_al (rv_t5 (List.mem_of_getElem? (i := 189) rfl)) rfl) (rv_sl (q := (yX5_findSquashed, 6)) (List.mem_append_right _ (List.mem_append_right _ (List.mem_of_getElem? (i := 6) rfl)))) wi_ReviewForge_Landing wcX5_findSquashed
theorem wcX5_nextOf : Cond.code yX5_nextOf cX5_nextOf 4 (some .int) ∈ rv_AL := rv_al (rv_t5 (List.mem_of_getElem? (i := 194) rfl)) rfl
theorem gX5_92 : GoodIn rv_AL (wsV RX5 92 RX5 yX5_nextOf (rv_ws yX5_nextOf cX5_nextOf 4 (some .int))) := rv_gV (rv_al (rv_t5 (List.mem_of_getElem? (i := 191) rfl)) rfl) (rv_al (rv_t5 (List.mem_of_getElem? (i := 193) rfl)) rfl) (rv_sl (q := (yX5_nextOf, 6)) (List.mem_append_right _ (List.mem_append_right _ (List.mem_of_getElem? (i := 7) rfl)))) wi_ReviewForge_Landing wcX5_nextOf
theorem wcX5_tryOne : Cond.code yX5_tryOne cX5_tryOne 6 (some .boolean) ∈ rv_AL := rv_al (rv_t5 (List.mem_of_getElem? (i := 198) rfl)) rfl
theorem gX5_95 : GoodIn rv_AL (wsV RX5 95 RX5 yX5_tryOne (rv_ws yX5_tryOne cX5_tryOne 6 (some .boolean))) := rv_gV (rv_al (rv_t5 (List.mem_of_getElem? (i := 195) rfl)) rfl) (rv_al (rv_t5 (List.mem_of_getElem? (i := 197) rfl)) rfl) (rv_sl (q := (yX5_tryOne, 6)) (List.mem_append_right _ (List.mem_append_right _ (List.mem_of_getElem? (i := 8) rfl)))) wi_ReviewForge_Landing wcX5_tryOne
theorem wcX5_nameCommits : Cond.code yX5_nameCommits cX5_nameCommits 4 none ∈ rv_AL := rv_al (rv_t5 (List.mem_of_getElem? (i := 221) rfl)) rfl
theorem gX5_99 : GoodIn rv_AL (wsV RX5 99 RX5 yX5_nameCommits (rv_ws yX5_nameCommits cX5_nameCommits 4 none)) := rv_gV (rv_al (rv_t5 (List.mem_of_getElem? (i := 218) rfl)) rfl) (rv_al (rv_t5 (List.mem_of_getElem? (i := 220) rfl)) rfl) (rv_sl (q := (yX5_nameCommits, 6)) (List.mem_append_right _ (List.mem_append_right _ (List.mem_of_getElem? (i := 12) rfl)))) wi_ReviewForge_Landing wcX5_nameCommits
theorem gX5_106 : GoodIn rv_AL (wsV RX5 106 RX9 yX9_currentOf (rv_ws yX9_currentOf cX9_currentOf 2 (some .int))) := rv_gV (rv_al (rv_t5 (List.mem_of_getElem? (i := 199) rfl)) rfl) (rv_al (rv_t2 (List.mem_of_getElem? (i := 221) rfl)) rfl) (rv_al (rv_t2 (List.mem_of_getElem? (i := 222) rfl)) rfl) wi_ReviewForge_Store wcX9_currentOf
theorem gX5_109 : GoodIn rv_AL (wsV RX5 109 RX9 yX9_repositoryOf (rv_ws yX9_repositoryOf cX9_repositoryOf 2 (some .int))) := rv_gV (rv_al (rv_t5 (List.mem_of_getElem? (i := 200) rfl)) rfl) (rv_al (rv_t3 (List.mem_of_getElem? (i := 82) rfl)) rfl) (rv_al (rv_t3 (List.mem_of_getElem? (i := 83) rfl)) rfl) wi_ReviewForge_Store wcX9_repositoryOf
theorem gX5_112 : GoodIn rv_AL (wsV RX5 112 RX9 yX9_tipOf (rv_ws yX9_tipOf cX9_tipOf 2 (some .int))) := rv_gV (rv_al (rv_t5 (List.mem_of_getElem? (i := 201) rfl)) rfl) (rv_al (rv_t4 (List.mem_of_getElem? (i := 145) rfl)) rfl) (rv_al (rv_t4 (List.mem_of_getElem? (i := 146) rfl)) rfl) wi_ReviewForge_Store wcX9_tipOf
theorem gX5_115 : GoodIn rv_AL (wsV RX5 115 RX9 yX9_baseOf (rv_ws yX9_baseOf cX9_baseOf 2 (some .int))) := rv_gV (rv_al (rv_t5 (List.mem_of_getElem? (i := 202) rfl)) rfl) (rv_al (rv_t2 (List.mem_of_getElem? (i := 152) rfl)) rfl) (rv_al (rv_t2 (List.mem_of_getElem? (i := 153) rfl)) rfl) wi_ReviewForge_Store wcX9_baseOf
theorem gX5_118 : GoodIn rv_AL (wsV RX5 118 RX9 yX9_isFull (rv_ws yX9_isFull cX9_isFull 1 (some .boolean))) := rv_gV (rv_al (rv_t5 (List.mem_of_getElem? (i := 203) rfl)) rfl) (rv_al (rv_t3 (List.mem_of_getElem? (i := 134) rfl)) rfl) (rv_al (rv_t3 (List.mem_of_getElem? (i := 135) rfl)) rfl) wi_ReviewForge_Store wcX9_isFull
theorem wcX5_mergeBaseOf : Cond.code yX5_mergeBaseOf cX5_mergeBaseOf 5 (some .int) ∈ rv_AL := rv_al (rv_t5 (List.mem_of_getElem? (i := 207) rfl)) rfl
theorem gX5_122 : GoodIn rv_AL (wsV RX5 122 RX5 yX5_mergeBaseOf (rv_ws yX5_mergeBaseOf cX5_mergeBaseOf 5 (some .int))) := rv_gV (rv_al (rv_t5 (List.mem_of_getElem? (i := 204) rfl)) rfl) (rv_al (rv_t5 (List.mem_of_getElem? (i := 206) rfl)) rfl) (rv_sl (q := (yX5_mergeBaseOf, 6)) (List.mem_append_right _ (List.mem_append_right _ (List.mem_of_getElem? (i := 9) rfl)))) wi_ReviewForge_Landing wcX5_mergeBaseOf
theorem gX5_125 : GoodIn rv_AL (wsV RX5 125 RX2 yX2_mergeRows (rv_ws yX2_mergeRows cX2_mergeRows 5 (some .boolean))) := rv_gV (rv_al (rv_t5 (List.mem_of_getElem? (i := 212) rfl)) rfl) (rv_al (rv_t4 (List.mem_of_getElem? (i := 150) rfl)) rfl) (rv_al (rv_t4 (List.mem_of_getElem? (i := 151) rfl)) rfl) wi_ReviewForge_Comparer wcX2_mergeRows
theorem gX5_131 : GoodIn rv_AL (wsV RX5 131 RX9 yX9_addCommit (rv_ws yX9_addCommit cX9_addCommit 5 (some .int))) := rv_gV (rv_al (rv_t5 (List.mem_of_getElem? (i := 213) rfl)) rfl) (rv_al (rv_t4 (List.mem_of_getElem? (i := 29) rfl)) rfl) (rv_al (rv_t4 (List.mem_of_getElem? (i := 30) rfl)) rfl) wi_ReviewForge_Store wcX9_addCommit
theorem wcX5_standFor : Cond.code yX5_standFor cX5_standFor 5 none ∈ rv_AL := rv_al (rv_t5 (List.mem_of_getElem? (i := 217) rfl)) rfl
theorem gX5_135 : GoodIn rv_AL (wsV RX5 135 RX5 yX5_standFor (rv_ws yX5_standFor cX5_standFor 5 none)) := rv_gV (rv_al (rv_t5 (List.mem_of_getElem? (i := 214) rfl)) rfl) (rv_al (rv_t5 (List.mem_of_getElem? (i := 216) rfl)) rfl) (rv_sl (q := (yX5_standFor, 6)) (List.mem_append_right _ (List.mem_append_right _ (List.mem_of_getElem? (i := 11) rfl)))) wi_ReviewForge_Landing wcX5_standFor
theorem wcX5_squashedParentOf : Cond.code yX5_squashedParentOf cX5_squashedParentOf 3 (some .int) ∈ rv_AL := rv_al (rv_t5 (List.mem_of_getElem? (i := 211) rfl)) rfl
theorem gX5_139 : GoodIn rv_AL (wsV RX5 139 RX5 yX5_squashedParentOf (rv_ws yX5_squashedParentOf cX5_squashedParentOf 3 (some .int))) := rv_gV (rv_al (rv_t5 (List.mem_of_getElem? (i := 208) rfl)) rfl) (rv_al (rv_t5 (List.mem_of_getElem? (i := 210) rfl)) rfl) (rv_sl (q := (yX5_squashedParentOf, 6)) (List.mem_append_right _ (List.mem_append_right _ (List.mem_of_getElem? (i := 10) rfl)))) wi_ReviewForge_Landing wcX5_squashedParentOf
theorem gX6_22 : GoodIn rv_AL (va_wsS RX6 22 yX9_read (rv_ws yX9_read cX9_read 2 (some .int))) := rv_gS (rv_al (rv_t5 (List.mem_of_getElem? (i := 56) rfl)) rfl) (rv_al (rv_t2 (List.mem_of_getElem? (i := 156) rfl)) rfl) wi_ReviewForge_Store wcX9_read
theorem wcX8_findLevels : Cond.code yX8_findLevels cX8_findLevels 5 (some .boolean) ∈ rv_AL := rv_al (rv_t5 (List.mem_of_getElem? (i := 91) rfl)) rfl
theorem gX8_32 : GoodIn rv_AL (wsV RX8 32 RX8 yX8_findLevels (rv_ws yX8_findLevels cX8_findLevels 5 (some .boolean))) := rv_gV (rv_al (rv_t5 (List.mem_of_getElem? (i := 88) rfl)) rfl) (rv_al (rv_t5 (List.mem_of_getElem? (i := 90) rfl)) rfl) (rv_sl (q := (yX8_findLevels, 7)) (List.mem_append_right _ (List.mem_append_left _ (List.mem_of_getElem? (i := 11) rfl)))) wi_ReviewForge_Rules wcX8_findLevels
theorem gX8_36 : GoodIn rv_AL (va_wsS RX8 36 yJ7_fill_53178 (rv_ws yJ7_fill_53178 cJ7_fill_53178 4 none)) := rv_gS (rv_al (rv_t5 (List.mem_of_getElem? (i := 92) rfl)) rfl) (rv_al (rv_t1 (List.mem_of_getElem? (i := 44) rfl)) rfl) wi_java_util_Arrays wcJ7_fill_53178
theorem wcX8_levelNeeded : Cond.code yX8_levelNeeded cX8_levelNeeded 4 (some .int) ∈ rv_AL := rv_al (rv_t5 (List.mem_of_getElem? (i := 96) rfl)) rfl
theorem gX8_42 : GoodIn rv_AL (wsV RX8 42 RX8 yX8_levelNeeded (rv_ws yX8_levelNeeded cX8_levelNeeded 4 (some .int))) := rv_gV (rv_al (rv_t5 (List.mem_of_getElem? (i := 93) rfl)) rfl) (rv_al (rv_t5 (List.mem_of_getElem? (i := 95) rfl)) rfl) (rv_sl (q := (yX8_levelNeeded, 7)) (List.mem_append_right _ (List.mem_append_left _ (List.mem_of_getElem? (i := 12) rfl)))) wi_ReviewForge_Rules wcX8_levelNeeded
theorem wsgX8_55 : Cond.static yX11_isIn ∈ rv_AL := rv_al (rv_t3 (List.mem_of_getElem? (i := 26) rfl)) rfl
theorem gX8_55 : GoodIn rv_AL (rv_ws yX11_isIn cX11_isIn 2 (some .boolean)) := rv_gN wcX11_isIn
theorem wcX8_followOnce : Cond.code yX8_followOnce cX8_followOnce 6 (some .int) ∈ rv_AL := rv_al (rv_t5 (List.mem_of_getElem? (i := 181) rfl)) rfl
theorem gX8_59 : GoodIn rv_AL (wsV RX8 59 RX8 yX8_followOnce (rv_ws yX8_followOnce cX8_followOnce 6 (some .int))) := rv_gV (rv_al (rv_t5 (List.mem_of_getElem? (i := 178) rfl)) rfl) (rv_al (rv_t5 (List.mem_of_getElem? (i := 180) rfl)) rfl) (rv_sl (q := (yX8_followOnce, 7)) (List.mem_append_right _ (List.mem_append_right _ (List.mem_of_getElem? (i := 5) rfl)))) wi_ReviewForge_Rules wcX8_followOnce
theorem gX8_62 : GoodIn rv_AL (va_wsS RX8 62 yJ6_bitCount_0f7a4 (rv_ws yJ6_bitCount_0f7a4 cJ6_bitCount_0f7a4 1 (some .int))) := rv_gS (rv_al (rv_t6 (List.mem_of_getElem? (i := 166) rfl)) rfl) (rv_al (rv_t5 (List.mem_of_getElem? (i := 37) rfl)) rfl) wi_java_lang_Integer wcJ6_bitCount_0f7a4
theorem gX8_67 : GoodIn rv_AL (wsV RX8 67 RX8 yX8_follow (rv_ws yX8_follow cX8_follow 7 (some .int))) := rv_gV (rv_al (rv_t6 (List.mem_of_getElem? (i := 167) rfl)) rfl) (rv_al (rv_t5 (List.mem_of_getElem? (i := 175) rfl)) rfl) (rv_al (rv_t5 (List.mem_of_getElem? (i := 176) rfl)) rfl) wi_ReviewForge_Rules wcX8_follow
theorem gX9_42 : GoodIn rv_AL (va_wsS RX9 42 yJ7_fill_53178 (rv_ws yJ7_fill_53178 cJ7_fill_53178 4 none)) := rv_gS (rv_al (rv_t1 (List.mem_of_getElem? (i := 43) rfl)) rfl) (rv_al (rv_t1 (List.mem_of_getElem? (i := 44) rfl)) rfl) wi_java_util_Arrays wcJ7_fill_53178
theorem gX9_52 : GoodIn rv_AL (va_wsS RX9 52 yX9_read (rv_ws yX9_read cX9_read 2 (some .int))) := rv_gS (rv_al (rv_t2 (List.mem_of_getElem? (i := 155) rfl)) rfl) (rv_al (rv_t2 (List.mem_of_getElem? (i := 156) rfl)) rfl) wi_ReviewForge_Store wcX9_read
theorem gX9_56 : GoodIn rv_AL (wsV RX9 56 RX9 yX9_parentNumber (rv_ws yX9_parentNumber cX9_parentNumber 2 (some .int))) := rv_gV (rv_al (rv_t2 (List.mem_of_getElem? (i := 219) rfl)) rfl) (rv_al (rv_t2 (List.mem_of_getElem? (i := 212) rfl)) rfl) (rv_al (rv_t2 (List.mem_of_getElem? (i := 213) rfl)) rfl) wi_ReviewForge_Store wcX9_parentNumber
theorem gX9_60 : GoodIn rv_AL (wsV RX9 60 RX9 yX9_currentOf (rv_ws yX9_currentOf cX9_currentOf 2 (some .int))) := rv_gV (rv_al (rv_t2 (List.mem_of_getElem? (i := 220) rfl)) rfl) (rv_al (rv_t2 (List.mem_of_getElem? (i := 221) rfl)) rfl) (rv_al (rv_t2 (List.mem_of_getElem? (i := 222) rfl)) rfl) wi_ReviewForge_Store wcX9_currentOf
theorem gX9_63 : GoodIn rv_AL (wsV RX9 63 RX9 yX9_baseOf (rv_ws yX9_baseOf cX9_baseOf 2 (some .int))) := rv_gV (rv_al (rv_t2 (List.mem_of_getElem? (i := 224) rfl)) rfl) (rv_al (rv_t2 (List.mem_of_getElem? (i := 152) rfl)) rfl) (rv_al (rv_t2 (List.mem_of_getElem? (i := 153) rfl)) rfl) wi_ReviewForge_Store wcX9_baseOf
theorem gX9_66 : GoodIn rv_AL (wsV RX9 66 RX9 yX9_sizeOf (rv_ws yX9_sizeOf cX9_sizeOf 4 (some .int))) := rv_gV (rv_al (rv_t3 (List.mem_of_getElem? (i := 59) rfl)) rfl) (rv_al (rv_t3 (List.mem_of_getElem? (i := 60) rfl)) rfl) (rv_al (rv_t3 (List.mem_of_getElem? (i := 61) rfl)) rfl) wi_ReviewForge_Store wcX9_sizeOf
theorem gX9_70 : GoodIn rv_AL (va_wsS RX9 70 yX9_write (rv_ws yX9_write cX9_write 3 none)) := rv_gS (rv_al (rv_t3 (List.mem_of_getElem? (i := 63) rfl)) rfl) (rv_al (rv_t3 (List.mem_of_getElem? (i := 64) rfl)) rfl) wi_ReviewForge_Store wcX9_write
theorem wcX9_startOf : Cond.code yX9_startOf cX9_startOf 2 (some .int) ∈ rv_AL := rv_al (rv_t3 (List.mem_of_getElem? (i := 68) rfl)) rfl
theorem gX9_74 : GoodIn rv_AL (va_wsS RX9 74 yX9_startOf (rv_ws yX9_startOf cX9_startOf 2 (some .int))) := rv_gS (rv_al (rv_t3 (List.mem_of_getElem? (i := 66) rfl)) rfl) (rv_al (rv_t3 (List.mem_of_getElem? (i := 67) rfl)) rfl) wi_ReviewForge_Store wcX9_startOf
theorem gX9_77 : GoodIn rv_AL (wsV RX9 77 RX9 yX9_lineAt (rv_ws yX9_lineAt cX9_lineAt 6 (some .int))) := rv_gV (rv_al (rv_t3 (List.mem_of_getElem? (i := 69) rfl)) rfl) (rv_al (rv_t3 (List.mem_of_getElem? (i := 70) rfl)) rfl) (rv_al (rv_t3 (List.mem_of_getElem? (i := 71) rfl)) rfl) wi_ReviewForge_Store wcX9_lineAt
theorem gX9_81 : GoodIn rv_AL (wsV RX9 81 RX9 yX9_repositoryOf (rv_ws yX9_repositoryOf cX9_repositoryOf 2 (some .int))) := rv_gV (rv_al (rv_t3 (List.mem_of_getElem? (i := 81) rfl)) rfl) (rv_al (rv_t3 (List.mem_of_getElem? (i := 82) rfl)) rfl) (rv_al (rv_t3 (List.mem_of_getElem? (i := 83) rfl)) rfl) wi_ReviewForge_Store wcX9_repositoryOf
theorem gX9_84 : GoodIn rv_AL (wsV RX9 84 RX9 yX9_isFull (rv_ws yX9_isFull cX9_isFull 1 (some .boolean))) := rv_gV (rv_al (rv_t4 (List.mem_of_getElem? (i := 32) rfl)) rfl) (rv_al (rv_t3 (List.mem_of_getElem? (i := 134) rfl)) rfl) (rv_al (rv_t3 (List.mem_of_getElem? (i := 135) rfl)) rfl) wi_ReviewForge_Store wcX9_isFull
theorem gX9_88 : GoodIn rv_AL (wsV RX9 88 RX9 yX9_copyFiles (rv_ws yX9_copyFiles cX9_copyFiles 6 none)) := rv_gV (rv_al (rv_t4 (List.mem_of_getElem? (i := 33) rfl)) rfl) (rv_al (rv_t3 (List.mem_of_getElem? (i := 56) rfl)) rfl) (rv_al (rv_t3 (List.mem_of_getElem? (i := 57) rfl)) rfl) wi_ReviewForge_Store wcX9_copyFiles
theorem wcX9_isAgainAt : Cond.code yX9_isAgainAt cX9_isAgainAt 6 (some .boolean) ∈ rv_AL := rv_al (rv_t6 (List.mem_of_getElem? (i := 117) rfl)) rfl
theorem gX9_100 : GoodIn rv_AL (wsV RX9 100 RX9 yX9_isAgainAt (rv_ws yX9_isAgainAt cX9_isAgainAt 6 (some .boolean))) := rv_gV (rv_al (rv_t6 (List.mem_of_getElem? (i := 114) rfl)) rfl) (rv_al (rv_t6 (List.mem_of_getElem? (i := 116) rfl)) rfl) (rv_sl (q := (yX9_isAgainAt, 11)) (List.mem_append_right _ (List.mem_append_right _ (List.mem_of_getElem? (i := 15) rfl)))) wi_ReviewForge_Store wcX9_isAgainAt
theorem gX10_22 : GoodIn rv_AL (va_wsS RX10 22 yJ7_fill_53178 (rv_ws yJ7_fill_53178 cJ7_fill_53178 4 none)) := rv_gS (rv_al (rv_t1 (List.mem_of_getElem? (i := 159) rfl)) rfl) (rv_al (rv_t1 (List.mem_of_getElem? (i := 44) rfl)) rfl) wi_java_util_Arrays wcJ7_fill_53178
theorem wcX10_indexOf : Cond.code yX10_indexOf cX10_indexOf 3 (some .int) ∈ rv_AL := rv_al (rv_t3 (List.mem_of_getElem? (i := 19) rfl)) rfl
theorem gX10_28 : GoodIn rv_AL (va_wsS RX10 28 yX10_indexOf (rv_ws yX10_indexOf cX10_indexOf 3 (some .int))) := rv_gS (rv_al (rv_t3 (List.mem_of_getElem? (i := 17) rfl)) rfl) (rv_al (rv_t3 (List.mem_of_getElem? (i := 18) rfl)) rfl) wi_ReviewForge_Votes wcX10_indexOf
theorem gX10_32 : GoodIn rv_AL (va_wsS RX10 32 yX9_write (rv_ws yX9_write cX9_write 3 none)) := rv_gS (rv_al (rv_t5 (List.mem_of_getElem? (i := 66) rfl)) rfl) (rv_al (rv_t3 (List.mem_of_getElem? (i := 64) rfl)) rfl) wi_ReviewForge_Store wcX9_write
theorem gX10_38 : GoodIn rv_AL (va_wsS RX10 38 yX9_read (rv_ws yX9_read cX9_read 2 (some .int))) := rv_gS (rv_al (rv_t3 (List.mem_of_getElem? (i := 20) rfl)) rfl) (rv_al (rv_t2 (List.mem_of_getElem? (i := 156) rfl)) rfl) wi_ReviewForge_Store wcX9_read
theorem gX10_42 : GoodIn rv_AL (wsV RX10 42 RX0 yX0_commitAt (rv_ws yX0_commitAt cX0_commitAt 2 (some .int))) := rv_gV (rv_al (rv_t3 (List.mem_of_getElem? (i := 16) rfl)) rfl) (rv_al (rv_t2 (List.mem_of_getElem? (i := 203) rfl)) rfl) (rv_al (rv_t2 (List.mem_of_getElem? (i := 204) rfl)) rfl) wi_ReviewForge_Change wcX0_commitAt
theorem gX10_48 : GoodIn rv_AL (wsV RX10 48 RX9 yX9_kindAt (rv_ws yX9_kindAt cX9_kindAt 2 (some .int))) := rv_gV (rv_al (rv_t3 (List.mem_of_getElem? (i := 21) rfl)) rfl) (rv_al (rv_t3 (List.mem_of_getElem? (i := 22) rfl)) rfl) (rv_al (rv_t3 (List.mem_of_getElem? (i := 23) rfl)) rfl) wi_ReviewForge_Store wcX9_kindAt
theorem wsgX10_51 : Cond.static yX11_isIn ∈ rv_AL := rv_al (rv_t3 (List.mem_of_getElem? (i := 26) rfl)) rfl
theorem gX10_51 : GoodIn rv_AL (rv_ws yX11_isIn cX11_isIn 2 (some .boolean)) := rv_gN wcX11_isIn
theorem gX10_59 : GoodIn rv_AL (wsV RX10 59 RX10 yX10_worthOn (rv_ws yX10_worthOn cX10_worthOn 9 (some .int))) := rv_gV (rv_al (rv_t4 (List.mem_of_getElem? (i := 99) rfl)) rfl) (rv_al (rv_t3 (List.mem_of_getElem? (i := 13) rfl)) rfl) (rv_al (rv_t3 (List.mem_of_getElem? (i := 14) rfl)) rfl) wi_ReviewForge_Votes wcX10_worthOn
