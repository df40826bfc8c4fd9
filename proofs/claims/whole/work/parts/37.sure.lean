/-! the strong test by 2, 7 and 61 is sure up to 1,000,000,007 -/
def gE (e : Nat × Nat × List Nat) : Prop := okE e = true ∧ e.1 ∣ QP ∧ (leafE e = true ∨ e ∈ tb_0)
theorem tbc_0 {q : Nat} (hq : nPr q) (h1 : 3 ≤ q) (h2 : q < 1009) (h3 : q % 2 = 1) : q = 7 ∨ q = 61 ∨ ∃ e, e ∈ tb_0 ∧ gE e ∧ e.1 = q := by
  have e : 3 + 2 * ((q - 3) / 2) = q := by omega
  have := wkP_ok 503 3 tb_0 tb_0_w ((q - 3) / 2) (by omega) (by rw [e]; exact hq)
  rw [e] at this
  rcases this with r | r | ⟨x, hx, r⟩
  · exact Or.inl r
  · exact Or.inr (Or.inl r)
  · exact Or.inr (Or.inr ⟨x, hx, ⟨List.all_eq_true.mp tb_0_ok _ hx, Nat.dvd_of_mod_eq_zero (Nat.eq_of_beq_eq_true (List.all_eq_true.mp tb_0_q _ hx)), Or.inr hx⟩, r⟩)
theorem tbc_1 {q : Nat} (hq : nPr q) (h1 : 1009 ≤ q) (h2 : q < 1061) (h3 : q % 2 = 1) : q = 7 ∨ q = 61 ∨ ∃ e, e ∈ tb_1 ∧ gE e ∧ e.1 = q := by
  have e : 1009 + 2 * ((q - 1009) / 2) = q := by omega
  have := wkP_ok 26 1009 tb_1 tb_1_w ((q - 1009) / 2) (by omega) (by rw [e]; exact hq)
  rw [e] at this
  rcases this with r | r | ⟨x, hx, r⟩
  · exact Or.inl r
  · exact Or.inr (Or.inl r)
  · exact Or.inr (Or.inr ⟨x, hx, ⟨List.all_eq_true.mp tb_1_ok _ hx, Nat.dvd_of_mod_eq_zero (Nat.eq_of_beq_eq_true (List.all_eq_true.mp tb_1_q _ hx)), Or.inl (List.all_eq_true.mp lf_1 _ hx)⟩, r⟩)
theorem tbc_2 {q : Nat} (hq : nPr q) (h1 : 1061 ≤ q) (h2 : q < 1129) (h3 : q % 2 = 1) : q = 7 ∨ q = 61 ∨ ∃ e, e ∈ tb_2 ∧ gE e ∧ e.1 = q := by
  have e : 1061 + 2 * ((q - 1061) / 2) = q := by omega
  have := wkP_ok 34 1061 tb_2 tb_2_w ((q - 1061) / 2) (by omega) (by rw [e]; exact hq)
  rw [e] at this
  rcases this with r | r | ⟨x, hx, r⟩
  · exact Or.inl r
  · exact Or.inr (Or.inl r)
  · exact Or.inr (Or.inr ⟨x, hx, ⟨List.all_eq_true.mp tb_2_ok _ hx, Nat.dvd_of_mod_eq_zero (Nat.eq_of_beq_eq_true (List.all_eq_true.mp tb_2_q _ hx)), Or.inl (List.all_eq_true.mp lf_2 _ hx)⟩, r⟩)
theorem tbc_3 {q : Nat} (hq : nPr q) (h1 : 1129 ≤ q) (h2 : q < 1229) (h3 : q % 2 = 1) : q = 7 ∨ q = 61 ∨ ∃ e, e ∈ tb_3 ∧ gE e ∧ e.1 = q := by
  have e : 1129 + 2 * ((q - 1129) / 2) = q := by omega
  have := wkP_ok 50 1129 tb_3 tb_3_w ((q - 1129) / 2) (by omega) (by rw [e]; exact hq)
  rw [e] at this
  rcases this with r | r | ⟨x, hx, r⟩
  · exact Or.inl r
  · exact Or.inr (Or.inl r)
  · exact Or.inr (Or.inr ⟨x, hx, ⟨List.all_eq_true.mp tb_3_ok _ hx, Nat.dvd_of_mod_eq_zero (Nat.eq_of_beq_eq_true (List.all_eq_true.mp tb_3_q _ hx)), Or.inl (List.all_eq_true.mp lf_3 _ hx)⟩, r⟩)
theorem tbc_4 {q : Nat} (hq : nPr q) (h1 : 1229 ≤ q) (h2 : q < 1319) (h3 : q % 2 = 1) : q = 7 ∨ q = 61 ∨ ∃ e, e ∈ tb_4 ∧ gE e ∧ e.1 = q := by
  have e : 1229 + 2 * ((q - 1229) / 2) = q := by omega
  have := wkP_ok 45 1229 tb_4 tb_4_w ((q - 1229) / 2) (by omega) (by rw [e]; exact hq)
  rw [e] at this
  rcases this with r | r | ⟨x, hx, r⟩
  · exact Or.inl r
  · exact Or.inr (Or.inl r)
  · exact Or.inr (Or.inr ⟨x, hx, ⟨List.all_eq_true.mp tb_4_ok _ hx, Nat.dvd_of_mod_eq_zero (Nat.eq_of_beq_eq_true (List.all_eq_true.mp tb_4_q _ hx)), Or.inl (List.all_eq_true.mp lf_4 _ hx)⟩, r⟩)
theorem tbc_5 {q : Nat} (hq : nPr q) (h1 : 1319 ≤ q) (h2 : q < 1451) (h3 : q % 2 = 1) : q = 7 ∨ q = 61 ∨ ∃ e, e ∈ tb_5 ∧ gE e ∧ e.1 = q := by
  have e : 1319 + 2 * ((q - 1319) / 2) = q := by omega
  have := wkP_ok 66 1319 tb_5 tb_5_w ((q - 1319) / 2) (by omega) (by rw [e]; exact hq)
  rw [e] at this
  rcases this with r | r | ⟨x, hx, r⟩
  · exact Or.inl r
  · exact Or.inr (Or.inl r)
  · exact Or.inr (Or.inr ⟨x, hx, ⟨List.all_eq_true.mp tb_5_ok _ hx, Nat.dvd_of_mod_eq_zero (Nat.eq_of_beq_eq_true (List.all_eq_true.mp tb_5_q _ hx)), Or.inl (List.all_eq_true.mp lf_5 _ hx)⟩, r⟩)
theorem tbc_6 {q : Nat} (hq : nPr q) (h1 : 1451 ≤ q) (h2 : q < 1571) (h3 : q % 2 = 1) : q = 7 ∨ q = 61 ∨ ∃ e, e ∈ tb_6 ∧ gE e ∧ e.1 = q := by
  have e : 1451 + 2 * ((q - 1451) / 2) = q := by omega
  have := wkP_ok 60 1451 tb_6 tb_6_w ((q - 1451) / 2) (by omega) (by rw [e]; exact hq)
  rw [e] at this
  rcases this with r | r | ⟨x, hx, r⟩
  · exact Or.inl r
  · exact Or.inr (Or.inl r)
  · exact Or.inr (Or.inr ⟨x, hx, ⟨List.all_eq_true.mp tb_6_ok _ hx, Nat.dvd_of_mod_eq_zero (Nat.eq_of_beq_eq_true (List.all_eq_true.mp tb_6_q _ hx)), Or.inl (List.all_eq_true.mp lf_6 _ hx)⟩, r⟩)
theorem tbc_7 {q : Nat} (hq : nPr q) (h1 : 1571 ≤ q) (h2 : q < 1741) (h3 : q % 2 = 1) : q = 7 ∨ q = 61 ∨ ∃ e, e ∈ tb_7 ∧ gE e ∧ e.1 = q := by
  have e : 1571 + 2 * ((q - 1571) / 2) = q := by omega
  have := wkP_ok 85 1571 tb_7 tb_7_w ((q - 1571) / 2) (by omega) (by rw [e]; exact hq)
  rw [e] at this
  rcases this with r | r | ⟨x, hx, r⟩
  · exact Or.inl r
  · exact Or.inr (Or.inl r)
  · exact Or.inr (Or.inr ⟨x, hx, ⟨List.all_eq_true.mp tb_7_ok _ hx, Nat.dvd_of_mod_eq_zero (Nat.eq_of_beq_eq_true (List.all_eq_true.mp tb_7_q _ hx)), Or.inl (List.all_eq_true.mp lf_7 _ hx)⟩, r⟩)
theorem tbc_8 {q : Nat} (hq : nPr q) (h1 : 1741 ≤ q) (h2 : q < 1973) (h3 : q % 2 = 1) : q = 7 ∨ q = 61 ∨ ∃ e, e ∈ tb_8 ∧ gE e ∧ e.1 = q := by
  have e : 1741 + 2 * ((q - 1741) / 2) = q := by omega
  have := wkP_ok 116 1741 tb_8 tb_8_w ((q - 1741) / 2) (by omega) (by rw [e]; exact hq)
  rw [e] at this
  rcases this with r | r | ⟨x, hx, r⟩
  · exact Or.inl r
  · exact Or.inr (Or.inl r)
  · exact Or.inr (Or.inr ⟨x, hx, ⟨List.all_eq_true.mp tb_8_ok _ hx, Nat.dvd_of_mod_eq_zero (Nat.eq_of_beq_eq_true (List.all_eq_true.mp tb_8_q _ hx)), Or.inl (List.all_eq_true.mp lf_8 _ hx)⟩, r⟩)
theorem tbc_9 {q : Nat} (hq : nPr q) (h1 : 1973 ≤ q) (h2 : q < 2269) (h3 : q % 2 = 1) : q = 7 ∨ q = 61 ∨ ∃ e, e ∈ tb_9 ∧ gE e ∧ e.1 = q := by
  have e : 1973 + 2 * ((q - 1973) / 2) = q := by omega
  have := wkP_ok 148 1973 tb_9 tb_9_w ((q - 1973) / 2) (by omega) (by rw [e]; exact hq)
  rw [e] at this
  rcases this with r | r | ⟨x, hx, r⟩
  · exact Or.inl r
  · exact Or.inr (Or.inl r)
  · exact Or.inr (Or.inr ⟨x, hx, ⟨List.all_eq_true.mp tb_9_ok _ hx, Nat.dvd_of_mod_eq_zero (Nat.eq_of_beq_eq_true (List.all_eq_true.mp tb_9_q _ hx)), Or.inl (List.all_eq_true.mp lf_9 _ hx)⟩, r⟩)
theorem tbc_10 {q : Nat} (hq : nPr q) (h1 : 2269 ≤ q) (h2 : q < 2659) (h3 : q % 2 = 1) : q = 7 ∨ q = 61 ∨ ∃ e, e ∈ tb_10 ∧ gE e ∧ e.1 = q := by
  have e : 2269 + 2 * ((q - 2269) / 2) = q := by omega
  have := wkP_ok 195 2269 tb_10 tb_10_w ((q - 2269) / 2) (by omega) (by rw [e]; exact hq)
  rw [e] at this
  rcases this with r | r | ⟨x, hx, r⟩
  · exact Or.inl r
  · exact Or.inr (Or.inl r)
  · exact Or.inr (Or.inr ⟨x, hx, ⟨List.all_eq_true.mp tb_10_ok _ hx, Nat.dvd_of_mod_eq_zero (Nat.eq_of_beq_eq_true (List.all_eq_true.mp tb_10_q _ hx)), Or.inl (List.all_eq_true.mp lf_10 _ hx)⟩, r⟩)
theorem tbc_11 {q : Nat} (hq : nPr q) (h1 : 2659 ≤ q) (h2 : q < 3137) (h3 : q % 2 = 1) : q = 7 ∨ q = 61 ∨ ∃ e, e ∈ tb_11 ∧ gE e ∧ e.1 = q := by
  have e : 2659 + 2 * ((q - 2659) / 2) = q := by omega
  have := wkP_ok 239 2659 tb_11 tb_11_w ((q - 2659) / 2) (by omega) (by rw [e]; exact hq)
  rw [e] at this
  rcases this with r | r | ⟨x, hx, r⟩
  · exact Or.inl r
  · exact Or.inr (Or.inl r)
  · exact Or.inr (Or.inr ⟨x, hx, ⟨List.all_eq_true.mp tb_11_ok _ hx, Nat.dvd_of_mod_eq_zero (Nat.eq_of_beq_eq_true (List.all_eq_true.mp tb_11_q _ hx)), Or.inl (List.all_eq_true.mp lf_11 _ hx)⟩, r⟩)
theorem tbc_12 {q : Nat} (hq : nPr q) (h1 : 3137 ≤ q) (h2 : q < 3907) (h3 : q % 2 = 1) : q = 7 ∨ q = 61 ∨ ∃ e, e ∈ tb_12 ∧ gE e ∧ e.1 = q := by
  have e : 3137 + 2 * ((q - 3137) / 2) = q := by omega
  have := wkP_ok 385 3137 tb_12 tb_12_w ((q - 3137) / 2) (by omega) (by rw [e]; exact hq)
  rw [e] at this
  rcases this with r | r | ⟨x, hx, r⟩
  · exact Or.inl r
  · exact Or.inr (Or.inl r)
  · exact Or.inr (Or.inr ⟨x, hx, ⟨List.all_eq_true.mp tb_12_ok _ hx, Nat.dvd_of_mod_eq_zero (Nat.eq_of_beq_eq_true (List.all_eq_true.mp tb_12_q _ hx)), Or.inl (List.all_eq_true.mp lf_12 _ hx)⟩, r⟩)
theorem tbc_13 {q : Nat} (hq : nPr q) (h1 : 3907 ≤ q) (h2 : q < 5233) (h3 : q % 2 = 1) : q = 7 ∨ q = 61 ∨ ∃ e, e ∈ tb_13 ∧ gE e ∧ e.1 = q := by
  have e : 3907 + 2 * ((q - 3907) / 2) = q := by omega
  have := wkP_ok 663 3907 tb_13 tb_13_w ((q - 3907) / 2) (by omega) (by rw [e]; exact hq)
  rw [e] at this
  rcases this with r | r | ⟨x, hx, r⟩
  · exact Or.inl r
  · exact Or.inr (Or.inl r)
  · exact Or.inr (Or.inr ⟨x, hx, ⟨List.all_eq_true.mp tb_13_ok _ hx, Nat.dvd_of_mod_eq_zero (Nat.eq_of_beq_eq_true (List.all_eq_true.mp tb_13_q _ hx)), Or.inl (List.all_eq_true.mp lf_13 _ hx)⟩, r⟩)
theorem tbc_14 {q : Nat} (hq : nPr q) (h1 : 5233 ≤ q) (h2 : q < 7607) (h3 : q % 2 = 1) : q = 7 ∨ q = 61 ∨ ∃ e, e ∈ tb_14 ∧ gE e ∧ e.1 = q := by
  have e : 5233 + 2 * ((q - 5233) / 2) = q := by omega
  have := wkP_ok 1187 5233 tb_14 tb_14_w ((q - 5233) / 2) (by omega) (by rw [e]; exact hq)
  rw [e] at this
  rcases this with r | r | ⟨x, hx, r⟩
  · exact Or.inl r
  · exact Or.inr (Or.inl r)
  · exact Or.inr (Or.inr ⟨x, hx, ⟨List.all_eq_true.mp tb_14_ok _ hx, Nat.dvd_of_mod_eq_zero (Nat.eq_of_beq_eq_true (List.all_eq_true.mp tb_14_q _ hx)), Or.inl (List.all_eq_true.mp lf_14 _ hx)⟩, r⟩)
theorem tbc_15 {q : Nat} (hq : nPr q) (h1 : 7607 ≤ q) (h2 : q < 11311) (h3 : q % 2 = 1) : q = 7 ∨ q = 61 ∨ ∃ e, e ∈ tb_15 ∧ gE e ∧ e.1 = q := by
  have e : 7607 + 2 * ((q - 7607) / 2) = q := by omega
  have := wkP_ok 1852 7607 tb_15 tb_15_w ((q - 7607) / 2) (by omega) (by rw [e]; exact hq)
  rw [e] at this
  rcases this with r | r | ⟨x, hx, r⟩
  · exact Or.inl r
  · exact Or.inr (Or.inl r)
  · exact Or.inr (Or.inr ⟨x, hx, ⟨List.all_eq_true.mp tb_15_ok _ hx, Nat.dvd_of_mod_eq_zero (Nat.eq_of_beq_eq_true (List.all_eq_true.mp tb_15_q _ hx)), Or.inl (List.all_eq_true.mp lf_15 _ hx)⟩, r⟩)
theorem tbc_16 {q : Nat} (hq : nPr q) (h1 : 11311 ≤ q) (h2 : q < 15131) (h3 : q % 2 = 1) : q = 7 ∨ q = 61 ∨ ∃ e, e ∈ tb_16 ∧ gE e ∧ e.1 = q := by
  have e : 11311 + 2 * ((q - 11311) / 2) = q := by omega
  have := wkP_ok 1910 11311 tb_16 tb_16_w ((q - 11311) / 2) (by omega) (by rw [e]; exact hq)
  rw [e] at this
  rcases this with r | r | ⟨x, hx, r⟩
  · exact Or.inl r
  · exact Or.inr (Or.inl r)
  · exact Or.inr (Or.inr ⟨x, hx, ⟨List.all_eq_true.mp tb_16_ok _ hx, Nat.dvd_of_mod_eq_zero (Nat.eq_of_beq_eq_true (List.all_eq_true.mp tb_16_q _ hx)), Or.inl (List.all_eq_true.mp lf_16 _ hx)⟩, r⟩)
theorem tbc_17 {q : Nat} (hq : nPr q) (h1 : 15131 ≤ q) (h2 : q < 19079) (h3 : q % 2 = 1) : q = 7 ∨ q = 61 ∨ ∃ e, e ∈ tb_17 ∧ gE e ∧ e.1 = q := by
  have e : 15131 + 2 * ((q - 15131) / 2) = q := by omega
  have := wkP_ok 1974 15131 tb_17 tb_17_w ((q - 15131) / 2) (by omega) (by rw [e]; exact hq)
  rw [e] at this
  rcases this with r | r | ⟨x, hx, r⟩
  · exact Or.inl r
  · exact Or.inr (Or.inl r)
  · exact Or.inr (Or.inr ⟨x, hx, ⟨List.all_eq_true.mp tb_17_ok _ hx, Nat.dvd_of_mod_eq_zero (Nat.eq_of_beq_eq_true (List.all_eq_true.mp tb_17_q _ hx)), Or.inl (List.all_eq_true.mp lf_17 _ hx)⟩, r⟩)
theorem tbc_18 {q : Nat} (hq : nPr q) (h1 : 19079 ≤ q) (h2 : q < 23017) (h3 : q % 2 = 1) : q = 7 ∨ q = 61 ∨ ∃ e, e ∈ tb_18 ∧ gE e ∧ e.1 = q := by
  have e : 19079 + 2 * ((q - 19079) / 2) = q := by omega
  have := wkP_ok 1969 19079 tb_18 tb_18_w ((q - 19079) / 2) (by omega) (by rw [e]; exact hq)
  rw [e] at this
  rcases this with r | r | ⟨x, hx, r⟩
  · exact Or.inl r
  · exact Or.inr (Or.inl r)
  · exact Or.inr (Or.inr ⟨x, hx, ⟨List.all_eq_true.mp tb_18_ok _ hx, Nat.dvd_of_mod_eq_zero (Nat.eq_of_beq_eq_true (List.all_eq_true.mp tb_18_q _ hx)), Or.inl (List.all_eq_true.mp lf_18 _ hx)⟩, r⟩)
theorem tbc_19 {q : Nat} (hq : nPr q) (h1 : 23017 ≤ q) (h2 : q < 27061) (h3 : q % 2 = 1) : q = 7 ∨ q = 61 ∨ ∃ e, e ∈ tb_19 ∧ gE e ∧ e.1 = q := by
  have e : 23017 + 2 * ((q - 23017) / 2) = q := by omega
  have := wkP_ok 2022 23017 tb_19 tb_19_w ((q - 23017) / 2) (by omega) (by rw [e]; exact hq)
  rw [e] at this
  rcases this with r | r | ⟨x, hx, r⟩
  · exact Or.inl r
  · exact Or.inr (Or.inl r)
  · exact Or.inr (Or.inr ⟨x, hx, ⟨List.all_eq_true.mp tb_19_ok _ hx, Nat.dvd_of_mod_eq_zero (Nat.eq_of_beq_eq_true (List.all_eq_true.mp tb_19_q _ hx)), Or.inl (List.all_eq_true.mp lf_19 _ hx)⟩, r⟩)
theorem tbc_20 {q : Nat} (hq : nPr q) (h1 : 27061 ≤ q) (h2 : q < 31247) (h3 : q % 2 = 1) : q = 7 ∨ q = 61 ∨ ∃ e, e ∈ tb_20 ∧ gE e ∧ e.1 = q := by
  have e : 27061 + 2 * ((q - 27061) / 2) = q := by omega
  have := wkP_ok 2093 27061 tb_20 tb_20_w ((q - 27061) / 2) (by omega) (by rw [e]; exact hq)
  rw [e] at this
  rcases this with r | r | ⟨x, hx, r⟩
  · exact Or.inl r
  · exact Or.inr (Or.inl r)
  · exact Or.inr (Or.inr ⟨x, hx, ⟨List.all_eq_true.mp tb_20_ok _ hx, Nat.dvd_of_mod_eq_zero (Nat.eq_of_beq_eq_true (List.all_eq_true.mp tb_20_q _ hx)), Or.inl (List.all_eq_true.mp lf_20 _ hx)⟩, r⟩)
theorem tbc_21 {q : Nat} (hq : nPr q) (h1 : 31247 ≤ q) (h2 : q < 31623) (h3 : q % 2 = 1) : q = 7 ∨ q = 61 ∨ ∃ e, e ∈ tb_21 ∧ gE e ∧ e.1 = q := by
  have e : 31247 + 2 * ((q - 31247) / 2) = q := by omega
  have := wkP_ok 188 31247 tb_21 tb_21_w ((q - 31247) / 2) (by omega) (by rw [e]; exact hq)
  rw [e] at this
  rcases this with r | r | ⟨x, hx, r⟩
  · exact Or.inl r
  · exact Or.inr (Or.inl r)
  · exact Or.inr (Or.inr ⟨x, hx, ⟨List.all_eq_true.mp tb_21_ok _ hx, Nat.dvd_of_mod_eq_zero (Nat.eq_of_beq_eq_true (List.all_eq_true.mp tb_21_q _ hx)), Or.inl (List.all_eq_true.mp lf_21 _ hx)⟩, r⟩)
theorem tbc {q : Nat} (hq : nPr q) (h1 : 3 ≤ q) (h2 : q ≤ 31622) (h3 : q % 2 = 1) : q = 7 ∨ q = 61 ∨ ∃ e, gE e ∧ e.1 = q := by
  by_cases c0 : q < 1009
  · rcases tbc_0 hq (by omega) c0 h3 with r | r | ⟨x, -, h, r⟩
    · exact Or.inl r
    · exact Or.inr (Or.inl r)
    · exact Or.inr (Or.inr ⟨x, h, r⟩)
  by_cases c1 : q < 1061
  · rcases tbc_1 hq (by omega) c1 h3 with r | r | ⟨x, -, h, r⟩
    · exact Or.inl r
    · exact Or.inr (Or.inl r)
    · exact Or.inr (Or.inr ⟨x, h, r⟩)
  by_cases c2 : q < 1129
  · rcases tbc_2 hq (by omega) c2 h3 with r | r | ⟨x, -, h, r⟩
    · exact Or.inl r
    · exact Or.inr (Or.inl r)
    · exact Or.inr (Or.inr ⟨x, h, r⟩)
  by_cases c3 : q < 1229
  · rcases tbc_3 hq (by omega) c3 h3 with r | r | ⟨x, -, h, r⟩
    · exact Or.inl r
    · exact Or.inr (Or.inl r)
    · exact Or.inr (Or.inr ⟨x, h, r⟩)
  by_cases c4 : q < 1319
  · rcases tbc_4 hq (by omega) c4 h3 with r | r | ⟨x, -, h, r⟩
    · exact Or.inl r
    · exact Or.inr (Or.inl r)
    · exact Or.inr (Or.inr ⟨x, h, r⟩)
  by_cases c5 : q < 1451
  · rcases tbc_5 hq (by omega) c5 h3 with r | r | ⟨x, -, h, r⟩
    · exact Or.inl r
    · exact Or.inr (Or.inl r)
    · exact Or.inr (Or.inr ⟨x, h, r⟩)
  by_cases c6 : q < 1571
  · rcases tbc_6 hq (by omega) c6 h3 with r | r | ⟨x, -, h, r⟩
    · exact Or.inl r
    · exact Or.inr (Or.inl r)
    · exact Or.inr (Or.inr ⟨x, h, r⟩)
  by_cases c7 : q < 1741
  · rcases tbc_7 hq (by omega) c7 h3 with r | r | ⟨x, -, h, r⟩
    · exact Or.inl r
    · exact Or.inr (Or.inl r)
    · exact Or.inr (Or.inr ⟨x, h, r⟩)
  by_cases c8 : q < 1973
  · rcases tbc_8 hq (by omega) c8 h3 with r | r | ⟨x, -, h, r⟩
    · exact Or.inl r
    · exact Or.inr (Or.inl r)
    · exact Or.inr (Or.inr ⟨x, h, r⟩)
  by_cases c9 : q < 2269
  · rcases tbc_9 hq (by omega) c9 h3 with r | r | ⟨x, -, h, r⟩
    · exact Or.inl r
    · exact Or.inr (Or.inl r)
    · exact Or.inr (Or.inr ⟨x, h, r⟩)
  by_cases c10 : q < 2659
  · rcases tbc_10 hq (by omega) c10 h3 with r | r | ⟨x, -, h, r⟩
    · exact Or.inl r
    · exact Or.inr (Or.inl r)
    · exact Or.inr (Or.inr ⟨x, h, r⟩)
  by_cases c11 : q < 3137
  · rcases tbc_11 hq (by omega) c11 h3 with r | r | ⟨x, -, h, r⟩
    · exact Or.inl r
    · exact Or.inr (Or.inl r)
    · exact Or.inr (Or.inr ⟨x, h, r⟩)
  by_cases c12 : q < 3907
  · rcases tbc_12 hq (by omega) c12 h3 with r | r | ⟨x, -, h, r⟩
    · exact Or.inl r
    · exact Or.inr (Or.inl r)
    · exact Or.inr (Or.inr ⟨x, h, r⟩)
  by_cases c13 : q < 5233
  · rcases tbc_13 hq (by omega) c13 h3 with r | r | ⟨x, -, h, r⟩
    · exact Or.inl r
    · exact Or.inr (Or.inl r)
    · exact Or.inr (Or.inr ⟨x, h, r⟩)
  by_cases c14 : q < 7607
  · rcases tbc_14 hq (by omega) c14 h3 with r | r | ⟨x, -, h, r⟩
    · exact Or.inl r
    · exact Or.inr (Or.inl r)
    · exact Or.inr (Or.inr ⟨x, h, r⟩)
  by_cases c15 : q < 11311
  · rcases tbc_15 hq (by omega) c15 h3 with r | r | ⟨x, -, h, r⟩
    · exact Or.inl r
    · exact Or.inr (Or.inl r)
    · exact Or.inr (Or.inr ⟨x, h, r⟩)
  by_cases c16 : q < 15131
  · rcases tbc_16 hq (by omega) c16 h3 with r | r | ⟨x, -, h, r⟩
    · exact Or.inl r
    · exact Or.inr (Or.inl r)
    · exact Or.inr (Or.inr ⟨x, h, r⟩)
  by_cases c17 : q < 19079
  · rcases tbc_17 hq (by omega) c17 h3 with r | r | ⟨x, -, h, r⟩
    · exact Or.inl r
    · exact Or.inr (Or.inl r)
    · exact Or.inr (Or.inr ⟨x, h, r⟩)
  by_cases c18 : q < 23017
  · rcases tbc_18 hq (by omega) c18 h3 with r | r | ⟨x, -, h, r⟩
    · exact Or.inl r
    · exact Or.inr (Or.inl r)
    · exact Or.inr (Or.inr ⟨x, h, r⟩)
  by_cases c19 : q < 27061
  · rcases tbc_19 hq (by omega) c19 h3 with r | r | ⟨x, -, h, r⟩
    · exact Or.inl r
    · exact Or.inr (Or.inl r)
    · exact Or.inr (Or.inr ⟨x, h, r⟩)
  by_cases c20 : q < 31247
  · rcases tbc_20 hq (by omega) c20 h3 with r | r | ⟨x, -, h, r⟩
    · exact Or.inl r
    · exact Or.inr (Or.inl r)
    · exact Or.inr (Or.inr ⟨x, h, r⟩)
  by_cases c21 : q < 31623
  · rcases tbc_21 hq (by omega) c21 h3 with r | r | ⟨x, -, h, r⟩
    · exact Or.inl r
    · exact Or.inr (Or.inl r)
    · exact Or.inr (Or.inr ⟨x, h, r⟩)
  omega
theorem cac {m : Nat} (h1 : 3 ≤ m) (h2 : m ≤ 31622) (h3 : m % 2 = 1) : ∃ ps, chkA QP m ps = true := by
  by_cases c0 : m < 803
  · have := caK_ok _ _ _ ca_0 ((m - 3) / 2) (by omega)
    rw [show 3 + 2 * ((m - 3) / 2) = m by omega] at this
    exact this
  by_cases c1 : m < 1603
  · have := caK_ok _ _ _ ca_1 ((m - 803) / 2) (by omega)
    rw [show 803 + 2 * ((m - 803) / 2) = m by omega] at this
    exact this
  by_cases c2 : m < 2403
  · have := caK_ok _ _ _ ca_2 ((m - 1603) / 2) (by omega)
    rw [show 1603 + 2 * ((m - 1603) / 2) = m by omega] at this
    exact this
  by_cases c3 : m < 3203
  · have := caK_ok _ _ _ ca_3 ((m - 2403) / 2) (by omega)
    rw [show 2403 + 2 * ((m - 2403) / 2) = m by omega] at this
    exact this
  by_cases c4 : m < 4003
  · have := caK_ok _ _ _ ca_4 ((m - 3203) / 2) (by omega)
    rw [show 3203 + 2 * ((m - 3203) / 2) = m by omega] at this
    exact this
  by_cases c5 : m < 4803
  · have := caK_ok _ _ _ ca_5 ((m - 4003) / 2) (by omega)
    rw [show 4003 + 2 * ((m - 4003) / 2) = m by omega] at this
    exact this
  by_cases c6 : m < 5603
  · have := caK_ok _ _ _ ca_6 ((m - 4803) / 2) (by omega)
    rw [show 4803 + 2 * ((m - 4803) / 2) = m by omega] at this
    exact this
  by_cases c7 : m < 6403
  · have := caK_ok _ _ _ ca_7 ((m - 5603) / 2) (by omega)
    rw [show 5603 + 2 * ((m - 5603) / 2) = m by omega] at this
    exact this
  by_cases c8 : m < 7203
  · have := caK_ok _ _ _ ca_8 ((m - 6403) / 2) (by omega)
    rw [show 6403 + 2 * ((m - 6403) / 2) = m by omega] at this
    exact this
  by_cases c9 : m < 8003
  · have := caK_ok _ _ _ ca_9 ((m - 7203) / 2) (by omega)
    rw [show 7203 + 2 * ((m - 7203) / 2) = m by omega] at this
    exact this
  by_cases c10 : m < 8803
  · have := caK_ok _ _ _ ca_10 ((m - 8003) / 2) (by omega)
    rw [show 8003 + 2 * ((m - 8003) / 2) = m by omega] at this
    exact this
  by_cases c11 : m < 9603
  · have := caK_ok _ _ _ ca_11 ((m - 8803) / 2) (by omega)
    rw [show 8803 + 2 * ((m - 8803) / 2) = m by omega] at this
    exact this
  by_cases c12 : m < 10403
  · have := caK_ok _ _ _ ca_12 ((m - 9603) / 2) (by omega)
    rw [show 9603 + 2 * ((m - 9603) / 2) = m by omega] at this
    exact this
  by_cases c13 : m < 11203
  · have := caK_ok _ _ _ ca_13 ((m - 10403) / 2) (by omega)
    rw [show 10403 + 2 * ((m - 10403) / 2) = m by omega] at this
    exact this
  by_cases c14 : m < 12003
  · have := caK_ok _ _ _ ca_14 ((m - 11203) / 2) (by omega)
    rw [show 11203 + 2 * ((m - 11203) / 2) = m by omega] at this
    exact this
  by_cases c15 : m < 12803
  · have := caK_ok _ _ _ ca_15 ((m - 12003) / 2) (by omega)
    rw [show 12003 + 2 * ((m - 12003) / 2) = m by omega] at this
    exact this
  by_cases c16 : m < 13603
  · have := caK_ok _ _ _ ca_16 ((m - 12803) / 2) (by omega)
    rw [show 12803 + 2 * ((m - 12803) / 2) = m by omega] at this
    exact this
  by_cases c17 : m < 14403
  · have := caK_ok _ _ _ ca_17 ((m - 13603) / 2) (by omega)
    rw [show 13603 + 2 * ((m - 13603) / 2) = m by omega] at this
    exact this
  by_cases c18 : m < 15203
  · have := caK_ok _ _ _ ca_18 ((m - 14403) / 2) (by omega)
    rw [show 14403 + 2 * ((m - 14403) / 2) = m by omega] at this
    exact this
  by_cases c19 : m < 16003
  · have := caK_ok _ _ _ ca_19 ((m - 15203) / 2) (by omega)
    rw [show 15203 + 2 * ((m - 15203) / 2) = m by omega] at this
    exact this
  by_cases c20 : m < 16803
  · have := caK_ok _ _ _ ca_20 ((m - 16003) / 2) (by omega)
    rw [show 16003 + 2 * ((m - 16003) / 2) = m by omega] at this
    exact this
  by_cases c21 : m < 17603
  · have := caK_ok _ _ _ ca_21 ((m - 16803) / 2) (by omega)
    rw [show 16803 + 2 * ((m - 16803) / 2) = m by omega] at this
    exact this
  by_cases c22 : m < 18403
  · have := caK_ok _ _ _ ca_22 ((m - 17603) / 2) (by omega)
    rw [show 17603 + 2 * ((m - 17603) / 2) = m by omega] at this
    exact this
  by_cases c23 : m < 19203
  · have := caK_ok _ _ _ ca_23 ((m - 18403) / 2) (by omega)
    rw [show 18403 + 2 * ((m - 18403) / 2) = m by omega] at this
    exact this
  by_cases c24 : m < 20003
  · have := caK_ok _ _ _ ca_24 ((m - 19203) / 2) (by omega)
    rw [show 19203 + 2 * ((m - 19203) / 2) = m by omega] at this
    exact this
  by_cases c25 : m < 20803
  · have := caK_ok _ _ _ ca_25 ((m - 20003) / 2) (by omega)
    rw [show 20003 + 2 * ((m - 20003) / 2) = m by omega] at this
    exact this
  by_cases c26 : m < 21603
  · have := caK_ok _ _ _ ca_26 ((m - 20803) / 2) (by omega)
    rw [show 20803 + 2 * ((m - 20803) / 2) = m by omega] at this
    exact this
  by_cases c27 : m < 22403
  · have := caK_ok _ _ _ ca_27 ((m - 21603) / 2) (by omega)
    rw [show 21603 + 2 * ((m - 21603) / 2) = m by omega] at this
    exact this
  by_cases c28 : m < 23203
  · have := caK_ok _ _ _ ca_28 ((m - 22403) / 2) (by omega)
    rw [show 22403 + 2 * ((m - 22403) / 2) = m by omega] at this
    exact this
  by_cases c29 : m < 24003
  · have := caK_ok _ _ _ ca_29 ((m - 23203) / 2) (by omega)
    rw [show 23203 + 2 * ((m - 23203) / 2) = m by omega] at this
    exact this
  by_cases c30 : m < 24803
  · have := caK_ok _ _ _ ca_30 ((m - 24003) / 2) (by omega)
    rw [show 24003 + 2 * ((m - 24003) / 2) = m by omega] at this
    exact this
  by_cases c31 : m < 25603
  · have := caK_ok _ _ _ ca_31 ((m - 24803) / 2) (by omega)
    rw [show 24803 + 2 * ((m - 24803) / 2) = m by omega] at this
    exact this
  by_cases c32 : m < 26403
  · have := caK_ok _ _ _ ca_32 ((m - 25603) / 2) (by omega)
    rw [show 25603 + 2 * ((m - 25603) / 2) = m by omega] at this
    exact this
  by_cases c33 : m < 27203
  · have := caK_ok _ _ _ ca_33 ((m - 26403) / 2) (by omega)
    rw [show 26403 + 2 * ((m - 26403) / 2) = m by omega] at this
    exact this
  by_cases c34 : m < 28003
  · have := caK_ok _ _ _ ca_34 ((m - 27203) / 2) (by omega)
    rw [show 27203 + 2 * ((m - 27203) / 2) = m by omega] at this
    exact this
  by_cases c35 : m < 28803
  · have := caK_ok _ _ _ ca_35 ((m - 28003) / 2) (by omega)
    rw [show 28003 + 2 * ((m - 28003) / 2) = m by omega] at this
    exact this
  by_cases c36 : m < 29603
  · have := caK_ok _ _ _ ca_36 ((m - 28803) / 2) (by omega)
    rw [show 28803 + 2 * ((m - 28803) / 2) = m by omega] at this
    exact this
  by_cases c37 : m < 30403
  · have := caK_ok _ _ _ ca_37 ((m - 29603) / 2) (by omega)
    rw [show 29603 + 2 * ((m - 29603) / 2) = m by omega] at this
    exact this
  by_cases c38 : m < 31203
  · have := caK_ok _ _ _ ca_38 ((m - 30403) / 2) (by omega)
    rw [show 30403 + 2 * ((m - 30403) / 2) = m by omega] at this
    exact this
  by_cases c39 : m < 31623
  · have := caK_ok _ _ _ ca_39 ((m - 31203) / 2) (by omega)
    rw [show 31203 + 2 * ((m - 31203) / 2) = m by omega] at this
    exact this
  omega
theorem all_td {α : Type} (f : α → Bool) (l : List α) (a b : Nat) (h : ((l.drop a).take b).all f = true) (k : (l.drop (a + b)).all f = true) : (l.drop a).all f = true := by
  rw [← List.take_append_drop b (l.drop a), List.all_append, h, Bool.true_and, List.drop_drop]
  exact k
theorem t1_top : t1.all (topE 30 t1) = true := by
  have h5 : (t1.drop 165).all (topE 30 t1) = true := by decide +kernel
  have h4 : (t1.drop 110).all (topE 30 t1) = true := all_td _ t1 110 55 df_4 h5
  have h3 : (t1.drop 75).all (topE 30 t1) = true := all_td _ t1 75 35 df_3 h4
  have h2 : (t1.drop 45).all (topE 30 t1) = true := all_td _ t1 45 30 df_2 h3
  have h1 : (t1.drop 20).all (topE 30 t1) = true := all_td _ t1 20 25 df_1 h2
  have h0 : (t1.drop 0).all (topE 30 t1) = true := all_td _ t1 0 20 df_0 h1
  exact h0
theorem big_pr {n : Nat} : ∀ b, (∀ q, nPr q → q ∣ n → q ≤ b) → 2 ≤ n → ∃ P, nPr P ∧ P ∣ n ∧ ∀ q, nPr q → q ∣ n → q ≤ P
  | 0, h, h2 => by
    obtain ⟨p, hp, hd⟩ := nPr.ex n n (Nat.le_refl _) h2
    have := h p hp hd
    have := hp.1
    omega
  | b + 1, h, h2 => by
    by_cases c : nPr (b + 1) ∧ (b + 1) ∣ n
    · exact ⟨b + 1, c.1, c.2, h⟩
    · refine big_pr b (fun q hq hd => ?_) h2
      have := h q hq hd
      rcases Nat.lt_or_ge b q with r | r
      · exfalso
        apply c
        rw [show b + 1 = q by omega]
        exact ⟨hq, hd⟩
      · exact r
theorem QP_all : ∀ q, nPr q → q ≤ 31622 → q ∣ QP := by
  intro q hq hl
  have h2 := hq.1
  by_cases e : q % 2 = 1
  · rcases tbc hq (by omega) hl e with r | r | ⟨x, h, r⟩
    · rw [r]; exact Nat.dvd_of_mod_eq_zero (by decide +kernel)
    · rw [r]; exact Nat.dvd_of_mod_eq_zero (by decide +kernel)
    · rw [← r]; exact h.2.1
  · rcases hq.2 2 (Nat.dvd_of_mod_eq_zero (by omega)) with r | r
    · omega
    · rw [← r]; exact Nat.dvd_of_mod_eq_zero (by decide +kernel)
theorem mr_sure {n : Nat} (h3 : 3 ≤ n) (hN : n ≤ 1000000007) (hodd : n % 2 = 1) (hs : sOK n) : nPr n := by
  refine Classical.byContradiction fun hc => ?_
  obtain ⟨P, hP, hd, hbig⟩ := big_pr n (fun q _ hd => Nat.le_of_dvd (by omega) hd) (show 2 ≤ n by omega)
  have ok : ∀ q, nPr q → q ∣ n → 3 ≤ q ∧ q % 2 = 1 ∧ q ≠ 7 ∧ q ≠ 61 := by
    intro q hq hqd
    have hf := fE_of h3 hs hqd
    have h2 := hq.1
    have ho : q % 2 = 1 := by
      refine Classical.byContradiction fun c => ?_
      have : 2 ∣ n := Nat.dvd_trans (Nat.dvd_of_mod_eq_zero (by omega)) hqd
      have := Nat.mod_eq_zero_of_dvd this
      omega
    obtain ⟨k, hk⟩ : ∃ k, n - 1 = k + 1 := ⟨n - 2, by omega⟩
    rw [hk] at hf
    refine ⟨by omega, ho, fun e => ?_, fun e => ?_⟩
    · rw [e] at hf
      have := hf.2.1
      rw [Nat.pow_succ, Nat.mul_mod_left] at this
      exact absurd this (by decide)
    · rw [e] at hf
      have := hf.2.2
      rw [Nat.pow_succ, Nat.mul_mod_left] at this
      exact absurd this (by decide)
  obtain ⟨m, rfl⟩ := hd
  have hm0 : m ≠ 0 := by intro e; rw [e] at h3; omega
  have hm1 : m ≠ 1 := by intro e; rw [e, Nat.mul_one] at hc; exact hc hP
  obtain ⟨o1, o2, o3, o4⟩ := ok P hP (Nat.dvd_mul_right P m)
  have hmo : m % 2 = 1 := by
    rw [Nat.mul_mod, o2, Nat.one_mul, Nat.mod_mod] at hodd
    exact hodd
  by_cases c : 31622 < P
  · have hml : m ≤ 31622 := by
      rcases Nat.lt_or_ge 31622 m with q | q
      · have : 31623 * 31623 ≤ P * m := Nat.mul_le_mul c q
        omega
      · exact q
    obtain ⟨ps, hps⟩ := cac (by omega) hml hmo
    exact chkA_ok hps hP c (QP_big hP c) QP_all (by omega) hN hs h3
  · rcases tbc hP o1 (by omega) o2 with r | r | ⟨⟨x, L, fs⟩, ⟨g1, g2, g3⟩, r⟩
    · exact o3 r
    · exact o4 r
    · have r : x = P := r
      subst r
      rcases g3 with g3 | g3
      · exact leafE_ok g3 (fun y hy => okE_dvd g1 hy) hP (by omega) hN hs h3
      · have t1a := List.all_eq_true.mp t1_a _ g3
        obtain ⟨⟨y, M⟩, hy, hyx⟩ := List.any_eq_true.mp t1a
        rw [Bool.and_eq_true] at hyx
        have ey : y = x := Nat.eq_of_beq_eq_true hyx.1
        have eM : M = L := Nat.eq_of_beq_eq_true hyx.2
        subst ey; subst eM
        have htop := List.all_eq_true.mp t1_top _ hy
        have gd : ∀ e, e ∈ t1 → gdE e := by
          intro e he
          obtain ⟨⟨a, b, cs⟩, h1, h2⟩ := List.any_eq_true.mp (List.all_eq_true.mp t1_b _ he)
          rw [Bool.and_eq_true] at h2
          have e1 : e.1 = a := Nat.eq_of_beq_eq_true h2.1
          have e2 : e.2 = b := Nat.eq_of_beq_eq_true h2.2
          have hok := List.all_eq_true.mp tb_0_ok _ h1
          refine ⟨?_, fun z hz => ?_⟩
          · rw [e1]
            unfold okE at hok
            simp only [Bool.and_eq_true, Nat.ble_eq] at hok
            have := hok.1.1.1
            omega
          · rw [e2]; rw [e1] at hz; exact okE_dvd hok hz
        have hx1000 : y < 1009 := by
          have : tb_0.all (fun e => Nat.blt e.1 1009) = true := by decide +kernel
          exact Nat.blt_eq.mp (List.all_eq_true.mp this _ g3)
        refine dfs_ok 40 _ y M htop (fun e he => gd e (List.mem_filter.mp he).1) (by omega) m (by omega) (fun q hq hqd => ?_) hN hs h3 (okE_dvd g1 (fE_of h3 hs (Nat.dvd_mul_right y m)))
        have hqn : q ∣ y * m := Nat.dvd_mul_left_of_dvd hqd y
        obtain ⟨q1, q2, q3, q4⟩ := ok q hq hqn
        have hql := hbig q hq hqn
        rcases tbc_0 hq q1 (by omega) q2 with s | s | ⟨⟨a, b, cs⟩, hx, -, s⟩
        · exact absurd s q3
        · exact absurd s q4
        · have s : a = q := s
          subst s
          obtain ⟨⟨u, v⟩, hu, hv⟩ := List.any_eq_true.mp (List.all_eq_true.mp t1_a _ hx)
          rw [Bool.and_eq_true] at hv
          have eu : u = a := Nat.eq_of_beq_eq_true hv.1
          subst eu
          exact ⟨v, List.mem_filter.mpr ⟨hu, Nat.ble_eq.mpr hql⟩⟩
theorem mrT_iff {n : Nat} (hN : n ≤ 1000000007) : mrT n = true ↔ nPr n := by
  have p2 : nPr 2 := isSP_pr (by decide +kernel)
  have p7 : nPr 7 := isSP_pr (by decide +kernel)
  have p61 : nPr 61 := isSP_pr (by decide +kernel)
  constructor
  · intro h
    unfold mrT at h
    simp only [Bool.or_eq_true, beq_iff_eq, Bool.and_eq_true, bne_iff_ne, ne_eq, decide_eq_true_eq] at h
    rcases h with ((h | h) | h) | ⟨⟨⟨⟨h1, h2⟩, h3⟩, h4⟩, h5⟩
    · rw [h]; exact p2
    · rw [h]; exact p7
    · rw [h]; exact p61
    · exact mr_sure h2 hN (by omega) ⟨h3, h4, h5⟩
  · intro hp
    unfold mrT
    simp only [Bool.or_eq_true, beq_iff_eq, Bool.and_eq_true, bne_iff_ne, ne_eq, decide_eq_true_eq]
    have h2 := hp.1
    by_cases a2 : n = 2
    · exact Or.inl (Or.inl (Or.inl a2))
    by_cases a7 : n = 7
    · exact Or.inl (Or.inl (Or.inr a7))
    by_cases a61 : n = 61
    · exact Or.inl (Or.inr a61)
    have nd : ∀ a, nPr a → n ≠ a → ¬ n ∣ a := by
      intro a ha hne hd
      rcases ha.2 n hd with q | q
      · omega
      · exact hne q
    refine Or.inr ⟨⟨⟨⟨fun e => ?_, by omega⟩, mr_prime hp (nd 2 p2 a2) (by omega)⟩, mr_prime hp (nd 7 p7 a7) (by omega)⟩, mr_prime hp (nd 61 p61 a61) (by omega)⟩
    rcases hp.2 2 (Nat.dvd_of_mod_eq_zero e) with q | q
    · omega
    · exact a2 q.symm
/-- the class's test of primes -/
noncomputable def prI (z : Int) : Int32 := if 0 ≤ z ∧ z ≤ 1000000007 then pri z.toNat else 0
theorem p_isPrime {F : Nat} (hF : 300 ≤ F) {z : Int} (hz : -2147483648 ≤ z ∧ z ≤ 2147483647) : f_X3_isPrime F (i32 z) = some (prI z) := by
  rw [p_cprime hF hz]
  unfold prI
  by_cases c : 0 ≤ z ∧ z ≤ 1000000007
  · rw [if_pos c]
    have hi := mrT_iff (n := z.toNat) (by omega)
    by_cases hp : nPr z.toNat
    · rw [pri_t hp, if_pos ⟨c.1, c.2, hi.mpr hp⟩]
    · rw [pri_f hp, if_neg (fun q => hp (hi.mp q.2.2))]
  · rw [if_neg c, if_neg (fun q => c ⟨q.1, q.2.1⟩)]
