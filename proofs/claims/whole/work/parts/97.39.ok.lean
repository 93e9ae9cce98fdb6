/-! every call keeps REL -/
theorem ok_table : Ok_table REL := fun n σ τ hn h x1 => by
  obtain ⟨r, σ', τ', h1, h2, h3, h4, h5⟩ := op_table h.1 h.2.1 x1
  refine ⟨r, σ', τ', h1, h2, ?_⟩
  rcases h5 with rfl | ⟨T, hT, e1, rfl⟩
  · obtain ⟨g1, g2, g3, g4, g5, k, g6, g7⟩ := h
    exact ⟨h3, h4, g3, g4, g5, k, by omega, g7⟩
  · exact REL_tab h hT e1 h3 h4
theorem ok_row : Ok_row REL := fun n σ τ hn h x1 => by
  obtain ⟨r, σ', τ', h1, h2, h3, h4, h5⟩ := op_row h.1 h.2.1 x1
  refine ⟨r, σ', τ', h1, h2, ?_⟩
  rcases h5 with rfl | h5
  · obtain ⟨g1, g2, g3, g4, g5, k, g6, g7⟩ := h
    exact ⟨h3, h4, g3, g4, g5, k, by omega, g7⟩
  · exact REL_rst2 h h3 h4 h5
theorem ok_put : Ok_put REL := fun n σ τ hn h x1 x2 x3 x4 => by
  obtain ⟨r, σ', τ', h1, h2, h3, h4, h5⟩ := op_put h.1 h.2.1 x1 x2 x3 x4
  refine ⟨r, σ', τ', h1, h2, ?_⟩
  rcases h5 with rfl | h5
  · obtain ⟨g1, g2, g3, g4, g5, k, g6, g7⟩ := h
    exact ⟨h3, h4, g3, g4, g5, k, by omega, g7⟩
  · exact REL_rst2 h h3 h4 h5
theorem ok_link : Ok_link REL := fun n σ τ hn h x1 x2 x3 => by
  obtain ⟨r, σ', τ', h1, h2, h3, h4, h5⟩ := op_link h.1 h.2.1 x1 x2 x3
  refine ⟨r, σ', τ', h1, h2, ?_⟩
  rcases h5 with rfl | h5
  · obtain ⟨g1, g2, g3, g4, g5, k, g6, g7⟩ := h
    exact ⟨h3, h4, g3, g4, g5, k, by omega, g7⟩
  · exact REL_rst h h3 h4 h5
theorem ok_mean : Ok_mean REL := fun n σ τ hn h x1 x2 x3 x4 x5 => by
  obtain ⟨r, σ', τ', h1, h2, h3, h4, h5⟩ := op_mean h.1 h.2.1 x1 x2 x3 x4 x5
  refine ⟨r, σ', τ', h1, h2, ?_⟩
  rcases h5 with rfl | h5
  · obtain ⟨g1, g2, g3, g4, g5, k, g6, g7⟩ := h
    exact ⟨h3, h4, g3, g4, g5, k, by omega, g7⟩
  · exact REL_rst h h3 h4 h5
theorem ok_forget : Ok_forget REL := fun n σ τ hn h x1 => by
  obtain ⟨r, σ', τ', h1, h2, h3, h4, h5⟩ := op_forget h.1 h.2.1 x1
  refine ⟨r, σ', τ', h1, h2, ?_⟩
  rcases h5 with rfl | h5
  · obtain ⟨g1, g2, g3, g4, g5, k, g6, g7⟩ := h
    exact ⟨h3, h4, g3, g4, g5, k, by omega, g7⟩
  · exact REL_rst h h3 h4 h5
theorem ok_word : Ok_word REL := fun n σ τ hn h x1 => by
  obtain ⟨r, σ', τ', h1, h2, h3, h4, h5⟩ := op_word h.1 h.2.1 x1
  refine ⟨r, σ', τ', h1, h2, ?_⟩
  rcases h5 with rfl | h5
  · obtain ⟨g1, g2, g3, g4, g5, k, g6, g7⟩ := h
    exact ⟨h3, h4, g3, g4, g5, k, by omega, g7⟩
  · exact REL_rst h h3 h4 h5
theorem ok_number : Ok_number REL := fun n σ τ hn h x1 => by
  obtain ⟨r, σ', τ', h1, h2, h3, h4, h5⟩ := op_number h.1 h.2.1 x1
  refine ⟨r, σ', τ', h1, h2, ?_⟩
  rcases h5 with rfl | h5
  · obtain ⟨g1, g2, g3, g4, g5, k, g6, g7⟩ := h
    exact ⟨h3, h4, g3, g4, g5, k, by omega, g7⟩
  · exact REL_rst h h3 h4 h5
theorem ok_clear : Ok_clear REL := fun n σ τ hn h => by
  obtain ⟨r, σ', τ', h1, h2, h3, h4, h5⟩ := op_clear h.1 h.2.1
  refine ⟨r, σ', τ', h1, h2, ?_⟩
  rcases h5 with rfl | h5
  · obtain ⟨g1, g2, g3, g4, g5, k, g6, g7⟩ := h
    exact ⟨h3, h4, g3, g4, g5, k, by omega, g7⟩
  · exact REL_rst h h3 h4 h5
theorem ok_value : Ok_value REL := fun n σ τ hn h x1 x2 x3 => by
  obtain ⟨r, h1, h2⟩ := op_value h.1 h.2.1 x1 x2 x3
  exact ⟨r, h1, h2, REL_mono h⟩
theorem ok_cost : Ok_cost REL := fun n σ τ hn h x1 x2 => by
  obtain ⟨r, h1, h2⟩ := op_cost h.1 h.2.1 x1 x2
  exact ⟨r, h1, h2, REL_mono h⟩
theorem ok_count : Ok_count REL := fun n σ τ hn h x1 => by
  obtain ⟨r, h1, h2⟩ := op_count h.1 h.2.1 x1
  exact ⟨r, h1, h2, REL_mono h⟩
theorem ok_readings : Ok_readings REL := fun n σ τ hn h => by
  obtain ⟨r, σ', τ', h1, h2, h3, h4⟩ := op_readings h.1 h.2.1 h.2.2.1 h.2.2.2.1
  exact ⟨r, σ', τ', h1, h2, REL_look h h3 h4⟩
theorem ok_reading : Ok_reading REL := fun n σ τ hn h x1 x2 => by
  obtain ⟨r, σ', τ', h1, h2, h3, h4⟩ := op_reading h.1 h.2.1 h.2.2.1 h.2.2.2.1 x1 x2
  exact ⟨r, σ', τ', h1, h2, REL_look h h3 h4⟩
theorem ok_test : Ok_test REL := fun n σ τ hn h x1 x2 x3 => by
  obtain ⟨r, σ', τ', h1, h2, h3, h4⟩ := op_test h.1 h.2.1 h.2.2.1 h.2.2.2.1 x1 x2 x3
  exact ⟨r, σ', τ', h1, h2, REL_look h h3 h4⟩
theorem ok_answer : Ok_answer REL := fun n σ τ hn h x1 => by
  obtain ⟨r, σ', τ', h1, h2, h3, h4⟩ := op_answer h.1 h.2.1 h.2.2.1 h.2.2.2.1 x1
  exact ⟨r, σ', τ', h1, h2, REL_look h h3 h4⟩
theorem ok_found : Ok_found REL := fun n σ τ hn h x1 x2 => by
  obtain ⟨r, σ', τ', h1, h2, h3, h4⟩ := op_found h.1 h.2.1 h.2.2.1 h.2.2.2.1 x1 x2
  exact ⟨r, σ', τ', h1, h2, REL_look h h3 h4⟩
theorem ok_why : Ok_why REL := fun n σ τ hn h x1 => by
  obtain ⟨r, σ', τ', h1, h2, h3, h4⟩ := op_why h.1 h.2.1 h.2.2.1 h.2.2.2.1 x1
  exact ⟨r, σ', τ', h1, h2, REL_look h h3 h4⟩
theorem ok_answers : Ok_answers REL := fun n σ τ hn h x1 => by
  obtain ⟨g1, g2, g3, g4, g5, k, g6, g7⟩ := id h
  obtain ⟨r, σ', τ', h1, h2, h3, h4⟩ := op_answers g1 g2 g3 g4 g5 g7 (by omega) x1
  exact ⟨r, σ', τ', h1, h2, REL_AS h g6 h3 h4⟩
theorem ok_back : Ok_back REL := fun n σ τ hn h x1 => by
  obtain ⟨g1, g2, g3, g4, g5, k, g6, g7⟩ := id h
  obtain ⟨r, σ', τ', h1, h2, h3, h4⟩ := op_back g1 g2 g3 g4 g5 g7 (by omega) x1
  exact ⟨r, σ', τ', h1, h2, REL_AS h g6 h3 h4⟩
theorem ok_agree : Ok_agree REL := fun n σ τ hn h x1 x2 x3 => by
  obtain ⟨g1, g2, g3, g4, g5, k, g6, g7⟩ := id h
  obtain ⟨r, σ', τ', h1, h2, h3, h4⟩ := op_agree g1 g2 g3 g4 g5 g7 (by omega) x1 x2 x3
  exact ⟨r, σ', τ', h1, h2, REL_AS h g6 h3 h4⟩
theorem ok_take : Ok_take REL := fun n σ τ hn h x1 => by
  obtain ⟨r, σ', τ', h1, h2, h3⟩ := op_take h.1 h.2.1 h.2.2.1 h.2.2.2.1 x1
  refine ⟨r, σ', τ', h1, h2, ?_⟩
  rcases h3 with ⟨h3, h4⟩ | ⟨h3, h4, h5⟩
  · exact REL_look h h3 h4
  · exact REL_rst h h3 h4 h5
theorem REL_0 : REL 0 m0C m0M := by
  have z : nt (m0C 1 0) = 0 := rfl
  have z3 : ∀ t, nt (m0C 3 t) = 0 := fun _ => rfl
  have z7 : ∀ w, nt (m0C 7 w) = 0 := fun _ => rfl
  have z13 : nt (m0C 13 0) = 0 := rfl
  refine ⟨⟨⟨⟨0, by decide, rfl⟩, fun t _ => ⟨0, by decide, rfl⟩, fun t _ => ⟨0, by decide, rfl⟩, fun j hj => Or.inl (if_pos hj), fun j hj _ => if_pos hj, fun j hj => Or.inl (if_pos hj), fun t r c ht hr hc _ => if_pos (by omega), fun t _ _ => rfl⟩, ⟨fun w _ => ⟨0, by decide, rfl⟩, fun j _ => ⟨0, by decide, rfl⟩, fun j _ => ⟨0, by decide, rfl⟩, fun j _ => ⟨0, by decide, rfl⟩, fun j _ => ⟨0, by decide, rfl⟩, fun w k _ hk => by rw [z7] at hk; omega, rfl⟩, ⟨⟨0, by decide, rfl⟩, fun p _ => Or.inl rfl, fun p hp => by rw [z13] at hp; omega, fun p hp => by rw [z13] at hp; omega⟩⟩, ⟨⟨rfl, fun t ht => by rw [z] at ht; omega, fun t _ => rfl, fun j _ hj => by rw [z] at hj; omega, fun t r c _ hr _ => by rw [z3] at hr; omega⟩, ⟨fun _ _ => rfl, fun _ _ => rfl, fun _ _ => rfl, fun _ _ => rfl, fun _ _ => rfl, fun _ _ => rfl⟩, ⟨rfl, fun _ _ => rfl, fun _ _ => rfl⟩⟩, fun h => absurd rfl h, fun o fr ho hfr => Or.inl (if_pos (by omega)), ⟨0, Nat.zero_le _, rfl, fun i hi => absurd hi (by omega)⟩, 0, by decide, rfl, fun s _ => ⟨0, Nat.le_refl _, rfl⟩⟩
