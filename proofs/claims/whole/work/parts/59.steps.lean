/-! the steps of the calls that only ask the table -/
theorem RelM.awake {A : Abs} {st tape ltr kept lanes lens cells : Nat → Int32} {aw taped fault torn : Int32} (h : RelM A st tape ltr kept lanes lens cells aw taped fault torn) : RelM A (awk aw st) tape ltr kept lanes lens cells 1 taped fault torn := by
  obtain ⟨h1, h2, h3, h4, h5, h6⟩ := h
  have hq : mst A.1 (awk aw st) := mQ.st ⟨h1, h2⟩
  refine ⟨Or.inl ⟨rfl, hq.1⟩, hq.2, ⟨?_, ?_⟩, ⟨h4.1, fun k => ?_⟩, ⟨h5.1, fun k => ?_⟩, h6⟩
  · rw [awk_ne (by omega)]; exact h3.1
  · intro k hk; rw [awk_ne (by omega)]; exact h3.2 k hk
  · obtain ⟨⟨a, b⟩, c, d⟩ := h4.2 k
    refine ⟨⟨?_, ?_⟩, ?_, ?_⟩
    · rw [awk_ne (by omega)]; exact a
    · intro j hj; rw [awk_ne (by omega)]; exact b j hj
    · rw [awk_ne (by omega)]; exact c
    · intro j hj; rw [awk_ne (by omega)]; exact d j hj
  · obtain ⟨⟨a, b⟩, c, d⟩ := h5.2 k
    refine ⟨⟨?_, ?_⟩, ?_, ?_⟩
    · rw [awk_ne (by omega)]; exact a
    · intro j hj; rw [awk_ne (by omega)]; exact b j hj
    · rw [awk_ne (by omega)]; exact c
    · intro j hj; rw [awk_ne (by omega)]; exact d j hj
theorem t_far : St_far := by
  intro x1 x2 g_x_lastFault g_x_lastTear g_x_tape_length g_x_tape_bytes g_x_table_places g_x_table_squares g_x_way_parts g_x_way_lengths g_x_images_0_kept g_x_images_0_table_places g_x_images_0_table_squares g_x_images_0_way_parts g_x_images_0_way_lengths g_x_images_1_kept g_x_images_1_table_places g_x_images_1_table_squares g_x_images_1_way_parts g_x_images_1_way_lengths g_x_sheets_0_lane g_x_sheets_0_size g_x_sheets_0_cells g_x_sheets_1_lane g_x_sheets_1_size g_x_sheets_1_cells g_x_sheets_2_lane g_x_sheets_2_size g_x_sheets_2_cells g_x_sheets_3_lane g_x_sheets_3_size g_x_sheets_3_cells g_m_isAwake g_m_taped g_m_fault g_m_torn g_m_state g_m_tape g_m_letters g_m_isKept g_m_lanes g_m_lengths g_m_cells hI
  obtain ⟨A, hA, hX, hM⟩ := hI
  obtain ⟨r, h1, h2⟩ := q_far hA.1 hX.2.2.2.1 ⟨hM.1, hM.2.1⟩ x1 x2
  exact ⟨r, _, h1, h2, rfl, A, hA, hX, hM.awake⟩
theorem t_pair : St_pair := by
  intro x1 x2 g_x_lastFault g_x_lastTear g_x_tape_length g_x_tape_bytes g_x_table_places g_x_table_squares g_x_way_parts g_x_way_lengths g_x_images_0_kept g_x_images_0_table_places g_x_images_0_table_squares g_x_images_0_way_parts g_x_images_0_way_lengths g_x_images_1_kept g_x_images_1_table_places g_x_images_1_table_squares g_x_images_1_way_parts g_x_images_1_way_lengths g_x_sheets_0_lane g_x_sheets_0_size g_x_sheets_0_cells g_x_sheets_1_lane g_x_sheets_1_size g_x_sheets_1_cells g_x_sheets_2_lane g_x_sheets_2_size g_x_sheets_2_cells g_x_sheets_3_lane g_x_sheets_3_size g_x_sheets_3_cells g_m_isAwake g_m_taped g_m_fault g_m_torn g_m_state g_m_tape g_m_letters g_m_isKept g_m_lanes g_m_lengths g_m_cells hI
  obtain ⟨A, hA, hX, hM⟩ := hI
  exact ⟨_, _, rfl, q_pair hA.1 hX.2.2.2.1.1 ⟨hM.1, hM.2.1⟩ x1 x2, rfl, A, hA, hX, hM.awake⟩
theorem t_wide : St_wide := by
  intro x1 x2 x3 g_x_lastFault g_x_lastTear g_x_tape_length g_x_tape_bytes g_x_table_places g_x_table_squares g_x_way_parts g_x_way_lengths g_x_images_0_kept g_x_images_0_table_places g_x_images_0_table_squares g_x_images_0_way_parts g_x_images_0_way_lengths g_x_images_1_kept g_x_images_1_table_places g_x_images_1_table_squares g_x_images_1_way_parts g_x_images_1_way_lengths g_x_sheets_0_lane g_x_sheets_0_size g_x_sheets_0_cells g_x_sheets_1_lane g_x_sheets_1_size g_x_sheets_1_cells g_x_sheets_2_lane g_x_sheets_2_size g_x_sheets_2_cells g_x_sheets_3_lane g_x_sheets_3_size g_x_sheets_3_cells g_m_isAwake g_m_taped g_m_fault g_m_torn g_m_state g_m_tape g_m_letters g_m_isKept g_m_lanes g_m_lengths g_m_cells hI
  obtain ⟨A, hA, hX, hM⟩ := hI
  obtain ⟨r, h1, h2⟩ := q_wide hA.1 hX.2.2.2.1 ⟨hM.1, hM.2.1⟩ x1 x2 x3
  exact ⟨r, _, h1, h2, rfl, A, hA, hX, hM.awake⟩
theorem t_three : St_three := by
  intro x1 x2 x3 g_x_lastFault g_x_lastTear g_x_tape_length g_x_tape_bytes g_x_table_places g_x_table_squares g_x_way_parts g_x_way_lengths g_x_images_0_kept g_x_images_0_table_places g_x_images_0_table_squares g_x_images_0_way_parts g_x_images_0_way_lengths g_x_images_1_kept g_x_images_1_table_places g_x_images_1_table_squares g_x_images_1_way_parts g_x_images_1_way_lengths g_x_sheets_0_lane g_x_sheets_0_size g_x_sheets_0_cells g_x_sheets_1_lane g_x_sheets_1_size g_x_sheets_1_cells g_x_sheets_2_lane g_x_sheets_2_size g_x_sheets_2_cells g_x_sheets_3_lane g_x_sheets_3_size g_x_sheets_3_cells g_m_isAwake g_m_taped g_m_fault g_m_torn g_m_state g_m_tape g_m_letters g_m_isKept g_m_lanes g_m_lengths g_m_cells hI
  obtain ⟨A, hA, hX, hM⟩ := hI
  obtain ⟨r, h1, h2⟩ := q_three hA.1 hX.2.2.2.1 ⟨hM.1, hM.2.1⟩ x1 x2 x3
  exact ⟨r, _, h1, h2, rfl, A, hA, hX, hM.awake⟩
theorem t_four : St_four := by
  intro x1 x2 x3 x4 g_x_lastFault g_x_lastTear g_x_tape_length g_x_tape_bytes g_x_table_places g_x_table_squares g_x_way_parts g_x_way_lengths g_x_images_0_kept g_x_images_0_table_places g_x_images_0_table_squares g_x_images_0_way_parts g_x_images_0_way_lengths g_x_images_1_kept g_x_images_1_table_places g_x_images_1_table_squares g_x_images_1_way_parts g_x_images_1_way_lengths g_x_sheets_0_lane g_x_sheets_0_size g_x_sheets_0_cells g_x_sheets_1_lane g_x_sheets_1_size g_x_sheets_1_cells g_x_sheets_2_lane g_x_sheets_2_size g_x_sheets_2_cells g_x_sheets_3_lane g_x_sheets_3_size g_x_sheets_3_cells g_m_isAwake g_m_taped g_m_fault g_m_torn g_m_state g_m_tape g_m_letters g_m_isKept g_m_lanes g_m_lengths g_m_cells hI
  obtain ⟨A, hA, hX, hM⟩ := hI
  obtain ⟨r, h1, h2⟩ := q_four hA.1 hX.2.2.2.1 ⟨hM.1, hM.2.1⟩ x1 x2 x3 x4
  exact ⟨r, _, h1, h2, rfl, A, hA, hX, hM.awake⟩
theorem t_bend : St_bend := by
  intro x1 x2 x3 g_x_lastFault g_x_lastTear g_x_tape_length g_x_tape_bytes g_x_table_places g_x_table_squares g_x_way_parts g_x_way_lengths g_x_images_0_kept g_x_images_0_table_places g_x_images_0_table_squares g_x_images_0_way_parts g_x_images_0_way_lengths g_x_images_1_kept g_x_images_1_table_places g_x_images_1_table_squares g_x_images_1_way_parts g_x_images_1_way_lengths g_x_sheets_0_lane g_x_sheets_0_size g_x_sheets_0_cells g_x_sheets_1_lane g_x_sheets_1_size g_x_sheets_1_cells g_x_sheets_2_lane g_x_sheets_2_size g_x_sheets_2_cells g_x_sheets_3_lane g_x_sheets_3_size g_x_sheets_3_cells g_m_isAwake g_m_taped g_m_fault g_m_torn g_m_state g_m_tape g_m_letters g_m_isKept g_m_lanes g_m_lengths g_m_cells hI
  obtain ⟨A, hA, hX, hM⟩ := hI
  obtain ⟨r, h1, h2⟩ := q_bend hA.1 hX.2.2.2.1 ⟨hM.1, hM.2.1⟩ x1 x2 x3
  exact ⟨r, _, h1, h2, rfl, A, hA, hX, hM.awake⟩
theorem t_foot : St_foot := by
  intro x1 x2 x3 x4 g_x_lastFault g_x_lastTear g_x_tape_length g_x_tape_bytes g_x_table_places g_x_table_squares g_x_way_parts g_x_way_lengths g_x_images_0_kept g_x_images_0_table_places g_x_images_0_table_squares g_x_images_0_way_parts g_x_images_0_way_lengths g_x_images_1_kept g_x_images_1_table_places g_x_images_1_table_squares g_x_images_1_way_parts g_x_images_1_way_lengths g_x_sheets_0_lane g_x_sheets_0_size g_x_sheets_0_cells g_x_sheets_1_lane g_x_sheets_1_size g_x_sheets_1_cells g_x_sheets_2_lane g_x_sheets_2_size g_x_sheets_2_cells g_x_sheets_3_lane g_x_sheets_3_size g_x_sheets_3_cells g_m_isAwake g_m_taped g_m_fault g_m_torn g_m_state g_m_tape g_m_letters g_m_isKept g_m_lanes g_m_lengths g_m_cells hI
  obtain ⟨A, hA, hX, hM⟩ := hI
  obtain ⟨r, h1, h2⟩ := q_foot hA.1 hX.2.2.2.1 ⟨hM.1, hM.2.1⟩ x1 x2 x3 x4
  exact ⟨r, _, h1, h2, rfl, A, hA, hX, hM.awake⟩
theorem t_height : St_height := by
  intro x1 x2 x3 x4 g_x_lastFault g_x_lastTear g_x_tape_length g_x_tape_bytes g_x_table_places g_x_table_squares g_x_way_parts g_x_way_lengths g_x_images_0_kept g_x_images_0_table_places g_x_images_0_table_squares g_x_images_0_way_parts g_x_images_0_way_lengths g_x_images_1_kept g_x_images_1_table_places g_x_images_1_table_squares g_x_images_1_way_parts g_x_images_1_way_lengths g_x_sheets_0_lane g_x_sheets_0_size g_x_sheets_0_cells g_x_sheets_1_lane g_x_sheets_1_size g_x_sheets_1_cells g_x_sheets_2_lane g_x_sheets_2_size g_x_sheets_2_cells g_x_sheets_3_lane g_x_sheets_3_size g_x_sheets_3_cells g_m_isAwake g_m_taped g_m_fault g_m_torn g_m_state g_m_tape g_m_letters g_m_isKept g_m_lanes g_m_lengths g_m_cells hI
  obtain ⟨A, hA, hX, hM⟩ := hI
  obtain ⟨r, h1, h2⟩ := q_height hA.1 hX.2.2.2.1 ⟨hM.1, hM.2.1⟩ x1 x2 x3 x4
  exact ⟨r, _, h1, h2, rfl, A, hA, hX, hM.awake⟩
theorem t_round : St_round := by
  intro x1 x2 x3 x4 g_x_lastFault g_x_lastTear g_x_tape_length g_x_tape_bytes g_x_table_places g_x_table_squares g_x_way_parts g_x_way_lengths g_x_images_0_kept g_x_images_0_table_places g_x_images_0_table_squares g_x_images_0_way_parts g_x_images_0_way_lengths g_x_images_1_kept g_x_images_1_table_places g_x_images_1_table_squares g_x_images_1_way_parts g_x_images_1_way_lengths g_x_sheets_0_lane g_x_sheets_0_size g_x_sheets_0_cells g_x_sheets_1_lane g_x_sheets_1_size g_x_sheets_1_cells g_x_sheets_2_lane g_x_sheets_2_size g_x_sheets_2_cells g_x_sheets_3_lane g_x_sheets_3_size g_x_sheets_3_cells g_m_isAwake g_m_taped g_m_fault g_m_torn g_m_state g_m_tape g_m_letters g_m_isKept g_m_lanes g_m_lengths g_m_cells hI
  obtain ⟨A, hA, hX, hM⟩ := hI
  obtain ⟨r, h1, h2⟩ := q_round hA.1 hX.2.2.2.1 ⟨hM.1, hM.2.1⟩ x1 x2 x3 x4
  exact ⟨r, _, h1, h2, rfl, A, hA, hX, hM.awake⟩
theorem t_side : St_side := by
  intro x1 x2 x3 x4 g_x_lastFault g_x_lastTear g_x_tape_length g_x_tape_bytes g_x_table_places g_x_table_squares g_x_way_parts g_x_way_lengths g_x_images_0_kept g_x_images_0_table_places g_x_images_0_table_squares g_x_images_0_way_parts g_x_images_0_way_lengths g_x_images_1_kept g_x_images_1_table_places g_x_images_1_table_squares g_x_images_1_way_parts g_x_images_1_way_lengths g_x_sheets_0_lane g_x_sheets_0_size g_x_sheets_0_cells g_x_sheets_1_lane g_x_sheets_1_size g_x_sheets_1_cells g_x_sheets_2_lane g_x_sheets_2_size g_x_sheets_2_cells g_x_sheets_3_lane g_x_sheets_3_size g_x_sheets_3_cells g_m_isAwake g_m_taped g_m_fault g_m_torn g_m_state g_m_tape g_m_letters g_m_isKept g_m_lanes g_m_lengths g_m_cells hI
  obtain ⟨A, hA, hX, hM⟩ := hI
  obtain ⟨r, h1, h2⟩ := q_side hA.1 hX.2.2.2.1 ⟨hM.1, hM.2.1⟩ x1 x2 x3 x4
  exact ⟨r, _, h1, h2, rfl, A, hA, hX, hM.awake⟩
theorem t_within : St_within := by
  intro x1 x2 x3 x4 g_x_lastFault g_x_lastTear g_x_tape_length g_x_tape_bytes g_x_table_places g_x_table_squares g_x_way_parts g_x_way_lengths g_x_images_0_kept g_x_images_0_table_places g_x_images_0_table_squares g_x_images_0_way_parts g_x_images_0_way_lengths g_x_images_1_kept g_x_images_1_table_places g_x_images_1_table_squares g_x_images_1_way_parts g_x_images_1_way_lengths g_x_sheets_0_lane g_x_sheets_0_size g_x_sheets_0_cells g_x_sheets_1_lane g_x_sheets_1_size g_x_sheets_1_cells g_x_sheets_2_lane g_x_sheets_2_size g_x_sheets_2_cells g_x_sheets_3_lane g_x_sheets_3_size g_x_sheets_3_cells g_m_isAwake g_m_taped g_m_fault g_m_torn g_m_state g_m_tape g_m_letters g_m_isKept g_m_lanes g_m_lengths g_m_cells hI
  obtain ⟨A, hA, hX, hM⟩ := hI
  obtain ⟨r, h1, h2⟩ := q_within hA.1 hX.2.2.2.1 ⟨hM.1, hM.2.1⟩ x1 x2 x3 x4
  exact ⟨r, _, h1, h2, rfl, A, hA, hX, hM.awake⟩
theorem t_sixth : St_sixth := by
  intro x1 x2 x3 x4 x5 g_x_lastFault g_x_lastTear g_x_tape_length g_x_tape_bytes g_x_table_places g_x_table_squares g_x_way_parts g_x_way_lengths g_x_images_0_kept g_x_images_0_table_places g_x_images_0_table_squares g_x_images_0_way_parts g_x_images_0_way_lengths g_x_images_1_kept g_x_images_1_table_places g_x_images_1_table_squares g_x_images_1_way_parts g_x_images_1_way_lengths g_x_sheets_0_lane g_x_sheets_0_size g_x_sheets_0_cells g_x_sheets_1_lane g_x_sheets_1_size g_x_sheets_1_cells g_x_sheets_2_lane g_x_sheets_2_size g_x_sheets_2_cells g_x_sheets_3_lane g_x_sheets_3_size g_x_sheets_3_cells g_x_sixthOf_middle g_x_sixthOf_spread g_x_sixthOf_divisor g_m_isAwake g_m_taped g_m_fault g_m_torn g_m_state g_m_tape g_m_letters g_m_isKept g_m_lanes g_m_lengths g_m_cells hI
  obtain ⟨A, hA, hX, hM⟩ := hI
  obtain ⟨u, r, h1, h2, h3⟩ := q_sixth hA.1 hX.2.2.2.1 ⟨hM.1, hM.2.1⟩ x1 x2 x3 x4 x5 g_x_sixthOf_divisor g_x_sixthOf_middle g_x_sixthOf_spread
  exact ⟨u, _, h1, h2, h3, A, hA, hX, hM.awake⟩
theorem t_ends : St_ends := by
  intro x1 x2 x3 g_x_lastFault g_x_lastTear g_x_tape_length g_x_tape_bytes g_x_table_places g_x_table_squares g_x_way_parts g_x_way_lengths g_x_images_0_kept g_x_images_0_table_places g_x_images_0_table_squares g_x_images_0_way_parts g_x_images_0_way_lengths g_x_images_1_kept g_x_images_1_table_places g_x_images_1_table_squares g_x_images_1_way_parts g_x_images_1_way_lengths g_x_sheets_0_lane g_x_sheets_0_size g_x_sheets_0_cells g_x_sheets_1_lane g_x_sheets_1_size g_x_sheets_1_cells g_x_sheets_2_lane g_x_sheets_2_size g_x_sheets_2_cells g_x_sheets_3_lane g_x_sheets_3_size g_x_sheets_3_cells g_m_isAwake g_m_taped g_m_fault g_m_torn g_m_state g_m_tape g_m_letters g_m_isKept g_m_lanes g_m_lengths g_m_cells hI
  obtain ⟨A, hA, hX, hM⟩ := hI
  obtain ⟨r, h1, h2⟩ := q_ends hA.1 hX.2.2.2.1 ⟨hM.1, hM.2.1⟩ x1 x2 x3
  exact ⟨r, _, h1, h2, rfl, A, hA, hX, hM.awake⟩
theorem t_at : St_at := by
  intro x1 x2 x3 x4 g_x_lastFault g_x_lastTear g_x_tape_length g_x_tape_bytes g_x_table_places g_x_table_squares g_x_way_parts g_x_way_lengths g_x_images_0_kept g_x_images_0_table_places g_x_images_0_table_squares g_x_images_0_way_parts g_x_images_0_way_lengths g_x_images_1_kept g_x_images_1_table_places g_x_images_1_table_squares g_x_images_1_way_parts g_x_images_1_way_lengths g_x_sheets_0_lane g_x_sheets_0_size g_x_sheets_0_cells g_x_sheets_1_lane g_x_sheets_1_size g_x_sheets_1_cells g_x_sheets_2_lane g_x_sheets_2_size g_x_sheets_2_cells g_x_sheets_3_lane g_x_sheets_3_size g_x_sheets_3_cells g_m_isAwake g_m_taped g_m_fault g_m_torn g_m_state g_m_tape g_m_letters g_m_isKept g_m_lanes g_m_lengths g_m_cells hI
  obtain ⟨A, hA, hX, hM⟩ := hI
  obtain ⟨r, h1, h2⟩ := q_at hA.1 hX.2.2.2.1 ⟨hM.1, hM.2.1⟩ x1 x2 x3 x4
  exact ⟨r, _, h1, h2, rfl, A, hA, hX, hM.awake⟩
theorem t_spots : St_spots := by
  intro x1 x2 x3 x4 g_x_lastFault g_x_lastTear g_x_tape_length g_x_tape_bytes g_x_table_places g_x_table_squares g_x_way_parts g_x_way_lengths g_x_images_0_kept g_x_images_0_table_places g_x_images_0_table_squares g_x_images_0_way_parts g_x_images_0_way_lengths g_x_images_1_kept g_x_images_1_table_places g_x_images_1_table_squares g_x_images_1_way_parts g_x_images_1_way_lengths g_x_sheets_0_lane g_x_sheets_0_size g_x_sheets_0_cells g_x_sheets_1_lane g_x_sheets_1_size g_x_sheets_1_cells g_x_sheets_2_lane g_x_sheets_2_size g_x_sheets_2_cells g_x_sheets_3_lane g_x_sheets_3_size g_x_sheets_3_cells g_m_isAwake g_m_taped g_m_fault g_m_torn g_m_state g_m_tape g_m_letters g_m_isKept g_m_lanes g_m_lengths g_m_cells hI
  obtain ⟨A, hA, hX, hM⟩ := hI
  obtain ⟨r, h1, h2⟩ := q_spots hA.1 hX.2.2.2.1 ⟨hM.1, hM.2.1⟩ x1 x2 x3 x4
  exact ⟨r, _, h1, h2, rfl, A, hA, hX, hM.awake⟩
