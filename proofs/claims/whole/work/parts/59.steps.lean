/-! the steps of the calls that only ask the table -/
theorem RelM.awake {A : Abs} {st tape ltr kept lanes lens cells : Nat → Int32} {aw taped fault torn : Int32} (h : RelM A st tape ltr kept lanes lens cells aw taped fault torn) : RelM A (awk aw st) tape ltr kept lanes lens cells 1 taped fault torn := by
  obtain ⟨h1, h2, h3, h4, h5, h6, h7, h8, h9, s0, s1, s2, s3, _⟩ := h
  have hq : mst A.1 (awk aw st) := mQ.st ⟨h1, h2⟩
  refine ⟨Or.inl ⟨rfl, hq.1⟩, hq.2, ⟨?_, ?_⟩, ⟨h4.1, fun k => ?_⟩, ⟨h5.1, fun k => ?_⟩, h6, h7, h8, h9, s0, s1, s2, s3, fun z => absurd z (by decide)⟩
  · rw [awk_ne (by omega)]; exact h3.1
  · intro k hk; rw [awk_ne (by omega)]; exact h3.2 k hk
  · obtain ⟨⟨a, b⟩, c, d⟩ := h4.2 k
    refine ⟨⟨?_, ?_⟩, ?_, ?_⟩
    · rw [awk_ne (by omega)]; exact a
    · intro j hj; rw [awk_ne (by omega)]; exact b j hj
    · rw [awk_ne (by omega)]; exact c
    · intro j hj; rw [awk_ne (by omega)]; exact d j hj
  · obtain ⟨⟨a, b⟩, c, d⟩ := h5.2 k
    refine ⟨⟨?_, ?_⟩, ?_, ?_⟩
    · rw [awk_ne (by omega)]; exact a
    · intro j hj; rw [awk_ne (by omega)]; exact b j hj
    · rw [awk_ne (by omega)]; exact c
    · intro j hj; rw [awk_ne (by omega)]; exact d j hj
theorem tz_far : St_far := by
  intro x1 x2 g_x_lastFault g_x_lastTear g_x_tape_length g_x_tape_bytes g_x_table_places g_x_table_squares g_x_way_parts g_x_way_lengths g_x_images_0_kept g_x_images_0_table_places g_x_images_0_table_squares g_x_images_0_way_parts g_x_images_0_way_lengths g_x_images_1_kept g_x_images_1_table_places g_x_images_1_table_squares g_x_images_1_way_parts g_x_images_1_way_lengths g_x_sheets_0_lane g_x_sheets_0_size g_x_sheets_0_cells g_x_sheets_1_lane g_x_sheets_1_size g_x_sheets_1_cells g_x_sheets_2_lane g_x_sheets_2_size g_x_sheets_2_cells g_x_sheets_3_lane g_x_sheets_3_size g_x_sheets_3_cells g_m_isAwake g_m_taped g_m_fault g_m_torn g_m_state g_m_tape g_m_letters g_m_isKept g_m_lanes g_m_lengths g_m_cells hI
  obtain ⟨A, hA, hX, hM⟩ := hI
  obtain ⟨r, h1, h2⟩ := q_far hA.1 hX.2.2.2.1 ⟨hM.1, hM.2.1⟩ x1 x2
  exact ⟨r, _, h1, h2, rfl, A, hA, hX, hM.awake⟩
theorem tz_pair : St_pair := by
  intro x1 x2 g_x_lastFault g_x_lastTear g_x_tape_length g_x_tape_bytes g_x_table_places g_x_table_squares g_x_way_parts g_x_way_lengths g_x_images_0_kept g_x_images_0_table_places g_x_images_0_table_squares g_x_images_0_way_parts g_x_images_0_way_lengths g_x_images_1_kept g_x_images_1_table_places g_x_images_1_table_squares g_x_images_1_way_parts g_x_images_1_way_lengths g_x_sheets_0_lane g_x_sheets_0_size g_x_sheets_0_cells g_x_sheets_1_lane g_x_sheets_1_size g_x_sheets_1_cells g_x_sheets_2_lane g_x_sheets_2_size g_x_sheets_2_cells g_x_sheets_3_lane g_x_sheets_3_size g_x_sheets_3_cells g_m_isAwake g_m_taped g_m_fault g_m_torn g_m_state g_m_tape g_m_letters g_m_isKept g_m_lanes g_m_lengths g_m_cells hI
  obtain ⟨A, hA, hX, hM⟩ := hI
  exact ⟨_, _, rfl, q_pair hA.1 hX.2.2.2.1.1 ⟨hM.1, hM.2.1⟩ x1 x2, rfl, A, hA, hX, hM.awake⟩
theorem tz_wide : St_wide := by
  intro x1 x2 x3 g_x_lastFault g_x_lastTear g_x_tape_length g_x_tape_bytes g_x_table_places g_x_table_squares g_x_way_parts g_x_way_lengths g_x_images_0_kept g_x_images_0_table_places g_x_images_0_table_squares g_x_images_0_way_parts g_x_images_0_way_lengths g_x_images_1_kept g_x_images_1_table_places g_x_images_1_table_squares g_x_images_1_way_parts g_x_images_1_way_lengths g_x_sheets_0_lane g_x_sheets_0_size g_x_sheets_0_cells g_x_sheets_1_lane g_x_sheets_1_size g_x_sheets_1_cells g_x_sheets_2_lane g_x_sheets_2_size g_x_sheets_2_cells g_x_sheets_3_lane g_x_sheets_3_size g_x_sheets_3_cells g_m_isAwake g_m_taped g_m_fault g_m_torn g_m_state g_m_tape g_m_letters g_m_isKept g_m_lanes g_m_lengths g_m_cells hI
  obtain ⟨A, hA, hX, hM⟩ := hI
  obtain ⟨r, h1, h2⟩ := q_wide hA.1 hX.2.2.2.1 ⟨hM.1, hM.2.1⟩ x1 x2 x3
  exact ⟨r, _, h1, h2, rfl, A, hA, hX, hM.awake⟩
theorem tz_three : St_three := by
  intro x1 x2 x3 g_x_lastFault g_x_lastTear g_x_tape_length g_x_tape_bytes g_x_table_places g_x_table_squares g_x_way_parts g_x_way_lengths g_x_images_0_kept g_x_images_0_table_places g_x_images_0_table_squares g_x_images_0_way_parts g_x_images_0_way_lengths g_x_images_1_kept g_x_images_1_table_places g_x_images_1_table_squares g_x_images_1_way_parts g_x_images_1_way_lengths g_x_sheets_0_lane g_x_sheets_0_size g_x_sheets_0_cells g_x_sheets_1_lane g_x_sheets_1_size g_x_sheets_1_cells g_x_sheets_2_lane g_x_sheets_2_size g_x_sheets_2_cells g_x_sheets_3_lane g_x_sheets_3_size g_x_sheets_3_cells g_m_isAwake g_m_taped g_m_fault g_m_torn g_m_state g_m_tape g_m_letters g_m_isKept g_m_lanes g_m_lengths g_m_cells hI
  obtain ⟨A, hA, hX, hM⟩ := hI
  obtain ⟨r, h1, h2⟩ := q_three hA.1 hX.2.2.2.1 ⟨hM.1, hM.2.1⟩ x1 x2 x3
  exact ⟨r, _, h1, h2, rfl, A, hA, hX, hM.awake⟩
theorem tz_four : St_four := by
  intro x1 x2 x3 x4 g_x_lastFault g_x_lastTear g_x_tape_length g_x_tape_bytes g_x_table_places g_x_table_squares g_x_way_parts g_x_way_lengths g_x_images_0_kept g_x_images_0_table_places g_x_images_0_table_squares g_x_images_0_way_parts g_x_images_0_way_lengths g_x_images_1_kept g_x_images_1_table_places g_x_images_1_table_squares g_x_images_1_way_parts g_x_images_1_way_lengths g_x_sheets_0_lane g_x_sheets_0_size g_x_sheets_0_cells g_x_sheets_1_lane g_x_sheets_1_size g_x_sheets_1_cells g_x_sheets_2_lane g_x_sheets_2_size g_x_sheets_2_cells g_x_sheets_3_lane g_x_sheets_3_size g_x_sheets_3_cells g_m_isAwake g_m_taped g_m_fault g_m_torn g_m_state g_m_tape g_m_letters g_m_isKept g_m_lanes g_m_lengths g_m_cells hI
  obtain ⟨A, hA, hX, hM⟩ := hI
  obtain ⟨r, h1, h2⟩ := q_four hA.1 hX.2.2.2.1 ⟨hM.1, hM.2.1⟩ x1 x2 x3 x4
  exact ⟨r, _, h1, h2, rfl, A, hA, hX, hM.awake⟩
theorem tz_bend : St_bend := by
  intro x1 x2 x3 g_x_lastFault g_x_lastTear g_x_tape_length g_x_tape_bytes g_x_table_places g_x_table_squares g_x_way_parts g_x_way_lengths g_x_images_0_kept g_x_images_0_table_places g_x_images_0_table_squares g_x_images_0_way_parts g_x_images_0_way_lengths g_x_images_1_kept g_x_images_1_table_places g_x_images_1_table_squares g_x_images_1_way_parts g_x_images_1_way_lengths g_x_sheets_0_lane g_x_sheets_0_size g_x_sheets_0_cells g_x_sheets_1_lane g_x_sheets_1_size g_x_sheets_1_cells g_x_sheets_2_lane g_x_sheets_2_size g_x_sheets_2_cells g_x_sheets_3_lane g_x_sheets_3_size g_x_sheets_3_cells g_m_isAwake g_m_taped g_m_fault g_m_torn g_m_state g_m_tape g_m_letters g_m_isKept g_m_lanes g_m_lengths g_m_cells hI
  obtain ⟨A, hA, hX, hM⟩ := hI
  obtain ⟨r, h1, h2⟩ := q_bend hA.1 hX.2.2.2.1 ⟨hM.1, hM.2.1⟩ x1 x2 x3
  exact ⟨r, _, h1, h2, rfl, A, hA, hX, hM.awake⟩
theorem tz_foot : St_foot := by
  intro x1 x2 x3 x4 g_x_lastFault g_x_lastTear g_x_tape_length g_x_tape_bytes g_x_table_places g_x_table_squares g_x_way_parts g_x_way_lengths g_x_images_0_kept g_x_images_0_table_places g_x_images_0_table_squares g_x_images_0_way_parts g_x_images_0_way_lengths g_x_images_1_kept g_x_images_1_table_places g_x_images_1_table_squares g_x_images_1_way_parts g_x_images_1_way_lengths g_x_sheets_0_lane g_x_sheets_0_size g_x_sheets_0_cells g_x_sheets_1_lane g_x_sheets_1_size g_x_sheets_1_cells g_x_sheets_2_lane g_x_sheets_2_size g_x_sheets_2_cells g_x_sheets_3_lane g_x_sheets_3_size g_x_sheets_3_cells g_m_isAwake g_m_taped g_m_fault g_m_torn g_m_state g_m_tape g_m_letters g_m_isKept g_m_lanes g_m_lengths g_m_cells hI
  obtain ⟨A, hA, hX, hM⟩ := hI
  obtain ⟨r, h1, h2⟩ := q_foot hA.1 hX.2.2.2.1 ⟨hM.1, hM.2.1⟩ x1 x2 x3 x4
  exact ⟨r, _, h1, h2, rfl, A, hA, hX, hM.awake⟩
theorem tz_height : St_height := by
  intro x1 x2 x3 x4 g_x_lastFault g_x_lastTear g_x_tape_length g_x_tape_bytes g_x_table_places g_x_table_squares g_x_way_parts g_x_way_lengths g_x_images_0_kept g_x_images_0_table_places g_x_images_0_table_squares g_x_images_0_way_parts g_x_images_0_way_lengths g_x_images_1_kept g_x_images_1_table_places g_x_images_1_table_squares g_x_images_1_way_parts g_x_images_1_way_lengths g_x_sheets_0_lane g_x_sheets_0_size g_x_sheets_0_cells g_x_sheets_1_lane g_x_sheets_1_size g_x_sheets_1_cells g_x_sheets_2_lane g_x_sheets_2_size g_x_sheets_2_cells g_x_sheets_3_lane g_x_sheets_3_size g_x_sheets_3_cells g_m_isAwake g_m_taped g_m_fault g_m_torn g_m_state g_m_tape g_m_letters g_m_isKept g_m_lanes g_m_lengths g_m_cells hI
  obtain ⟨A, hA, hX, hM⟩ := hI
  obtain ⟨r, h1, h2⟩ := q_height hA.1 hX.2.2.2.1 ⟨hM.1, hM.2.1⟩ x1 x2 x3 x4
  exact ⟨r, _, h1, h2, rfl, A, hA, hX, hM.awake⟩
theorem tz_round : St_round := by
  intro x1 x2 x3 x4 g_x_lastFault g_x_lastTear g_x_tape_length g_x_tape_bytes g_x_table_places g_x_table_squares g_x_way_parts g_x_way_lengths g_x_images_0_kept g_x_images_0_table_places g_x_images_0_table_squares g_x_images_0_way_parts g_x_images_0_way_lengths g_x_images_1_kept g_x_images_1_table_places g_x_images_1_table_squares g_x_images_1_way_parts g_x_images_1_way_lengths g_x_sheets_0_lane g_x_sheets_0_size g_x_sheets_0_cells g_x_sheets_1_lane g_x_sheets_1_size g_x_sheets_1_cells g_x_sheets_2_lane g_x_sheets_2_size g_x_sheets_2_cells g_x_sheets_3_lane g_x_sheets_3_size g_x_sheets_3_cells g_m_isAwake g_m_taped g_m_fault g_m_torn g_m_state g_m_tape g_m_letters g_m_isKept g_m_lanes g_m_lengths g_m_cells hI
  obtain ⟨A, hA, hX, hM⟩ := hI
  obtain ⟨r, h1, h2⟩ := q_round hA.1 hX.2.2.2.1 ⟨hM.1, hM.2.1⟩ x1 x2 x3 x4
  exact ⟨r, _, h1, h2, rfl, A, hA, hX, hM.awake⟩
theorem tz_side : St_side := by
  intro x1 x2 x3 x4 g_x_lastFault g_x_lastTear g_x_tape_length g_x_tape_bytes g_x_table_places g_x_table_squares g_x_way_parts g_x_way_lengths g_x_images_0_kept g_x_images_0_table_places g_x_images_0_table_squares g_x_images_0_way_parts g_x_images_0_way_lengths g_x_images_1_kept g_x_images_1_table_places g_x_images_1_table_squares g_x_images_1_way_parts g_x_images_1_way_lengths g_x_sheets_0_lane g_x_sheets_0_size g_x_sheets_0_cells g_x_sheets_1_lane g_x_sheets_1_size g_x_sheets_1_cells g_x_sheets_2_lane g_x_sheets_2_size g_x_sheets_2_cells g_x_sheets_3_lane g_x_sheets_3_size g_x_sheets_3_cells g_m_isAwake g_m_taped g_m_fault g_m_torn g_m_state g_m_tape g_m_letters g_m_isKept g_m_lanes g_m_lengths g_m_cells hI
  obtain ⟨A, hA, hX, hM⟩ := hI
  obtain ⟨r, h1, h2⟩ := q_side hA.1 hX.2.2.2.1 ⟨hM.1, hM.2.1⟩ x1 x2 x3 x4
  exact ⟨r, _, h1, h2, rfl, A, hA, hX, hM.awake⟩
theorem tz_within : St_within := by
  intro x1 x2 x3 x4 g_x_lastFault g_x_lastTear g_x_tape_length g_x_tape_bytes g_x_table_places g_x_table_squares g_x_way_parts g_x_way_lengths g_x_images_0_kept g_x_images_0_table_places g_x_images_0_table_squares g_x_images_0_way_parts g_x_images_0_way_lengths g_x_images_1_kept g_x_images_1_table_places g_x_images_1_table_squares g_x_images_1_way_parts g_x_images_1_way_lengths g_x_sheets_0_lane g_x_sheets_0_size g_x_sheets_0_cells g_x_sheets_1_lane g_x_sheets_1_size g_x_sheets_1_cells g_x_sheets_2_lane g_x_sheets_2_size g_x_sheets_2_cells g_x_sheets_3_lane g_x_sheets_3_size g_x_sheets_3_cells g_m_isAwake g_m_taped g_m_fault g_m_torn g_m_state g_m_tape g_m_letters g_m_isKept g_m_lanes g_m_lengths g_m_cells hI
  obtain ⟨A, hA, hX, hM⟩ := hI
  obtain ⟨r, h1, h2⟩ := q_within hA.1 hX.2.2.2.1 ⟨hM.1, hM.2.1⟩ x1 x2 x3 x4
  exact ⟨r, _, h1, h2, rfl, A, hA, hX, hM.awake⟩
theorem tz_sixth : St_sixth := by
  intro x1 x2 x3 x4 x5 g_x_lastFault g_x_lastTear g_x_tape_length g_x_tape_bytes g_x_table_places g_x_table_squares g_x_way_parts g_x_way_lengths g_x_images_0_kept g_x_images_0_table_places g_x_images_0_table_squares g_x_images_0_way_parts g_x_images_0_way_lengths g_x_images_1_kept g_x_images_1_table_places g_x_images_1_table_squares g_x_images_1_way_parts g_x_images_1_way_lengths g_x_sheets_0_lane g_x_sheets_0_size g_x_sheets_0_cells g_x_sheets_1_lane g_x_sheets_1_size g_x_sheets_1_cells g_x_sheets_2_lane g_x_sheets_2_size g_x_sheets_2_cells g_x_sheets_3_lane g_x_sheets_3_size g_x_sheets_3_cells g_x_sixthOf_middle g_x_sixthOf_spread g_x_sixthOf_divisor g_m_isAwake g_m_taped g_m_fault g_m_torn g_m_state g_m_tape g_m_letters g_m_isKept g_m_lanes g_m_lengths g_m_cells hI
  obtain ⟨A, hA, hX, hM⟩ := hI
  obtain ⟨u, r, h1, h2, h3⟩ := q_sixth hA.1 hX.2.2.2.1 ⟨hM.1, hM.2.1⟩ x1 x2 x3 x4 x5 g_x_sixthOf_divisor g_x_sixthOf_middle g_x_sixthOf_spread
  exact ⟨u, _, h1, h2, h3, A, hA, hX, hM.awake⟩
theorem tz_ends : St_ends := by
  intro x1 x2 x3 g_x_lastFault g_x_lastTear g_x_tape_length g_x_tape_bytes g_x_table_places g_x_table_squares g_x_way_parts g_x_way_lengths g_x_images_0_kept g_x_images_0_table_places g_x_images_0_table_squares g_x_images_0_way_parts g_x_images_0_way_lengths g_x_images_1_kept g_x_images_1_table_places g_x_images_1_table_squares g_x_images_1_way_parts g_x_images_1_way_lengths g_x_sheets_0_lane g_x_sheets_0_size g_x_sheets_0_cells g_x_sheets_1_lane g_x_sheets_1_size g_x_sheets_1_cells g_x_sheets_2_lane g_x_sheets_2_size g_x_sheets_2_cells g_x_sheets_3_lane g_x_sheets_3_size g_x_sheets_3_cells g_m_isAwake g_m_taped g_m_fault g_m_torn g_m_state g_m_tape g_m_letters g_m_isKept g_m_lanes g_m_lengths g_m_cells hI
  obtain ⟨A, hA, hX, hM⟩ := hI
  obtain ⟨r, h1, h2⟩ := q_ends hA.1 hX.2.2.2.1 ⟨hM.1, hM.2.1⟩ x1 x2 x3
  exact ⟨r, _, h1, h2, rfl, A, hA, hX, hM.awake⟩
theorem tz_at : St_at := by
  intro x1 x2 x3 x4 g_x_lastFault g_x_lastTear g_x_tape_length g_x_tape_bytes g_x_table_places g_x_table_squares g_x_way_parts g_x_way_lengths g_x_images_0_kept g_x_images_0_table_places g_x_images_0_table_squares g_x_images_0_way_parts g_x_images_0_way_lengths g_x_images_1_kept g_x_images_1_table_places g_x_images_1_table_squares g_x_images_1_way_parts g_x_images_1_way_lengths g_x_sheets_0_lane g_x_sheets_0_size g_x_sheets_0_cells g_x_sheets_1_lane g_x_sheets_1_size g_x_sheets_1_cells g_x_sheets_2_lane g_x_sheets_2_size g_x_sheets_2_cells g_x_sheets_3_lane g_x_sheets_3_size g_x_sheets_3_cells g_m_isAwake g_m_taped g_m_fault g_m_torn g_m_state g_m_tape g_m_letters g_m_isKept g_m_lanes g_m_lengths g_m_cells hI
  obtain ⟨A, hA, hX, hM⟩ := hI
  obtain ⟨r, h1, h2⟩ := q_at hA.1 hX.2.2.2.1 ⟨hM.1, hM.2.1⟩ x1 x2 x3 x4
  exact ⟨r, _, h1, h2, rfl, A, hA, hX, hM.awake⟩
theorem tz_spots : St_spots := by
  intro x1 x2 x3 x4 g_x_lastFault g_x_lastTear g_x_tape_length g_x_tape_bytes g_x_table_places g_x_table_squares g_x_way_parts g_x_way_lengths g_x_images_0_kept g_x_images_0_table_places g_x_images_0_table_squares g_x_images_0_way_parts g_x_images_0_way_lengths g_x_images_1_kept g_x_images_1_table_places g_x_images_1_table_squares g_x_images_1_way_parts g_x_images_1_way_lengths g_x_sheets_0_lane g_x_sheets_0_size g_x_sheets_0_cells g_x_sheets_1_lane g_x_sheets_1_size g_x_sheets_1_cells g_x_sheets_2_lane g_x_sheets_2_size g_x_sheets_2_cells g_x_sheets_3_lane g_x_sheets_3_size g_x_sheets_3_cells g_m_isAwake g_m_taped g_m_fault g_m_torn g_m_state g_m_tape g_m_letters g_m_isKept g_m_lanes g_m_lengths g_m_cells hI
  obtain ⟨A, hA, hX, hM⟩ := hI
  obtain ⟨r, h1, h2⟩ := q_spots hA.1 hX.2.2.2.1 ⟨hM.1, hM.2.1⟩ x1 x2 x3 x4
  exact ⟨r, _, h1, h2, rfl, A, hA, hX, hM.awake⟩
theorem tz_tells : St_tells := by
  intro x1 x2 g_x_lastFault g_x_lastTear g_x_tape_length g_x_tape_bytes g_x_table_places g_x_table_squares g_x_way_parts g_x_way_lengths g_x_images_0_kept g_x_images_0_table_places g_x_images_0_table_squares g_x_images_0_way_parts g_x_images_0_way_lengths g_x_images_1_kept g_x_images_1_table_places g_x_images_1_table_squares g_x_images_1_way_parts g_x_images_1_way_lengths g_x_sheets_0_lane g_x_sheets_0_size g_x_sheets_0_cells g_x_sheets_1_lane g_x_sheets_1_size g_x_sheets_1_cells g_x_sheets_2_lane g_x_sheets_2_size g_x_sheets_2_cells g_x_sheets_3_lane g_x_sheets_3_size g_x_sheets_3_cells g_m_isAwake g_m_taped g_m_fault g_m_torn g_m_state g_m_tape g_m_letters g_m_isKept g_m_lanes g_m_lengths g_m_cells hI
  obtain ⟨A, hA, hX, hM⟩ := hI
  obtain ⟨r, h1, h2⟩ := q_tells hA.1 hX.2.2.2.1 ⟨hM.1, hM.2.1⟩ x1 x2
  exact ⟨r, _, h1, h2, rfl, A, hA, hX, hM.awake⟩
theorem tz_words : St_words := by
  intro x1 x2 g_x_lastFault g_x_lastTear g_x_tape_length g_x_tape_bytes g_x_table_places g_x_table_squares g_x_way_parts g_x_way_lengths g_x_images_0_kept g_x_images_0_table_places g_x_images_0_table_squares g_x_images_0_way_parts g_x_images_0_way_lengths g_x_images_1_kept g_x_images_1_table_places g_x_images_1_table_squares g_x_images_1_way_parts g_x_images_1_way_lengths g_x_sheets_0_lane g_x_sheets_0_size g_x_sheets_0_cells g_x_sheets_1_lane g_x_sheets_1_size g_x_sheets_1_cells g_x_sheets_2_lane g_x_sheets_2_size g_x_sheets_2_cells g_x_sheets_3_lane g_x_sheets_3_size g_x_sheets_3_cells g_m_isAwake g_m_taped g_m_fault g_m_torn g_m_state g_m_tape g_m_letters g_m_isKept g_m_lanes g_m_lengths g_m_cells hI
  obtain ⟨A, hA, hX, hM⟩ := hI
  obtain ⟨r, h1, h2⟩ := q_words hA.1 hX.2.2.2.1 ⟨hM.1, hM.2.1⟩ x1 x2
  exact ⟨r, _, h1, h2, rfl, A, hA, hX, hM.awake⟩
/-! the steps of the other calls -/
theorem tz_end : St_end := by
  intro x1 g_x_lastFault g_x_lastTear g_x_tape_length g_x_tape_bytes g_x_table_places g_x_table_squares g_x_way_parts g_x_way_lengths g_x_images_0_kept g_x_images_0_table_places g_x_images_0_table_squares g_x_images_0_way_parts g_x_images_0_way_lengths g_x_images_1_kept g_x_images_1_table_places g_x_images_1_table_squares g_x_images_1_way_parts g_x_images_1_way_lengths g_x_sheets_0_lane g_x_sheets_0_size g_x_sheets_0_cells g_x_sheets_1_lane g_x_sheets_1_size g_x_sheets_1_cells g_x_sheets_2_lane g_x_sheets_2_size g_x_sheets_2_cells g_x_sheets_3_lane g_x_sheets_3_size g_x_sheets_3_cells g_m_isAwake g_m_taped g_m_fault g_m_torn g_m_state g_m_tape g_m_letters g_m_isKept g_m_lanes g_m_lengths g_m_cells hI
  obtain ⟨A, ⟨oT, oR, oI, oB, oS⟩, ⟨xF, xE, xB, xR⟩, ⟨m1, m2, m3, m4, m5, m6, m7⟩⟩ := hI
  have h0 := oB.1
  have e1 : X11_in x1.toInt64 0 g_m_taped.toInt64 = b2 (rng 0 A.2.2.2.1.1 x1) := by
    rw [m6.1, nI_l (by omega)]; exact in_g (lo := 0) (by decide) (by omega) x1
  cases h : rng 0 A.2.2.2.1.1 x1 with
  | false =>
    refine ⟨(-1, g_x_tape_length), (-1, g_m_taped), ?_, ?_, rfl, A, ⟨oT, oR, oI, oB, oS⟩, ⟨xF, xE, xB, xR⟩, ⟨m1, m2, m3, m4, m5, m6, m7⟩⟩
    · unfold X10_end; rw [xB.1]
      unfold rng at h
      rw [nI_0] at h
      split
      · rfl
      · rename_i q
        rw [if_neg (fun z => by simp [q, z] at h)]
    · unfold X11_end; rw [e1, h, ifb_f]
  | true =>
    obtain ⟨j, _, h2, rfl⟩ := rng_of (by decide) (by omega) h
    refine ⟨(g_x_tape_length, nI j), (g_m_taped, nI j), ?_, ?_, ?_, (A.1, A.2.1, A.2.2.1, (j, A.2.2.2.1.2), A.2.2.2.2), ⟨oT, oR, oI, ⟨Nat.le_trans h2 h0, oB.2⟩, oS⟩, ⟨xF, xE, ⟨rfl, fun k hk => xB.2 k (Nat.lt_of_lt_of_le hk h2)⟩, xR⟩, ⟨m1, m2, m3, m4, m5, ⟨rfl, fun k hk => m6.2 k (Nat.lt_of_lt_of_le hk h2)⟩, m7⟩⟩
    · unfold X10_end; rw [if_neg (nI_pos (by omega)), if_pos (by rw [xB.1]; exact nI_le h2 (by omega))]
    · unfold X11_end; rw [e1, h, ifb_t]
    · show g_x_tape_length = g_m_taped; rw [xB.1, m6.1]
theorem tz_fault : St_fault := by
  intro g_x_lastFault g_x_lastTear g_x_tape_length g_x_tape_bytes g_x_table_places g_x_table_squares g_x_way_parts g_x_way_lengths g_x_images_0_kept g_x_images_0_table_places g_x_images_0_table_squares g_x_images_0_way_parts g_x_images_0_way_lengths g_x_images_1_kept g_x_images_1_table_places g_x_images_1_table_squares g_x_images_1_way_parts g_x_images_1_way_lengths g_x_sheets_0_lane g_x_sheets_0_size g_x_sheets_0_cells g_x_sheets_1_lane g_x_sheets_1_size g_x_sheets_1_cells g_x_sheets_2_lane g_x_sheets_2_size g_x_sheets_2_cells g_x_sheets_3_lane g_x_sheets_3_size g_x_sheets_3_cells g_m_isAwake g_m_taped g_m_fault g_m_torn g_m_state g_m_tape g_m_letters g_m_isKept g_m_lanes g_m_lengths g_m_cells hI
  obtain ⟨A, hA, hX, hM⟩ := hI
  exact ⟨_, _, rfl, rfl, by unfold X10_fault X11_fault; rw [hX.1, hM.2.2.2.2.2.2.1], A, hA, hX, hM⟩
theorem tz_torn : St_torn := by
  intro g_x_lastFault g_x_lastTear g_x_tape_length g_x_tape_bytes g_x_table_places g_x_table_squares g_x_way_parts g_x_way_lengths g_x_images_0_kept g_x_images_0_table_places g_x_images_0_table_squares g_x_images_0_way_parts g_x_images_0_way_lengths g_x_images_1_kept g_x_images_1_table_places g_x_images_1_table_squares g_x_images_1_way_parts g_x_images_1_way_lengths g_x_sheets_0_lane g_x_sheets_0_size g_x_sheets_0_cells g_x_sheets_1_lane g_x_sheets_1_size g_x_sheets_1_cells g_x_sheets_2_lane g_x_sheets_2_size g_x_sheets_2_cells g_x_sheets_3_lane g_x_sheets_3_size g_x_sheets_3_cells g_m_isAwake g_m_taped g_m_fault g_m_torn g_m_state g_m_tape g_m_letters g_m_isKept g_m_lanes g_m_lengths g_m_cells hI
  obtain ⟨A, hA, hX, hM⟩ := hI
  exact ⟨_, _, rfl, rfl, by unfold X10_torn X11_torn; rw [hX.2.1, hM.2.2.2.2.2.2.2.1], A, hA, hX, hM⟩
/-- cells of the reference above the table, unchanged -/
theorem mR_c {R : Tab} {st st' : Nat → Int32} {o o' : Nat} (h8 : R.1 ≤ 8) (h : ∀ j, j < 32 → st' (o' + j) = st (o + j)) (hm : mR R st o) : mR R st' o' := by
  refine ⟨by rw [h 30 (by omega)]; exact hm.1, fun k hk => by rw [h (22 + k) (by omega)]; exact hm.2 k hk⟩
theorem mT_c {T : Tab} {st st' : Nat → Int32} {o o' : Nat} (h : ∀ j, j < 32 → st' (o' + j) = st (o + j)) (hm : mT T st o) : mT T st' o' := by
  refine ⟨by rw [h 21 (by omega)]; exact hm.1, fun k hk => by rw [h k (by omega)]; exact hm.2 k hk⟩
theorem mI_c {i : Bool × Tab × Tab} {kp : Int32} {st st' : Nat → Int32} {o : Nat} (ok : okI i) (h : ∀ j, j < 32 → st' (o + j) = st (o + j)) (hm : mI i kp st o) : mI i kp st' o :=
  ⟨hm.1, fun z => ⟨mT_c h (hm.2 z).1, mR_c (ok z).2.1 h (hm.2 z).2⟩⟩
theorem mA_c {T : Tab} {aw : Int32} {st st' : Nat → Int32} (h : st' 21 = st 21) (hm : mA T aw st) : mA T aw st' := by
  unfold mA at *; rw [h]; exact hm
theorem tz_clear : St_clear := by
  intro g_x_lastFault g_x_lastTear g_x_tape_length g_x_tape_bytes g_x_table_places g_x_table_squares g_x_way_parts g_x_way_lengths g_x_images_0_kept g_x_images_0_table_places g_x_images_0_table_squares g_x_images_0_way_parts g_x_images_0_way_lengths g_x_images_1_kept g_x_images_1_table_places g_x_images_1_table_squares g_x_images_1_way_parts g_x_images_1_way_lengths g_x_sheets_0_lane g_x_sheets_0_size g_x_sheets_0_cells g_x_sheets_1_lane g_x_sheets_1_size g_x_sheets_1_cells g_x_sheets_2_lane g_x_sheets_2_size g_x_sheets_2_cells g_x_sheets_3_lane g_x_sheets_3_size g_x_sheets_3_cells g_m_isAwake g_m_taped g_m_fault g_m_torn g_m_state g_m_tape g_m_letters g_m_isKept g_m_lanes g_m_lengths g_m_cells hI
  obtain ⟨A, ⟨oT, oR, oI, oB⟩, ⟨xF, xE, xB, xT, xR, xI⟩, ⟨m1, m2, m3, m4, m5, m6⟩⟩ := hI
  have u21 : ∀ k, k ≠ 30 → upd g_m_state 30 0 k = g_m_state k := fun k h => by unfold upd; rw [if_neg h]
  refine ⟨_, _, rfl, rfl, ?_, (A.1, (0, A.2.1.2), A.2.2), ⟨oT, ⟨Nat.zero_le 8, fun k hk => absurd hk (Nat.not_lt_zero k)⟩, oI, oB⟩, ⟨xF, xE, xB, xT, ⟨rfl, fun k hk => absurd hk (Nat.not_lt_zero k)⟩, xI⟩, ⟨?_, ?_, ⟨?_, fun k hk => absurd hk (Nat.not_lt_zero k)⟩, ?_, ?_, m6⟩⟩
  · show g_x_way_parts = g_m_state 30
    rw [xR.1]; exact m3.1.symm
  · exact mA_c (u21 21 (by omega)) m1
  · intro k hk; show upd g_m_state 30 0 k = _; rw [u21 k (by omega)]; exact m2 k hk
  · show upd g_m_state 30 0 30 = _; unfold upd; rw [if_pos rfl]; rfl
  · exact mI_c oI.1 (fun j hj => u21 _ (by omega)) m4
  · exact mI_c oI.2 (fun j hj => u21 _ (by omega)) m5
theorem tz_part : St_part := by
  intro x1 g_x_lastFault g_x_lastTear g_x_tape_length g_x_tape_bytes g_x_table_places g_x_table_squares g_x_way_parts g_x_way_lengths g_x_images_0_kept g_x_images_0_table_places g_x_images_0_table_squares g_x_images_0_way_parts g_x_images_0_way_lengths g_x_images_1_kept g_x_images_1_table_places g_x_images_1_table_squares g_x_images_1_way_parts g_x_images_1_way_lengths g_x_sheets_0_lane g_x_sheets_0_size g_x_sheets_0_cells g_x_sheets_1_lane g_x_sheets_1_size g_x_sheets_1_cells g_x_sheets_2_lane g_x_sheets_2_size g_x_sheets_2_cells g_x_sheets_3_lane g_x_sheets_3_size g_x_sheets_3_cells g_m_isAwake g_m_taped g_m_fault g_m_torn g_m_state g_m_tape g_m_letters g_m_isKept g_m_lanes g_m_lengths g_m_cells hI
  obtain ⟨A, ⟨oT, oR, oI, oB⟩, ⟨xF, xE, xB, xT, xR, xI⟩, ⟨m1, m2, m3, m4, m5, m6⟩⟩ := hI
  have h8 := oR.1
  have e30 : g_m_state 30 = nI A.2.1.1 := m3.1
  have ein : X11_in x1.toInt64 1 99 = b2 (rng 1 99 x1) := in_g (lo := 1) (hi := 99) (by decide) (by decide) x1
  cases h : rng 1 99 x1 with
  | false =>
    refine ⟨(-1, g_x_way_parts, g_x_way_lengths), (-1, g_m_state), ?_, ?_, rfl, A, ⟨oT, oR, oI, oB⟩, ⟨xF, xE, xB, xT, xR, xI⟩, ⟨m1, m2, m3, m4, m5, m6⟩⟩
    · unfold X10_part
      unfold rng at h
      rw [show nI 1 = 1 from rfl, show nI 99 = 99 from rfl] at h
      split
      · rfl
      · rename_i q
        rw [if_neg (fun z => by simp [q, z] at h)]
    · unfold X11_part; rw [ein, h, ifb_f]
  | true =>
    obtain ⟨v, hv1, hv2, rfl⟩ := rng_of (by decide) (by decide) h
    have f1 : ¬ nI v < 1 := nI_nlt (b := 1) hv1 (by omega)
    have f2 : nI v ≤ 99 := nI_le (b := 99) hv2 (by omega)
    by_cases q : A.2.1.1 = 8
    · refine ⟨(-3, g_x_way_parts, g_x_way_lengths), (-3, g_m_state), ?_, ?_, rfl, A, ⟨oT, oR, oI, oB⟩, ⟨xF, xE, xB, xT, xR, xI⟩, ⟨m1, m2, m3, m4, m5, m6⟩⟩
      · unfold X10_part X5_add lat
        rw [if_neg f1, if_pos f2, xR.1, q, if_neg (by decide), if_neg (by decide), bs, if_pos rfl]
      · unfold X11_part
        rw [ein, h, ifb_t, e30, q, if_pos (by decide)]
    · have hq : A.2.1.1 < 8 := by omega
      have uu : ∀ k, k ≠ 22 + A.2.1.1 → k ≠ 30 → upd (upd g_m_state (22 + A.2.1.1) (nI v)) 30 (nI (A.2.1.1 + 1)) k = g_m_state k := fun k h1 h2 => by unfold upd; rw [if_neg h2, if_neg h1]
      refine ⟨(nI (A.2.1.1 + 1), nI (A.2.1.1 + 1), upd g_x_way_lengths A.2.1.1 (nI v)), (nI (A.2.1.1 + 1), upd (upd g_m_state (22 + A.2.1.1) (nI v)) 30 (nI (A.2.1.1 + 1))), ?_, ?_, rfl, (A.1, (A.2.1.1 + 1, up A.2.1.2 A.2.1.1 v), A.2.2), ⟨oT, ⟨hq, fun k hk => ?_⟩, oI, oB⟩, ⟨xF, xE, xB, xT, ⟨rfl, fun k hk => ?_⟩, xI⟩, ⟨?_, fun k hk => ?_, ⟨?_, fun k hk => ?_⟩, ?_, ?_, m6⟩⟩
      · unfold X10_part X5_add lat
        rw [if_neg f1, if_pos f2, xR.1, if_neg (nI_pos (by omega)), if_pos (show nI A.2.1.1 < 8 from nI_lt (b := 8) hq (by decide)), gd_in hq (by decide), nI_clamp (by omega), nI_1, bs, if_neg (show ¬ (1 : Int32) = 0 by decide)]
      · unfold X11_part lat
        rw [ein, h, ifb_t, e30, if_neg (show ¬ nI A.2.1.1 = 8 from fun z => q ((nI_eq (b := 8) (by omega) (by decide)).mp z)), show (22 : Int32) = nI 22 from rfl, nI_add, gd_in (by omega) (by decide), nI_clamp (by omega)]
        have e3 : upd g_m_state (22 + A.2.1.1) (nI v) 30 = nI A.2.1.1 := by unfold upd; rw [if_neg (by omega)]; exact e30
        dsimp only
        rw [e3, nI_1]
        have e4 : upd (upd g_m_state (22 + A.2.1.1) (nI v)) 30 (nI (A.2.1.1 + 1)) 30 = nI (A.2.1.1 + 1) := by unfold upd; rw [if_pos rfl]
        rw [e4]
      · show 1 ≤ up _ _ _ k ∧ up _ _ _ k ≤ 99
        unfold up
        split
        · exact ⟨hv1, hv2⟩
        · exact oR.2 k (by have : k < A.2.1.1 + 1 := hk; omega)
      · show upd _ _ _ k = nI (up _ _ _ k)
        unfold up upd
        split
        · rfl
        · exact xR.2 k (by have : k < A.2.1.1 + 1 := hk; omega)
      · exact mA_c (uu 21 (by omega) (by omega)) m1
      · show upd _ _ _ k = _; rw [uu k (by omega) (by omega)]; exact m2 k hk
      · show upd (upd g_m_state (22 + A.2.1.1) (nI v)) 30 (nI (A.2.1.1 + 1)) 30 = _; unfold upd; rw [if_pos rfl]
      · show upd _ _ _ (0 + (22 + k)) = nI (up _ _ _ k)
        have hk2 : k < A.2.1.1 + 1 := hk
        by_cases hh : k = A.2.1.1
        · subst hh; unfold upd up; rw [if_neg (by omega), if_pos (by omega), if_pos rfl]
        · rw [uu _ (by omega) (by omega)]; unfold up; rw [if_neg hh]; exact m3.2 k (by omega)
      · exact mI_c oI.1 (fun j hj => uu _ (by omega) (by omega)) m4
      · exact mI_c oI.2 (fun j hj => uu _ (by omega) (by omega)) m5
theorem tz_road : St_road := by
  intro x1 g_x_lastFault g_x_lastTear g_x_tape_length g_x_tape_bytes g_x_table_places g_x_table_squares g_x_way_parts g_x_way_lengths g_x_images_0_kept g_x_images_0_table_places g_x_images_0_table_squares g_x_images_0_way_parts g_x_images_0_way_lengths g_x_images_1_kept g_x_images_1_table_places g_x_images_1_table_squares g_x_images_1_way_parts g_x_images_1_way_lengths g_x_sheets_0_lane g_x_sheets_0_size g_x_sheets_0_cells g_x_sheets_1_lane g_x_sheets_1_size g_x_sheets_1_cells g_x_sheets_2_lane g_x_sheets_2_size g_x_sheets_2_cells g_x_sheets_3_lane g_x_sheets_3_size g_x_sheets_3_cells g_m_isAwake g_m_taped g_m_fault g_m_torn g_m_state g_m_tape g_m_letters g_m_isKept g_m_lanes g_m_lengths g_m_cells hI
  obtain ⟨A, hA, hX, hM⟩ := hI
  obtain ⟨r, h1, h2⟩ := q_road hA.2.1 hX.2.2.2.2.1 hM.2.2.1 x1
  exact ⟨r, r, h1, h2, rfl, A, hA, hX, hM⟩
theorem tz_reaches : St_reaches := by
  intro x1 x2 g_x_lastFault g_x_lastTear g_x_tape_length g_x_tape_bytes g_x_table_places g_x_table_squares g_x_way_parts g_x_way_lengths g_x_images_0_kept g_x_images_0_table_places g_x_images_0_table_squares g_x_images_0_way_parts g_x_images_0_way_lengths g_x_images_1_kept g_x_images_1_table_places g_x_images_1_table_squares g_x_images_1_way_parts g_x_images_1_way_lengths g_x_sheets_0_lane g_x_sheets_0_size g_x_sheets_0_cells g_x_sheets_1_lane g_x_sheets_1_size g_x_sheets_1_cells g_x_sheets_2_lane g_x_sheets_2_size g_x_sheets_2_cells g_x_sheets_3_lane g_x_sheets_3_size g_x_sheets_3_cells g_m_isAwake g_m_taped g_m_fault g_m_torn g_m_state g_m_tape g_m_letters g_m_isKept g_m_lanes g_m_lengths g_m_cells hI
  obtain ⟨A, hA, hX, hM⟩ := hI
  obtain ⟨r, h1, h2⟩ := q_reaches hA.1 hA.2.1 hX.2.2.2.1 ⟨hM.1, hM.2.1⟩ hX.2.2.2.2.1 hM.2.2.1 x1 x2
  exact ⟨r, _, h1, h2, rfl, A, hA, hX, hM.awake⟩
theorem tz_tell : St_tell := by
  intro x1 x2 x3 g_x_lastFault g_x_lastTear g_x_tape_length g_x_tape_bytes g_x_table_places g_x_table_squares g_x_way_parts g_x_way_lengths g_x_images_0_kept g_x_images_0_table_places g_x_images_0_table_squares g_x_images_0_way_parts g_x_images_0_way_lengths g_x_images_1_kept g_x_images_1_table_places g_x_images_1_table_squares g_x_images_1_way_parts g_x_images_1_way_lengths g_x_sheets_0_lane g_x_sheets_0_size g_x_sheets_0_cells g_x_sheets_1_lane g_x_sheets_1_size g_x_sheets_1_cells g_x_sheets_2_lane g_x_sheets_2_size g_x_sheets_2_cells g_x_sheets_3_lane g_x_sheets_3_size g_x_sheets_3_cells g_m_isAwake g_m_taped g_m_fault g_m_torn g_m_state g_m_tape g_m_letters g_m_isKept g_m_lanes g_m_lengths g_m_cells hI
  obtain ⟨A, ⟨oT, oR, oI, oB⟩, ⟨xF, xE, xB, xT, xR⟩, ⟨m1, m2, m3, m4, m5, m6, m7, m8, m9, s0, s1, s2, s3, _⟩⟩ := hI
  obtain ⟨r, sq', st', h1, h2, h3, h4, h5, _⟩ := q_tell oT xT ⟨m1, m2⟩ x1 x2 x3
  refine ⟨(r, sq'), (r, 1, st'), h1, ?_, rfl, (tl A.1 x1 x2 x3, A.2), ⟨tl_ok oT x1 x2 x3, oR, oI, oB⟩, ⟨xF, xE, xB, h3, xR⟩, ⟨Or.inl ⟨rfl, h4.1⟩, h4.2, ?_, ?_, ?_, m6, m7, m8, m9, s0, s1, s2, s3, fun z => absurd z (show ¬ (1 : Int32) = 0 by decide)⟩⟩
  · unfold X11_tell; rw [h2, bs]
  · exact ⟨by show st' (0 + 30) = _; rw [h5 _ (by omega)]; exact m3.1, fun k hk => by show st' (0 + (22 + k)) = _; rw [h5 _ (by omega)]; exact m3.2 k hk⟩
  · exact mI_c oI.1 (fun j hj => h5 _ (by omega)) m4
  · exact mI_c oI.2 (fun j hj => h5 _ (by omega)) m5
theorem tz_count : St_count := by
  intro x1 g_x_lastFault g_x_lastTear g_x_tape_length g_x_tape_bytes g_x_table_places g_x_table_squares g_x_way_parts g_x_way_lengths g_x_images_0_kept g_x_images_0_table_places g_x_images_0_table_squares g_x_images_0_way_parts g_x_images_0_way_lengths g_x_images_1_kept g_x_images_1_table_places g_x_images_1_table_squares g_x_images_1_way_parts g_x_images_1_way_lengths g_x_sheets_0_lane g_x_sheets_0_size g_x_sheets_0_cells g_x_sheets_1_lane g_x_sheets_1_size g_x_sheets_1_cells g_x_sheets_2_lane g_x_sheets_2_size g_x_sheets_2_cells g_x_sheets_3_lane g_x_sheets_3_size g_x_sheets_3_cells g_m_isAwake g_m_taped g_m_fault g_m_torn g_m_state g_m_tape g_m_letters g_m_isKept g_m_lanes g_m_lengths g_m_cells hI
  obtain ⟨A, hA, hX, hM⟩ := hI
  obtain ⟨oT, oR, oI, oB, oS⟩ := id hA
  obtain ⟨xF, xE, xB, xT, xR, xI0, xI1, xS0, xS⟩ := id hX
  obtain ⟨m1, m2, m3, m4, m5, m6, m7, m8, m9, s0, s1⟩ := id hM
  have hq : mQ A.1 g_m_isAwake g_m_state := ⟨m1, m2⟩
  have e30 : awk g_m_isAwake g_m_state 30 = nI A.2.1.1 := by rw [awk_ne (by omega)]; exact m3.1
  suffices h : ∃ r, X10_count x1 g_x_images_0_kept g_x_images_1_kept g_x_sheets_0_lane g_x_sheets_0_size g_x_table_places g_x_table_squares g_x_tape_length g_x_way_parts = some r ∧ X11_count x1 g_m_isAwake g_m_taped g_m_isKept g_m_lanes g_m_lengths g_m_state = some (r, 1, awk g_m_isAwake g_m_state) by
    obtain ⟨r, h1, h2⟩ := h
    exact ⟨r, _, h1, h2, rfl, A, hA, hX, hM.awake⟩
  unfold X10_count X11_count X11_count_J79 lat
  rw [awake_m hq, told_c oT xT]
  dsimp only
  rw [told_m oT.2.2.1 hq.st.2, hq.st.1, xT.1, xR.1, xB.1, m6.1, xI0.1, xI1.1, m4.1, m5.1, xS0.1, xS0.2.1, s0.1, s0.2.1]
  simp only [bs, e30]
  by_cases q0 : x1 = 0
  · rw [if_pos q0, if_pos q0]; exact ⟨_, rfl, rfl⟩
  rw [if_neg q0, if_neg q0]
  by_cases q1 : x1 = 1
  · rw [if_pos q1, if_pos q1]; exact ⟨_, rfl, rfl⟩
  rw [if_neg q1, if_neg q1]
  by_cases q2 : x1 = 2
  · rw [if_pos q2, if_pos q2]; exact ⟨_, rfl, rfl⟩
  rw [if_neg q2, if_neg q2]
  by_cases q3 : x1 = 3
  · rw [if_pos q3, if_pos q3]
    cases (A.2.2.1 0).1 <;> cases (A.2.2.1 1).1 <;> exact ⟨_, rfl, rfl⟩
  rw [if_neg q3, if_neg q3]
  by_cases q4 : x1 = 4
  · rw [if_pos q4, if_pos q4]; exact ⟨_, rfl, rfl⟩
  rw [if_neg q4, if_neg q4]
  by_cases q5 : x1 = 5
  · rw [if_pos q5, if_pos q5]
    rcases oS.1.1 with h | h | h | h <;> rw [h] <;> exact ⟨_, rfl, rfl⟩
  rw [if_neg q5, if_neg q5]; exact ⟨_, rfl, rfl⟩
theorem tz_feed : St_feed := by
  intro x1 g_x_lastFault g_x_lastTear g_x_tape_length g_x_tape_bytes g_x_table_places g_x_table_squares g_x_way_parts g_x_way_lengths g_x_images_0_kept g_x_images_0_table_places g_x_images_0_table_squares g_x_images_0_way_parts g_x_images_0_way_lengths g_x_images_1_kept g_x_images_1_table_places g_x_images_1_table_squares g_x_images_1_way_parts g_x_images_1_way_lengths g_x_sheets_0_lane g_x_sheets_0_size g_x_sheets_0_cells g_x_sheets_1_lane g_x_sheets_1_size g_x_sheets_1_cells g_x_sheets_2_lane g_x_sheets_2_size g_x_sheets_2_cells g_x_sheets_3_lane g_x_sheets_3_size g_x_sheets_3_cells g_m_isAwake g_m_taped g_m_fault g_m_torn g_m_state g_m_tape g_m_letters g_m_isKept g_m_lanes g_m_lengths g_m_cells hI
  obtain ⟨A, ⟨oT, oR, oI, oB, oS⟩, ⟨xF, xE, xB, xR⟩, ⟨m1, m2, m3, m4, m5, m6, m7⟩⟩ := hI
  obtain ⟨r, tl', b', g', B', h1, h2, h3, h4, h5⟩ := q_feed oB xB m6 x1
  exact ⟨_, _, h1, h2, rfl, (A.1, A.2.1, A.2.2.1, B', A.2.2.2.2), ⟨oT, oR, oI, h3, oS⟩, ⟨xF, xE, h4, xR⟩, ⟨m1, m2, m3, m4, m5, h5, m7⟩⟩
def ui (I : Nat → Bool × Tab × Tab) (k : Nat) (i : Bool × Tab × Tab) : Nat → Bool × Tab × Tab := fun q => if q = k then i else I q
theorem ui_e (I : Nat → Bool × Tab × Tab) (k : Nat) (i : Bool × Tab × Tab) : ui I k i k = i := if_pos rfl
theorem ui_n {I : Nat → Bool × Tab × Tab} {k q : Nat} {i : Bool × Tab × Tab} (h : q ≠ k) : ui I k i q = I q := if_neg h
theorem cI_of {T R : Tab} {pl p : Int32} {sq ls : Nat → Int32} (h1 : cT T pl sq) (h2 : cR R p ls) : cI (true, T, R) 1 pl sq p ls := ⟨rfl, fun _ => ⟨h1, h2⟩⟩
theorem mI_of {T R : Tab} {st : Nat → Int32} {o : Nat} (h1 : mT T st o) (h2 : mR R st o) : mI (true, T, R) 1 st o := ⟨rfl, fun _ => ⟨h1, h2⟩⟩
theorem cpo_in {st : Nat → Int32} {d j : Nat} (h : j < 32) : cpo st d 32 (d + j) = st (0 + j) := by
  unfold cpo; rw [if_pos (by omega), show d + j - d = 0 + j by omega]
theorem cpo_out {st : Nat → Int32} {d j : Nat} (h : j < d ∨ d + 32 ≤ j) : cpo st d 32 j = st j := by
  unfold cpo; rw [if_neg (by omega)]
theorem kept_bit {b : Bool} : X10_bit (if b = true then (1 : Int32) else 0) = if (if b = true then (1 : Int32) else 0) = 0 then 0 else 1 := by cases b <;> rfl
theorem tz_keep : St_keep := by
  intro x1 g_x_lastFault g_x_lastTear g_x_tape_length g_x_tape_bytes g_x_table_places g_x_table_squares g_x_way_parts g_x_way_lengths g_x_images_0_kept g_x_images_0_table_places g_x_images_0_table_squares g_x_images_0_way_parts g_x_images_0_way_lengths g_x_images_1_kept g_x_images_1_table_places g_x_images_1_table_squares g_x_images_1_way_parts g_x_images_1_way_lengths g_x_sheets_0_lane g_x_sheets_0_size g_x_sheets_0_cells g_x_sheets_1_lane g_x_sheets_1_size g_x_sheets_1_cells g_x_sheets_2_lane g_x_sheets_2_size g_x_sheets_2_cells g_x_sheets_3_lane g_x_sheets_3_size g_x_sheets_3_cells g_m_isAwake g_m_taped g_m_fault g_m_torn g_m_state g_m_tape g_m_letters g_m_isKept g_m_lanes g_m_lengths g_m_cells hI
  obtain ⟨A, hA, hX, hM⟩ := hI
  have hM2 := hM.awake
  obtain ⟨oT, oR, oI, oB⟩ := id hA
  obtain ⟨xF, xE, xB, xT, xR, xI0, xI1, xS⟩ := id hX
  obtain ⟨m1, m2, m3, m4, m5, m6, m7, m8, m9, s0, s1, s2, s3, mk⟩ := id hM
  obtain ⟨n1, n2, n3, n4, n5, _⟩ := id hM2
  have hq : mQ A.1 g_m_isAwake g_m_state := ⟨m1, m2⟩
  have hT : mT A.1 (awk g_m_isAwake g_m_state) 0 := ⟨by rw [Nat.zero_add]; exact hq.st.1, fun k hk => by rw [Nat.zero_add]; exact hq.st.2 k hk⟩
  cases h : rng 0 1 x1 with
  | false =>
    refine ⟨(-1, g_x_images_0_kept, g_x_images_0_table_places, g_x_images_0_table_squares, g_x_images_0_way_parts, g_x_images_0_way_lengths, g_x_images_1_kept, g_x_images_1_table_places, g_x_images_1_table_squares, g_x_images_1_way_parts, g_x_images_1_way_lengths), (-1, 1, g_m_isKept, awk g_m_isAwake g_m_state), ?_, ?_, rfl, A, hA, hX, hM2⟩
    · unfold X10_keep; rw [isImage_c, h, ifb_f]
    · unfold X11_keep lat; rw [awake_m hq, in_01, h]; dsimp only; rw [ifb_f]
  | true =>
    have h01 : x1 = nI 0 ∨ x1 = nI 1 := by
      obtain ⟨j, h1, h2, rfl⟩ := rng_of (by decide) (by decide) h
      rcases (show j = 0 ∨ j = 1 by omega) with rfl | rfl
      · exact Or.inl rfl
      · exact Or.inr rfl
    rcases h01 with rfl | rfl
    · have cT1 := (copyT (pl' := g_x_images_0_table_places) (sq' := g_x_images_0_table_squares) xT).2
      have cR1 := (copyR (p' := g_x_images_0_way_parts) (ls' := g_x_images_0_way_lengths) oR.1 xR).2
      have hk := keep_m (kp := g_m_isKept) hq (k := 0) (by decide)
      refine ⟨(X10_bit g_x_images_0_kept, 1, (X8_copyFrom g_x_images_0_table_places g_x_images_0_table_squares g_x_table_places g_x_table_squares).1, (X8_copyFrom g_x_images_0_table_places g_x_images_0_table_squares g_x_table_places g_x_table_squares).2, (X5_copyFrom g_x_images_0_way_parts g_x_images_0_way_lengths g_x_way_parts g_x_way_lengths).1, (X5_copyFrom g_x_images_0_way_parts g_x_images_0_way_lengths g_x_way_parts g_x_way_lengths).2, g_x_images_1_kept, g_x_images_1_table_places, g_x_images_1_table_squares, g_x_images_1_way_parts, g_x_images_1_way_lengths), (if g_m_isKept 0 = 0 then 0 else 1, 1, upd g_m_isKept 0 1, cpo (awk g_m_isAwake g_m_state) 32 32), ?_, hk, ?_, (A.1, A.2.1, ui A.2.2.1 0 (true, A.1, A.2.1), A.2.2.2), ⟨oT, oR, ⟨(fun _ => ⟨oT, oR⟩), oI.2⟩, oB⟩, ⟨xF, xE, xB, xT, xR, cI_of cT1 cR1, xI1, xS⟩, ⟨Or.inl ⟨rfl, ?_⟩, fun j hj => ?_, mR_c oR.1 (fun j hj => cpo_out (by omega)) n3, mI_of (mT_c (fun j hj => cpo_in hj) hT) (mR_c oR.1 (fun j hj => cpo_in hj) n3), mI_c oI.2 (fun j hj => cpo_out (by omega)) n5, m6, m7, m8, m9, s0, s1, s2, s3, fun z => absurd z (show ¬ (1 : Int32) = 0 by decide)⟩⟩
      · unfold X10_keep lat; rw [isImage_c, h, ifb_t]; rfl
      · show X10_bit g_x_images_0_kept = if g_m_isKept 0 = 0 then 0 else 1
        rw [xI0.1, m4.1]; exact kept_bit
      · show cpo (awk g_m_isAwake g_m_state) 32 32 21 = nI A.1.1
        rw [cpo_out (by omega)]; exact hq.st.1
      · show cpo (awk g_m_isAwake g_m_state) 32 32 j = nI (A.1.2 j)
        rw [cpo_out (by omega)]; exact hq.st.2 j hj
    · have cT1 := (copyT (pl' := g_x_images_1_table_places) (sq' := g_x_images_1_table_squares) xT).2
      have cR1 := (copyR (p' := g_x_images_1_way_parts) (ls' := g_x_images_1_way_lengths) oR.1 xR).2
      have hk := keep_m (kp := g_m_isKept) hq (k := 1) (by decide)
      refine ⟨(X10_bit g_x_images_1_kept, g_x_images_0_kept, g_x_images_0_table_places, g_x_images_0_table_squares, g_x_images_0_way_parts, g_x_images_0_way_lengths, 1, (X8_copyFrom g_x_images_1_table_places g_x_images_1_table_squares g_x_table_places g_x_table_squares).1, (X8_copyFrom g_x_images_1_table_places g_x_images_1_table_squares g_x_table_places g_x_table_squares).2, (X5_copyFrom g_x_images_1_way_parts g_x_images_1_way_lengths g_x_way_parts g_x_way_lengths).1, (X5_copyFrom g_x_images_1_way_parts g_x_images_1_way_lengths g_x_way_parts g_x_way_lengths).2), (if g_m_isKept 1 = 0 then 0 else 1, 1, upd g_m_isKept 1 1, cpo (awk g_m_isAwake g_m_state) 64 32), ?_, hk, ?_, (A.1, A.2.1, ui A.2.2.1 1 (true, A.1, A.2.1), A.2.2.2), ⟨oT, oR, ⟨oI.1, (fun _ => ⟨oT, oR⟩)⟩, oB⟩, ⟨xF, xE, xB, xT, xR, xI0, cI_of cT1 cR1, xS⟩, ⟨Or.inl ⟨rfl, ?_⟩, fun j hj => ?_, mR_c oR.1 (fun j hj => cpo_out (by omega)) n3, mI_c oI.1 (fun j hj => cpo_out (by omega)) n4, mI_of (mT_c (fun j hj => cpo_in hj) hT) (mR_c oR.1 (fun j hj => cpo_in hj) n3), m6, m7, m8, m9, s0, s1, s2, s3, fun z => absurd z (show ¬ (1 : Int32) = 0 by decide)⟩⟩
      · unfold X10_keep lat; rw [isImage_c, h, ifb_t]; rfl
      · show X10_bit g_x_images_1_kept = if g_m_isKept 1 = 0 then 0 else 1
        rw [xI1.1, m5.1]; exact kept_bit
      · show cpo (awk g_m_isAwake g_m_state) 64 32 21 = nI A.1.1
        rw [cpo_out (by omega)]; exact hq.st.1
      · show cpo (awk g_m_isAwake g_m_state) 64 32 j = nI (A.1.2 j)
        rw [cpo_out (by omega)]; exact hq.st.2 j hj
theorem cpi_in {st : Nat → Int32} {d j : Nat} (h : j < 32) : cpi st d 32 (0 + j) = st (d + j) := by
  unfold cpi; rw [if_pos (by omega), show 0 + j = j by omega]
theorem cpi_out {st : Nat → Int32} {d j : Nat} (h : 32 ≤ j) : cpi st d 32 j = st j := by
  unfold cpi; rw [if_neg (by omega)]
theorem tz_back : St_back := by
  intro x1 g_x_lastFault g_x_lastTear g_x_tape_length g_x_tape_bytes g_x_table_places g_x_table_squares g_x_way_parts g_x_way_lengths g_x_images_0_kept g_x_images_0_table_places g_x_images_0_table_squares g_x_images_0_way_parts g_x_images_0_way_lengths g_x_images_1_kept g_x_images_1_table_places g_x_images_1_table_squares g_x_images_1_way_parts g_x_images_1_way_lengths g_x_sheets_0_lane g_x_sheets_0_size g_x_sheets_0_cells g_x_sheets_1_lane g_x_sheets_1_size g_x_sheets_1_cells g_x_sheets_2_lane g_x_sheets_2_size g_x_sheets_2_cells g_x_sheets_3_lane g_x_sheets_3_size g_x_sheets_3_cells g_m_isAwake g_m_taped g_m_fault g_m_torn g_m_state g_m_tape g_m_letters g_m_isKept g_m_lanes g_m_lengths g_m_cells hI
  obtain ⟨A, hA, hX, hM⟩ := hI
  obtain ⟨oT, oR, oI, oB⟩ := id hA
  obtain ⟨xF, xE, xB, xT, xR, xI0, xI1, xS⟩ := id hX
  obtain ⟨m1, m2, m3, m4, m5, m6, m7, m8, m9, s0, s1, s2, s3, mk⟩ := id hM
  cases h : rng 0 1 x1 with
  | false =>
    refine ⟨(-1, g_x_table_places, g_x_table_squares, g_x_way_parts, g_x_way_lengths), (-1, g_m_state), ?_, ?_, rfl, A, hA, hX, hM⟩
    · unfold X10_back; rw [isImage_c, h, ifb_f]
    · unfold X11_back; rw [in_01, h, ifb_f]
  | true =>
    have h01 : x1 = nI 0 ∨ x1 = nI 1 := by
      obtain ⟨j, h1, h2, rfl⟩ := rng_of (by decide) (by decide) h
      rcases (show j = 0 ∨ j = 1 by omega) with rfl | rfl
      · exact Or.inl rfl
      · exact Or.inr rfl
    rcases h01 with rfl | rfl
    · have hk := back_m (st := g_m_state) (kp := g_m_isKept) (k := 0) (by decide)
      rw [m4.1] at hk
      have e1 : X10_back (nI 0) g_x_images_0_kept g_x_images_0_table_places g_x_images_0_table_squares g_x_images_0_way_parts g_x_images_0_way_lengths g_x_images_1_kept g_x_images_1_table_places g_x_images_1_table_squares g_x_images_1_way_parts g_x_images_1_way_lengths g_x_table_places g_x_table_squares g_x_way_parts g_x_way_lengths = if g_x_images_0_kept = 0 then some (-2, g_x_table_places, g_x_table_squares, g_x_way_parts, g_x_way_lengths) else (X8_countTold (X8_copyFrom g_x_table_places g_x_table_squares g_x_images_0_table_places g_x_images_0_table_squares).1 (X8_copyFrom g_x_table_places g_x_table_squares g_x_images_0_table_places g_x_images_0_table_squares).2).bind fun u3 => some (u3, (X8_copyFrom g_x_table_places g_x_table_squares g_x_images_0_table_places g_x_images_0_table_squares).1, (X8_copyFrom g_x_table_places g_x_table_squares g_x_images_0_table_places g_x_images_0_table_squares).2, (X5_copyFrom g_x_way_parts g_x_way_lengths g_x_images_0_way_parts g_x_images_0_way_lengths).1, (X5_copyFrom g_x_way_parts g_x_way_lengths g_x_images_0_way_parts g_x_images_0_way_lengths).2) := by
        unfold X10_back lat; rw [isImage_c, h, ifb_t]; rfl
      cases hb : (A.2.2.1 0).1 with
      | false =>
        rw [hb, if_neg (show ¬ false = true by decide), if_pos rfl] at hk
        rw [if_pos (by rw [xI0.1, hb]; rfl)] at e1
        exact ⟨_, _, e1, hk, rfl, A, hA, hX, hM⟩
      | true =>
        rw [hb, if_pos rfl, if_neg (show ¬ (1 : Int32) = 0 by decide)] at hk
        rw [if_neg (by rw [xI0.1, hb]; decide)] at e1
        obtain ⟨iT, iR⟩ := oI.1 hb
        obtain ⟨jT, jR⟩ := xI0.2 hb
        obtain ⟨lT, lR⟩ := m4.2 hb
        have cT1 := copyT (pl' := g_x_table_places) (sq' := g_x_table_squares) jT
        have cR1 := copyR (p' := g_x_way_parts) (ls' := g_x_way_lengths) iR.1 jR
        have hT : mT (A.2.2.1 0).2.1 (cpi g_m_state 32 32) 0 := mT_c (fun j hj => cpi_in hj) lT
        have hT2 : ∀ j, j < 21 → cpi g_m_state 32 32 j = nI ((A.2.2.1 0).2.1.2 j) := fun j hj => by have := hT.2 j hj; rwa [Nat.zero_add] at this
        rw [told_c iT (by rw [cT1.1]; exact cT1.2), bs] at e1
        unfold X11_back_J57 at hk
        rw [told_m iT.2.2.1 hT2, bs] at hk
        refine ⟨_, _, e1, hk, rfl, ((A.2.2.1 0).2.1, (A.2.2.1 0).2.2, A.2.2), ⟨iT, iR, oI, oB⟩, ⟨xF, xE, xB, cT1.2, cR1.2, xI0, xI1, xS⟩, ⟨Or.inl ⟨?_, ?_⟩, hT2, mR_c iR.1 (fun j hj => cpi_in hj) lR, mI_c oI.1 (fun j hj => cpi_out (by omega)) m4, mI_c oI.2 (fun j hj => cpi_out (by omega)) m5, m6, m7, m8, m9, s0, s1, s2, s3, mk⟩⟩
        · rcases m1 with w | w
          · exact w.1
          · exact absurd hb (by rw [(mk w.1).1]; decide)
        · have := hT.1; rwa [Nat.zero_add] at this
    · have hk := back_m (st := g_m_state) (kp := g_m_isKept) (k := 1) (by decide)
      rw [m5.1] at hk
      have e1 : X10_back (nI 1) g_x_images_0_kept g_x_images_0_table_places g_x_images_0_table_squares g_x_images_0_way_parts g_x_images_0_way_lengths g_x_images_1_kept g_x_images_1_table_places g_x_images_1_table_squares g_x_images_1_way_parts g_x_images_1_way_lengths g_x_table_places g_x_table_squares g_x_way_parts g_x_way_lengths = if g_x_images_1_kept = 0 then some (-2, g_x_table_places, g_x_table_squares, g_x_way_parts, g_x_way_lengths) else (X8_countTold (X8_copyFrom g_x_table_places g_x_table_squares g_x_images_1_table_places g_x_images_1_table_squares).1 (X8_copyFrom g_x_table_places g_x_table_squares g_x_images_1_table_places g_x_images_1_table_squares).2).bind fun u3 => some (u3, (X8_copyFrom g_x_table_places g_x_table_squares g_x_images_1_table_places g_x_images_1_table_squares).1, (X8_copyFrom g_x_table_places g_x_table_squares g_x_images_1_table_places g_x_images_1_table_squares).2, (X5_copyFrom g_x_way_parts g_x_way_lengths g_x_images_1_way_parts g_x_images_1_way_lengths).1, (X5_copyFrom g_x_way_parts g_x_way_lengths g_x_images_1_way_parts g_x_images_1_way_lengths).2) := by
        unfold X10_back lat; rw [isImage_c, h, ifb_t]; rfl
      cases hb : (A.2.2.1 1).1 with
      | false =>
        rw [hb, if_neg (show ¬ false = true by decide), if_pos rfl] at hk
        rw [if_pos (by rw [xI1.1, hb]; rfl)] at e1
        exact ⟨_, _, e1, hk, rfl, A, hA, hX, hM⟩
      | true =>
        rw [hb, if_pos rfl, if_neg (show ¬ (1 : Int32) = 0 by decide)] at hk
        rw [if_neg (by rw [xI1.1, hb]; decide)] at e1
        obtain ⟨iT, iR⟩ := oI.2 hb
        obtain ⟨jT, jR⟩ := xI1.2 hb
        obtain ⟨lT, lR⟩ := m5.2 hb
        have cT1 := copyT (pl' := g_x_table_places) (sq' := g_x_table_squares) jT
        have cR1 := copyR (p' := g_x_way_parts) (ls' := g_x_way_lengths) iR.1 jR
        have hT : mT (A.2.2.1 1).2.1 (cpi g_m_state 64 32) 0 := mT_c (fun j hj => cpi_in hj) lT
        have hT2 : ∀ j, j < 21 → cpi g_m_state 64 32 j = nI ((A.2.2.1 1).2.1.2 j) := fun j hj => by have := hT.2 j hj; rwa [Nat.zero_add] at this
        rw [told_c iT (by rw [cT1.1]; exact cT1.2), bs] at e1
        unfold X11_back_J57 at hk
        rw [told_m iT.2.2.1 hT2, bs] at hk
        refine ⟨_, _, e1, hk, rfl, ((A.2.2.1 1).2.1, (A.2.2.1 1).2.2, A.2.2), ⟨iT, iR, oI, oB⟩, ⟨xF, xE, xB, cT1.2, cR1.2, xI0, xI1, xS⟩, ⟨Or.inl ⟨?_, ?_⟩, hT2, mR_c iR.1 (fun j hj => cpi_in hj) lR, mI_c oI.1 (fun j hj => cpi_out (by omega)) m4, mI_c oI.2 (fun j hj => cpi_out (by omega)) m5, m6, m7, m8, m9, s0, s1, s2, s3, mk⟩⟩
        · rcases m1 with w | w
          · exact w.1
          · exact absurd hb (by rw [(mk w.1).2]; decide)
        · have := hT.1; rwa [Nat.zero_add] at this
theorem mSs_of {S : Nat → Sht} {ln lg cl : Nat → Int32} (h0 : mS (S 0) (ln 0) (lg 0) cl 0) (h1 : mS (S 1) (ln 1) (lg 1) cl 40) (h2 : mS (S 2) (ln 2) (lg 2) cl 80) (h3 : mS (S 3) (ln 3) (lg 3) cl 120) : mSs S ln lg cl := by
  intro q hq
  rcases (show q = 0 ∨ q = 1 ∨ q = 2 ∨ q = 3 by omega) with rfl | rfl | rfl | rfl
  · exact h0
  · exact h1
  · exact h2
  · exact h3
theorem rng3 {x : Int32} (h : rng 0 3 x = true) : x = nI 0 ∨ x = nI 1 ∨ x = nI 2 ∨ x = nI 3 := by
  obtain ⟨j, h1, h2, rfl⟩ := rng_of (by decide) (by decide) h
  rcases (show j = 0 ∨ j = 1 ∨ j = 2 ∨ j = 3 by omega) with rfl | rfl | rfl | rfl
  · exact Or.inl rfl
  · exact Or.inr (Or.inl rfl)
  · exact Or.inr (Or.inr (Or.inl rfl))
  · exact Or.inr (Or.inr (Or.inr rfl))
theorem tz_sheet : St_sheet := by
  intro x1 x2 x3 g_x_lastFault g_x_lastTear g_x_tape_length g_x_tape_bytes g_x_table_places g_x_table_squares g_x_way_parts g_x_way_lengths g_x_images_0_kept g_x_images_0_table_places g_x_images_0_table_squares g_x_images_0_way_parts g_x_images_0_way_lengths g_x_images_1_kept g_x_images_1_table_places g_x_images_1_table_squares g_x_images_1_way_parts g_x_images_1_way_lengths g_x_sheets_0_lane g_x_sheets_0_size g_x_sheets_0_cells g_x_sheets_1_lane g_x_sheets_1_size g_x_sheets_1_cells g_x_sheets_2_lane g_x_sheets_2_size g_x_sheets_2_cells g_x_sheets_3_lane g_x_sheets_3_size g_x_sheets_3_cells g_m_isAwake g_m_taped g_m_fault g_m_torn g_m_state g_m_tape g_m_letters g_m_isKept g_m_lanes g_m_lengths g_m_cells hI
  obtain ⟨A, hA, hX, hM⟩ := hI
  obtain ⟨oT, oR, oI, oB, oS0, oS1, oS2, oS3⟩ := id hA
  obtain ⟨xF, xE, xB, xT, xR, xI0, xI1, xS0, xS1, xS2, xS3⟩ := id hX
  obtain ⟨m1, m2, m3, m4, m5, m6, m7, m8, m9, s0, s1, s2, s3, mk⟩ := id hM
  have hs := mSs_of s0 s1 s2 s3
  have no : ∀ r, X10_sheet x1 x2 x3 g_x_sheets_0_lane g_x_sheets_0_size g_x_sheets_0_cells g_x_sheets_1_lane g_x_sheets_1_size g_x_sheets_1_cells g_x_sheets_2_lane g_x_sheets_2_size g_x_sheets_2_cells g_x_sheets_3_lane g_x_sheets_3_size g_x_sheets_3_cells = some (r, g_x_sheets_0_lane, g_x_sheets_0_size, g_x_sheets_0_cells, g_x_sheets_1_lane, g_x_sheets_1_size, g_x_sheets_1_cells, g_x_sheets_2_lane, g_x_sheets_2_size, g_x_sheets_2_cells, g_x_sheets_3_lane, g_x_sheets_3_size, g_x_sheets_3_cells) → X11_sheet x1 x2 x3 g_m_cells g_m_lanes g_m_lengths = some (r, g_m_cells, g_m_lanes, g_m_lengths) → ∃ u um, X10_sheet x1 x2 x3 g_x_sheets_0_lane g_x_sheets_0_size g_x_sheets_0_cells g_x_sheets_1_lane g_x_sheets_1_size g_x_sheets_1_cells g_x_sheets_2_lane g_x_sheets_2_size g_x_sheets_2_cells g_x_sheets_3_lane g_x_sheets_3_size g_x_sheets_3_cells = some u ∧ X11_sheet x1 x2 x3 g_m_cells g_m_lanes g_m_lengths = some um ∧ u.1 = um.1 ∧ Inv g_x_lastFault g_x_lastTear g_x_tape_length g_x_tape_bytes g_x_table_places g_x_table_squares g_x_way_parts g_x_way_lengths g_x_images_0_kept g_x_images_0_table_places g_x_images_0_table_squares g_x_images_0_way_parts g_x_images_0_way_lengths g_x_images_1_kept g_x_images_1_table_places g_x_images_1_table_squares g_x_images_1_way_parts g_x_images_1_way_lengths u.2.1 u.2.2.1 u.2.2.2.1 u.2.2.2.2.1 u.2.2.2.2.2.1 u.2.2.2.2.2.2.1 u.2.2.2.2.2.2.2.1 u.2.2.2.2.2.2.2.2.1 u.2.2.2.2.2.2.2.2.2.1 u.2.2.2.2.2.2.2.2.2.2.1 u.2.2.2.2.2.2.2.2.2.2.2.1 u.2.2.2.2.2.2.2.2.2.2.2.2 g_m_state g_m_tape g_m_letters g_m_isKept um.2.2.1 um.2.2.2 um.2.1 g_m_isAwake g_m_taped g_m_fault g_m_torn :=
    fun r h1 h2 => ⟨_, _, h1, h2, rfl, A, hA, hX, hM⟩
  cases h : rng 0 3 x1 with
  | false =>
    refine no (-1) ?_ ?_
    · unfold X10_sheet; rw [isSheet_c, h, ifb_f]
    · unfold X11_sheet; rw [in_03, h, ifb_f]
  | true =>
  cases hy : rng 0 2 x2 with
  | false =>
    refine no (-1) ?_ ?_
    · unfold X10_sheet; rw [isSheet_c, isLane_c, h, hy, ifb_t, ifb_f]
    · unfold X11_sheet; rw [in_03, in_02, h, hy, ifb_t, ifb_f]
  | true =>
  by_cases h40 : x3 ≤ 40
  · by_cases h0 : 0 ≤ x3
    · obtain ⟨j, hj, rfl⟩ : ∃ j, j ≤ 40 ∧ x3 = nI j := by
        obtain ⟨j, hj, rfl⟩ := nI_of (Int32.not_lt.mpr h0)
        exact ⟨j, (nI_leI (b := 40) hj (by decide)).mp h40, rfl⟩
      have okn : ∀ c : Nat → Int32, okS (x2, j, c) := fun c => ⟨by rcases rng2 hy with z | z | z <;> simp [z], hj⟩
      rcases rng3 h with rfl | rfl | rfl | rfl
      · obtain ⟨cl', ln', lg', h1, h2⟩ := sheet_m hs (k := 0) (by decide) hj hy
        refine ⟨(1, x2, nI j, fil g_x_sheets_0_cells 0 40, g_x_sheets_1_lane, g_x_sheets_1_size, g_x_sheets_1_cells, g_x_sheets_2_lane, g_x_sheets_2_size, g_x_sheets_2_cells, g_x_sheets_3_lane, g_x_sheets_3_size, g_x_sheets_3_cells), _, ?_, h1, rfl, (A.1, A.2.1, A.2.2.1, A.2.2.2.1, A.2.2.2.2.1, A.2.2.2.2.2.1, us A.2.2.2.2.2.2 0 (x2, j, fun _ => 0)), ⟨oT, oR, oI, oB, okn _, oS1, oS2, oS3⟩, ⟨xF, xE, xB, xT, xR, xI0, xI1, ⟨rfl, rfl, fun i hi => by show fil _ 0 40 i = 0; unfold fil; rw [if_pos (by omega)]⟩, xS1, xS2, xS3⟩, ⟨m1, m2, m3, m4, m5, m6, m7, m8, m9, h2 0 (by decide), h2 1 (by decide), h2 2 (by decide), h2 3 (by decide), mk⟩⟩
        unfold X10_sheet; rw [isSheet_c, isLane_c, h, hy, ifb_t, ifb_t, if_pos h40, if_pos h0]
        simp only [renew_c, bs]
        rfl
      · obtain ⟨cl', ln', lg', h1, h2⟩ := sheet_m hs (k := 1) (by decide) hj hy
        refine ⟨(1, g_x_sheets_0_lane, g_x_sheets_0_size, g_x_sheets_0_cells, x2, nI j, fil g_x_sheets_1_cells 0 40, g_x_sheets_2_lane, g_x_sheets_2_size, g_x_sheets_2_cells, g_x_sheets_3_lane, g_x_sheets_3_size, g_x_sheets_3_cells), _, ?_, h1, rfl, (A.1, A.2.1, A.2.2.1, A.2.2.2.1, A.2.2.2.2.1, A.2.2.2.2.2.1, us A.2.2.2.2.2.2 1 (x2, j, fun _ => 0)), ⟨oT, oR, oI, oB, oS0, okn _, oS2, oS3⟩, ⟨xF, xE, xB, xT, xR, xI0, xI1, xS0, ⟨rfl, rfl, fun i hi => by show fil _ 0 40 i = 0; unfold fil; rw [if_pos (by omega)]⟩, xS2, xS3⟩, ⟨m1, m2, m3, m4, m5, m6, m7, m8, m9, h2 0 (by decide), h2 1 (by decide), h2 2 (by decide), h2 3 (by decide), mk⟩⟩
        unfold X10_sheet; rw [isSheet_c, isLane_c, h, hy, ifb_t, ifb_t, if_pos h40, if_pos h0]
        simp only [renew_c, bs]
        rfl
      · obtain ⟨cl', ln', lg', h1, h2⟩ := sheet_m hs (k := 2) (by decide) hj hy
        refine ⟨(1, g_x_sheets_0_lane, g_x_sheets_0_size, g_x_sheets_0_cells, g_x_sheets_1_lane, g_x_sheets_1_size, g_x_sheets_1_cells, x2, nI j, fil g_x_sheets_2_cells 0 40, g_x_sheets_3_lane, g_x_sheets_3_size, g_x_sheets_3_cells), _, ?_, h1, rfl, (A.1, A.2.1, A.2.2.1, A.2.2.2.1, A.2.2.2.2.1, A.2.2.2.2.2.1, us A.2.2.2.2.2.2 2 (x2, j, fun _ => 0)), ⟨oT, oR, oI, oB, oS0, oS1, okn _, oS3⟩, ⟨xF, xE, xB, xT, xR, xI0, xI1, xS0, xS1, ⟨rfl, rfl, fun i hi => by show fil _ 0 40 i = 0; unfold fil; rw [if_pos (by omega)]⟩, xS3⟩, ⟨m1, m2, m3, m4, m5, m6, m7, m8, m9, h2 0 (by decide), h2 1 (by decide), h2 2 (by decide), h2 3 (by decide), mk⟩⟩
        unfold X10_sheet; rw [isSheet_c, isLane_c, h, hy, ifb_t, ifb_t, if_pos h40, if_pos h0]
        simp only [renew_c, bs]
        rfl
      · obtain ⟨cl', ln', lg', h1, h2⟩ := sheet_m hs (k := 3) (by decide) hj hy
        refine ⟨(1, g_x_sheets_0_lane, g_x_sheets_0_size, g_x_sheets_0_cells, g_x_sheets_1_lane, g_x_sheets_1_size, g_x_sheets_1_cells, g_x_sheets_2_lane, g_x_sheets_2_size, g_x_sheets_2_cells, x2, nI j, fil g_x_sheets_3_cells 0 40), _, ?_, h1, rfl, (A.1, A.2.1, A.2.2.1, A.2.2.2.1, A.2.2.2.2.1, A.2.2.2.2.2.1, us A.2.2.2.2.2.2 3 (x2, j, fun _ => 0)), ⟨oT, oR, oI, oB, oS0, oS1, oS2, okn _⟩, ⟨xF, xE, xB, xT, xR, xI0, xI1, xS0, xS1, xS2, ⟨rfl, rfl, fun i hi => by show fil _ 0 40 i = 0; unfold fil; rw [if_pos (by omega)]⟩⟩, ⟨m1, m2, m3, m4, m5, m6, m7, m8, m9, h2 0 (by decide), h2 1 (by decide), h2 2 (by decide), h2 3 (by decide), mk⟩⟩
        unfold X10_sheet; rw [isSheet_c, isLane_c, h, hy, ifb_t, ifb_t, if_pos h40, if_pos h0]
        simp only [renew_c, bs]
        rfl
    · refine no (-14) ?_ ?_
      · unfold X10_sheet; rw [isSheet_c, isLane_c, h, hy, ifb_t, ifb_t, if_pos h40, if_neg h0]
      · unfold X11_sheet; rw [in_03, in_02, h, hy, ifb_t, ifb_t, if_pos h40, if_neg h0]
  · refine no (-1) ?_ ?_
    · unfold X10_sheet; rw [isSheet_c, isLane_c, h, hy, ifb_t, ifb_t, if_neg h40]
    · unfold X11_sheet; rw [in_03, in_02, h, hy, ifb_t, ifb_t, if_neg h40]
theorem tz_lay : St_lay := by
  intro x1 x2 x3 g_x_lastFault g_x_lastTear g_x_tape_length g_x_tape_bytes g_x_table_places g_x_table_squares g_x_way_parts g_x_way_lengths g_x_images_0_kept g_x_images_0_table_places g_x_images_0_table_squares g_x_images_0_way_parts g_x_images_0_way_lengths g_x_images_1_kept g_x_images_1_table_places g_x_images_1_table_squares g_x_images_1_way_parts g_x_images_1_way_lengths g_x_sheets_0_lane g_x_sheets_0_size g_x_sheets_0_cells g_x_sheets_1_lane g_x_sheets_1_size g_x_sheets_1_cells g_x_sheets_2_lane g_x_sheets_2_size g_x_sheets_2_cells g_x_sheets_3_lane g_x_sheets_3_size g_x_sheets_3_cells g_m_isAwake g_m_taped g_m_fault g_m_torn g_m_state g_m_tape g_m_letters g_m_isKept g_m_lanes g_m_lengths g_m_cells hI
  obtain ⟨A, hA, hX, hM⟩ := hI
  obtain ⟨oT, oR, oI, oB, oS0, oS1, oS2, oS3⟩ := id hA
  obtain ⟨xF, xE, xB, xT, xR, xI0, xI1, xS0, xS1, xS2, xS3⟩ := id hX
  obtain ⟨m1, m2, m3, m4, m5, m6, m7, m8, m9, s0, s1, s2, s3, mk⟩ := id hM
  have hs := mSs_of s0 s1 s2 s3
  cases h : rng 0 3 x1 with
  | false =>
    refine ⟨(-1, g_x_sheets_0_cells, g_x_sheets_1_cells, g_x_sheets_2_cells, g_x_sheets_3_cells), (-1, g_m_cells), ?_, ?_, rfl, A, hA, hX, hM⟩
    · unfold X10_lay; rw [isSheet_c, h, ifb_f]
    · unfold X11_lay; rw [in_03, h, ifb_f]
  | true =>
    rcases rng3 h with rfl | rfl | rfl | rfl
    · obtain ⟨c', w1, w2⟩ := write_c oS0 xS0 x2 x3
      obtain ⟨cl', h1, h2⟩ := lay_m hs (k := 0) (by decide) oS0 x2 x3
      refine ⟨(if (ly (A.2.2.2.2.2.2 0) x2 x3).1 = 0 then 1 else -10 - (ly (A.2.2.2.2.2.2 0) x2 x3).1, c', g_x_sheets_1_cells, g_x_sheets_2_cells, g_x_sheets_3_cells), _, ?_, h1, rfl, (A.1, A.2.1, A.2.2.1, A.2.2.2.1, A.2.2.2.2.1, A.2.2.2.2.2.1, us A.2.2.2.2.2.2 0 (ly (A.2.2.2.2.2.2 0) x2 x3).2), ⟨oT, oR, oI, oB, ly_ok oS0 x2 x3, oS1, oS2, oS3⟩, ⟨xF, xE, xB, xT, xR, xI0, xI1, w2, xS1, xS2, xS3⟩, ⟨m1, m2, m3, m4, m5, m6, m7, m8, m9, h2 0 (by decide), h2 1 (by decide), h2 2 (by decide), h2 3 (by decide), mk⟩⟩
      unfold X10_lay; rw [isSheet_c, h, ifb_t, w1]
      simp only [bs]
      show (if (ly (A.2.2.2.2.2.2 0) x2 x3).1 = 0 then _ else _) = _
      split <;> rfl
    · obtain ⟨c', w1, w2⟩ := write_c oS1 xS1 x2 x3
      obtain ⟨cl', h1, h2⟩ := lay_m hs (k := 1) (by decide) oS1 x2 x3
      refine ⟨(if (ly (A.2.2.2.2.2.2 1) x2 x3).1 = 0 then 1 else -10 - (ly (A.2.2.2.2.2.2 1) x2 x3).1, g_x_sheets_0_cells, c', g_x_sheets_2_cells, g_x_sheets_3_cells), _, ?_, h1, rfl, (A.1, A.2.1, A.2.2.1, A.2.2.2.1, A.2.2.2.2.1, A.2.2.2.2.2.1, us A.2.2.2.2.2.2 1 (ly (A.2.2.2.2.2.2 1) x2 x3).2), ⟨oT, oR, oI, oB, oS0, ly_ok oS1 x2 x3, oS2, oS3⟩, ⟨xF, xE, xB, xT, xR, xI0, xI1, xS0, w2, xS2, xS3⟩, ⟨m1, m2, m3, m4, m5, m6, m7, m8, m9, h2 0 (by decide), h2 1 (by decide), h2 2 (by decide), h2 3 (by decide), mk⟩⟩
      unfold X10_lay; rw [isSheet_c, h, ifb_t, w1]
      simp only [bs]
      show (if (ly (A.2.2.2.2.2.2 1) x2 x3).1 = 0 then _ else _) = _
      split <;> rfl
    · obtain ⟨c', w1, w2⟩ := write_c oS2 xS2 x2 x3
      obtain ⟨cl', h1, h2⟩ := lay_m hs (k := 2) (by decide) oS2 x2 x3
      refine ⟨(if (ly (A.2.2.2.2.2.2 2) x2 x3).1 = 0 then 1 else -10 - (ly (A.2.2.2.2.2.2 2) x2 x3).1, g_x_sheets_0_cells, g_x_sheets_1_cells, c', g_x_sheets_3_cells), _, ?_, h1, rfl, (A.1, A.2.1, A.2.2.1, A.2.2.2.1, A.2.2.2.2.1, A.2.2.2.2.2.1, us A.2.2.2.2.2.2 2 (ly (A.2.2.2.2.2.2 2) x2 x3).2), ⟨oT, oR, oI, oB, oS0, oS1, ly_ok oS2 x2 x3, oS3⟩, ⟨xF, xE, xB, xT, xR, xI0, xI1, xS0, xS1, w2, xS3⟩, ⟨m1, m2, m3, m4, m5, m6, m7, m8, m9, h2 0 (by decide), h2 1 (by decide), h2 2 (by decide), h2 3 (by decide), mk⟩⟩
      unfold X10_lay; rw [isSheet_c, h, ifb_t, w1]
      simp only [bs]
      show (if (ly (A.2.2.2.2.2.2 2) x2 x3).1 = 0 then _ else _) = _
      split <;> rfl
    · obtain ⟨c', w1, w2⟩ := write_c oS3 xS3 x2 x3
      obtain ⟨cl', h1, h2⟩ := lay_m hs (k := 3) (by decide) oS3 x2 x3
      refine ⟨(if (ly (A.2.2.2.2.2.2 3) x2 x3).1 = 0 then 1 else -10 - (ly (A.2.2.2.2.2.2 3) x2 x3).1, g_x_sheets_0_cells, g_x_sheets_1_cells, g_x_sheets_2_cells, c'), _, ?_, h1, rfl, (A.1, A.2.1, A.2.2.1, A.2.2.2.1, A.2.2.2.2.1, A.2.2.2.2.2.1, us A.2.2.2.2.2.2 3 (ly (A.2.2.2.2.2.2 3) x2 x3).2), ⟨oT, oR, oI, oB, oS0, oS1, oS2, ly_ok oS3 x2 x3⟩, ⟨xF, xE, xB, xT, xR, xI0, xI1, xS0, xS1, xS2, w2⟩, ⟨m1, m2, m3, m4, m5, m6, m7, m8, m9, h2 0 (by decide), h2 1 (by decide), h2 2 (by decide), h2 3 (by decide), mk⟩⟩
      unfold X10_lay; rw [isSheet_c, h, ifb_t, w1]
      simp only [bs]
      show (if (ly (A.2.2.2.2.2.2 3) x2 x3).1 = 0 then _ else _) = _
      split <;> rfl
theorem tz_wrong : St_wrong := by
  intro x1 g_x_lastFault g_x_lastTear g_x_tape_length g_x_tape_bytes g_x_table_places g_x_table_squares g_x_way_parts g_x_way_lengths g_x_images_0_kept g_x_images_0_table_places g_x_images_0_table_squares g_x_images_0_way_parts g_x_images_0_way_lengths g_x_images_1_kept g_x_images_1_table_places g_x_images_1_table_squares g_x_images_1_way_parts g_x_images_1_way_lengths g_x_sheets_0_lane g_x_sheets_0_size g_x_sheets_0_cells g_x_sheets_1_lane g_x_sheets_1_size g_x_sheets_1_cells g_x_sheets_2_lane g_x_sheets_2_size g_x_sheets_2_cells g_x_sheets_3_lane g_x_sheets_3_size g_x_sheets_3_cells g_x_flaws_badThrees g_x_flaws_badFours g_x_flaws_flatThrees g_x_flaws_toldThrees g_x_flaws_size g_x_flaws_flaws g_m_isAwake g_m_taped g_m_fault g_m_torn g_m_state g_m_tape g_m_letters g_m_sums g_m_isKept g_m_lanes g_m_lengths g_m_cells hI
  obtain ⟨A, hA, hX, hM⟩ := hI
  obtain ⟨u, um, h1, h2, h3, h4, h5⟩ := q_wrong hA.1 hX.2.2.2.1 ⟨hM.1, hM.2.1⟩ x1 g_x_flaws_badFours g_x_flaws_badThrees g_x_flaws_flatThrees g_x_flaws_size g_x_flaws_toldThrees g_x_flaws_flaws g_m_sums
  refine ⟨u, um, h1, h2, h3, A, hA, hX, ?_⟩
  rw [h4, h5]; exact hM.awake
theorem tz_doubt : St_doubt := by
  intro x1 g_x_lastFault g_x_lastTear g_x_tape_length g_x_tape_bytes g_x_table_places g_x_table_squares g_x_way_parts g_x_way_lengths g_x_images_0_kept g_x_images_0_table_places g_x_images_0_table_squares g_x_images_0_way_parts g_x_images_0_way_lengths g_x_images_1_kept g_x_images_1_table_places g_x_images_1_table_squares g_x_images_1_way_parts g_x_images_1_way_lengths g_x_sheets_0_lane g_x_sheets_0_size g_x_sheets_0_cells g_x_sheets_1_lane g_x_sheets_1_size g_x_sheets_1_cells g_x_sheets_2_lane g_x_sheets_2_size g_x_sheets_2_cells g_x_sheets_3_lane g_x_sheets_3_size g_x_sheets_3_cells g_x_flaws_badThrees g_x_flaws_badFours g_x_flaws_flatThrees g_x_flaws_toldThrees g_x_flaws_size g_x_flaws_flaws g_m_isAwake g_m_taped g_m_fault g_m_torn g_m_state g_m_tape g_m_letters g_m_sums g_m_isKept g_m_lanes g_m_lengths g_m_cells hI
  obtain ⟨A, hA, hX, hM⟩ := hI
  obtain ⟨u, um, h1, h2, h3, h4, h5⟩ := q_doubt hA.1 hX.2.2.2.1 ⟨hM.1, hM.2.1⟩ x1 g_x_flaws_badFours g_x_flaws_badThrees g_x_flaws_flatThrees g_x_flaws_size g_x_flaws_toldThrees g_x_flaws_flaws g_m_sums
  refine ⟨u, um, h1, h2, h3, A, hA, hX, ?_⟩
  rw [h4, h5]; exact hM.awake
theorem tz_falses : St_falses := by
  intro x1 g_x_lastFault g_x_lastTear g_x_tape_length g_x_tape_bytes g_x_table_places g_x_table_squares g_x_way_parts g_x_way_lengths g_x_images_0_kept g_x_images_0_table_places g_x_images_0_table_squares g_x_images_0_way_parts g_x_images_0_way_lengths g_x_images_1_kept g_x_images_1_table_places g_x_images_1_table_squares g_x_images_1_way_parts g_x_images_1_way_lengths g_x_sheets_0_lane g_x_sheets_0_size g_x_sheets_0_cells g_x_sheets_1_lane g_x_sheets_1_size g_x_sheets_1_cells g_x_sheets_2_lane g_x_sheets_2_size g_x_sheets_2_cells g_x_sheets_3_lane g_x_sheets_3_size g_x_sheets_3_cells g_x_flaws_badThrees g_x_flaws_badFours g_x_flaws_flatThrees g_x_flaws_toldThrees g_x_flaws_size g_x_flaws_fewest g_x_flaws_flaws g_m_isAwake g_m_taped g_m_fault g_m_torn g_m_state g_m_tape g_m_letters g_m_sums g_m_aside g_m_isKept g_m_lanes g_m_lengths g_m_cells hI
  obtain ⟨A, hA, hX, hM⟩ := hI
  obtain ⟨u, um, h1, h2, h3, h4, h5⟩ := q_falses hA.1 hX.2.2.2.1 ⟨hM.1, hM.2.1⟩ x1 g_x_flaws_badFours g_x_flaws_badThrees g_x_flaws_fewest g_x_flaws_flatThrees g_x_flaws_size g_x_flaws_toldThrees g_x_flaws_flaws g_m_aside g_m_sums
  refine ⟨u, um, h1, h2, h3, A, hA, hX, ?_⟩
  rw [h4, h5]; exact hM.awake
theorem tz_drawings : St_drawings := by
  intro x1 x2 x3 g_x_lastFault g_x_lastTear g_x_tape_length g_x_tape_bytes g_x_table_places g_x_table_squares g_x_way_parts g_x_way_lengths g_x_images_0_kept g_x_images_0_table_places g_x_images_0_table_squares g_x_images_0_way_parts g_x_images_0_way_lengths g_x_images_1_kept g_x_images_1_table_places g_x_images_1_table_squares g_x_images_1_way_parts g_x_images_1_way_lengths g_x_sheets_0_lane g_x_sheets_0_size g_x_sheets_0_cells g_x_sheets_1_lane g_x_sheets_1_size g_x_sheets_1_cells g_x_sheets_2_lane g_x_sheets_2_size g_x_sheets_2_cells g_x_sheets_3_lane g_x_sheets_3_size g_x_sheets_3_cells g_x_drawing_laid g_x_drawing_groups g_x_drawing_stands g_x_drawing_offLine g_x_drawing_sixthOf_middle g_x_drawing_sixthOf_spread g_x_drawing_sixthOf_divisor g_x_drawing_sides g_x_drawing_bonds g_m_isAwake g_m_taped g_m_fault g_m_laid g_m_groupMany g_m_isDrawn g_m_torn g_m_state g_m_tape g_m_letters g_m_groups g_m_sides g_m_isKept g_m_lanes g_m_lengths g_m_cells hI
  obtain ⟨A, hA, hX, hM⟩ := hI
  obtain ⟨u, um, h1, h2, h3, h4, h5⟩ := q_drawings hA.1 hX.2.2.2.1 ⟨hM.1, hM.2.1⟩ x1 x2 x3 g_x_drawing_groups g_x_drawing_laid g_x_drawing_offLine g_x_drawing_stands g_x_drawing_bonds g_x_drawing_sides g_x_drawing_sixthOf_divisor g_x_drawing_sixthOf_middle g_x_drawing_sixthOf_spread g_m_groupMany g_m_isDrawn g_m_laid g_m_groups g_m_sides
  refine ⟨u, um, h1, h2, h3, A, hA, hX, ?_⟩
  rw [h4, h5]; exact hM.awake
theorem tz_spare : St_spare := by
  intro x1 x2 x3 x4 g_x_lastFault g_x_lastTear g_x_tape_length g_x_tape_bytes g_x_table_places g_x_table_squares g_x_way_parts g_x_way_lengths g_x_images_0_kept g_x_images_0_table_places g_x_images_0_table_squares g_x_images_0_way_parts g_x_images_0_way_lengths g_x_images_1_kept g_x_images_1_table_places g_x_images_1_table_squares g_x_images_1_way_parts g_x_images_1_way_lengths g_x_sheets_0_lane g_x_sheets_0_size g_x_sheets_0_cells g_x_sheets_1_lane g_x_sheets_1_size g_x_sheets_1_cells g_x_sheets_2_lane g_x_sheets_2_size g_x_sheets_2_cells g_x_sheets_3_lane g_x_sheets_3_size g_x_sheets_3_cells g_x_drawing_laid g_x_drawing_groups g_x_drawing_stands g_x_drawing_offLine g_x_drawing_sixthOf_middle g_x_drawing_sixthOf_spread g_x_drawing_sixthOf_divisor g_x_drawing_sides g_x_drawing_bonds g_m_isAwake g_m_taped g_m_fault g_m_laid g_m_groupMany g_m_isDrawn g_m_torn g_m_state g_m_tape g_m_letters g_m_groups g_m_sides g_m_isKept g_m_lanes g_m_lengths g_m_cells hI
  obtain ⟨A, hA, hX, hM⟩ := hI
  obtain ⟨u, um, h1, h2, h3, h4, h5⟩ := q_spare hA.1 hX.2.2.2.1 ⟨hM.1, hM.2.1⟩ x1 x2 x3 x4 g_x_drawing_groups g_x_drawing_laid g_x_drawing_offLine g_x_drawing_stands g_x_drawing_bonds g_x_drawing_sides g_x_drawing_sixthOf_divisor g_x_drawing_sixthOf_middle g_x_drawing_sixthOf_spread g_m_groupMany g_m_isDrawn g_m_laid g_m_groups g_m_sides
  refine ⟨u, um, h1, h2, h3, A, hA, hX, ?_⟩
  rw [h4, h5]; exact hM.awake
theorem tz_base : St_base := by
  intro g_x_lastFault g_x_lastTear g_x_tape_length g_x_tape_bytes g_x_table_places g_x_table_squares g_x_way_parts g_x_way_lengths g_x_images_0_kept g_x_images_0_table_places g_x_images_0_table_squares g_x_images_0_way_parts g_x_images_0_way_lengths g_x_images_1_kept g_x_images_1_table_places g_x_images_1_table_squares g_x_images_1_way_parts g_x_images_1_way_lengths g_x_sheets_0_lane g_x_sheets_0_size g_x_sheets_0_cells g_x_sheets_1_lane g_x_sheets_1_size g_x_sheets_1_cells g_x_sheets_2_lane g_x_sheets_2_size g_x_sheets_2_cells g_x_sheets_3_lane g_x_sheets_3_size g_x_sheets_3_cells g_x_drawing_laid g_x_drawing_groups g_x_drawing_stands g_x_drawing_offLine g_x_drawing_sixthOf_middle g_x_drawing_sixthOf_spread g_x_drawing_sixthOf_divisor g_x_drawing_sides g_x_drawing_bonds g_m_isAwake g_m_taped g_m_fault g_m_laid g_m_groupMany g_m_isDrawn g_m_torn g_m_state g_m_tape g_m_letters g_m_groups g_m_sides g_m_isKept g_m_lanes g_m_lengths g_m_cells hI
  obtain ⟨A, hA, hX, hM⟩ := hI
  obtain ⟨u, um, h1, h2, h3, h4, h5⟩ := q_base hA.1 hX.2.2.2.1 ⟨hM.1, hM.2.1⟩ g_x_drawing_groups g_x_drawing_laid g_x_drawing_offLine g_x_drawing_stands g_x_drawing_bonds g_x_drawing_sides g_x_drawing_sixthOf_divisor g_x_drawing_sixthOf_middle g_x_drawing_sixthOf_spread g_m_groupMany g_m_isDrawn g_m_laid g_m_groups g_m_sides
  refine ⟨u, um, h1, h2, h3, A, hA, hX, ?_⟩
  rw [h4, h5]; exact hM.awake
theorem tz_maps : St_maps := by
  intro x1 x2 ad g_x_lastFault g_x_lastTear g_x_tape_length g_x_tape_bytes g_x_table_places g_x_table_squares g_x_way_parts g_x_way_lengths g_x_images_0_kept g_x_images_0_table_places g_x_images_0_table_squares g_x_images_0_way_parts g_x_images_0_way_lengths g_x_images_1_kept g_x_images_1_table_places g_x_images_1_table_squares g_x_images_1_way_parts g_x_images_1_way_lengths g_x_sheets_0_lane g_x_sheets_0_size g_x_sheets_0_cells g_x_sheets_1_lane g_x_sheets_1_size g_x_sheets_1_cells g_x_sheets_2_lane g_x_sheets_2_size g_x_sheets_2_cells g_x_sheets_3_lane g_x_sheets_3_size g_x_sheets_3_cells g_x_naming_found g_x_naming_to g_x_naming_used g_x_naming_firstOnly g_x_naming_first g_x_naming_trial g_m_isAwake g_m_taped g_m_fault g_m_torn g_m_state g_m_tape g_m_letters g_m_names g_m_firstNames g_m_isKept g_m_lanes g_m_lengths g_m_cells hI
  obtain ⟨A, hA, hX, hM⟩ := hI
  have hM2 := hM.awake
  obtain ⟨oT, oR, oI, oB⟩ := id hA
  obtain ⟨xF, xE, xB, xT, xR, xI0, xI1, xS⟩ := id hX
  obtain ⟨n1, n2, n3, n4, n5, _⟩ := id hM2
  obtain ⟨u, um, h1, h2, h3, h4, h5⟩ := q_maps oT xT ⟨hM.1, hM.2.1⟩ x1 x2 (b0 := (A.2.2.1 0).1) (b1 := (A.2.2.1 1).1) (T0 := (A.2.2.1 0).2.1) (T1 := (A.2.2.1 1).2.1) xI0.1 xI1.1 n4.1 n5.1 (fun hb => ⟨(oI.1 hb).1, (xI0.2 hb).1, (n4.2 hb).1⟩) (fun hb => ⟨(oI.2 hb).1, (xI1.2 hb).1, (n5.2 hb).1⟩) g_x_naming_firstOnly g_x_naming_found g_x_naming_to g_x_naming_used g_x_naming_first g_x_naming_trial g_m_firstNames g_m_names (ad 12) (ad 17)
  refine ⟨u, um, h1, h2, h3, A, hA, hX, ?_⟩
  rw [h4, h5]; exact hM2
theorem tz_land : St_land := by
  intro g_x_lastFault g_x_lastTear g_x_tape_length g_x_tape_bytes g_x_reader_lines g_x_reader_fault g_x_reader_faultAt g_x_reader_placesTold g_x_reader_greatestPlace g_x_reader_next g_x_reader_kind g_x_reader_start g_x_reader_value g_x_reader_draft_places g_x_reader_draft_squares g_x_table_places g_x_table_squares g_x_way_parts g_x_way_lengths g_x_images_0_kept g_x_images_0_table_places g_x_images_0_table_squares g_x_images_0_way_parts g_x_images_0_way_lengths g_x_images_1_kept g_x_images_1_table_places g_x_images_1_table_squares g_x_images_1_way_parts g_x_images_1_way_lengths g_x_sheets_0_lane g_x_sheets_0_size g_x_sheets_0_cells g_x_sheets_1_lane g_x_sheets_1_size g_x_sheets_1_cells g_x_sheets_2_lane g_x_sheets_2_size g_x_sheets_2_cells g_x_sheets_3_lane g_x_sheets_3_size g_x_sheets_3_cells g_m_isAwake g_m_taped g_m_fault g_m_broken g_m_brokenAt g_m_spot g_m_here g_m_token g_m_value g_m_hasPlaces g_m_highest g_m_torn g_m_state g_m_readPage g_m_tape g_m_letters g_m_isKept g_m_lanes g_m_lengths g_m_cells hI
  obtain ⟨A, ⟨oT, oR, oI, oB, oS⟩, ⟨xF, xE, xB, xT, xR, xI0, xI1, xS⟩, ⟨m1, m2, m3, m4, m5, m6, m7, m8, m9, s0, s1, s2, s3, mk⟩⟩ := hI
  obtain ⟨xB1, xB2⟩ := xB
  obtain ⟨m61, m62⟩ := m6
  subst xB1
  subst m61
  obtain ⟨u, um, h1, h2, h3, h4, h5, h6, h7⟩ := q_land oB xB2 m62 m9 g_x_lastFault g_x_images_0_kept g_x_images_1_kept g_x_reader_fault g_x_reader_faultAt g_x_reader_greatestPlace g_x_reader_kind g_x_reader_lines g_x_reader_next g_x_reader_placesTold g_x_reader_start g_x_reader_value g_x_reader_draft_places g_x_reader_draft_squares g_x_table_places g_x_table_squares g_x_way_parts g_m_broken g_m_brokenAt g_m_fault g_m_hasPlaces g_m_here g_m_highest g_m_isAwake g_m_spot g_m_token g_m_value g_m_isKept g_m_readPage g_m_state
  refine ⟨u, um, h1, h2, h3, ?_⟩
  rw [h5, h6]
  have oB0 : okB (0, A.2.2.2.1.2) := ⟨Nat.zero_le _, oB.2⟩
  have cB0 : cB (0, A.2.2.2.1.2) 0 g_x_tape_bytes := ⟨rfl, fun k hk => absurd hk (Nat.not_lt_zero k)⟩
  rcases h7 with ⟨e1, e2, e3, e4, e5, e6, e7, e8⟩ | ⟨D, d1, e1, e2, d2, e5, e6, e7, e8, d3, d4⟩
  · rw [e1, e2, e3, e4, e5, e6, e7, e8]
    exact ⟨(A.1, A.2.1, A.2.2.1, (0, A.2.2.2.1.2), u.2.1, A.2.2.2.2.2), ⟨oT, oR, oI, oB0, oS⟩, ⟨rfl, xE, cB0, xT, xR, xI0, xI1, xS⟩, ⟨m1, m2, m3, m4, m5, ⟨rfl, fun k hk => absurd hk (Nat.not_lt_zero k)⟩, h4.symm, m8, m9, s0, s1, s2, s3, mk⟩⟩
  · rw [e1, e2, e5, e6]
    have nf : ∀ P : Prop, ((false : Bool) = true → P) := fun P z => absurd z (by decide)
    refine ⟨(D, (0, A.2.1.2), fun q => (false, (A.2.2.1 q).2), (0, A.2.2.2.1.2), u.2.1, A.2.2.2.2.2), ⟨d1, ⟨Nat.zero_le _, fun k hk => absurd hk (Nat.not_lt_zero k)⟩, ⟨fun z => (Bool.false_ne_true z).elim, fun z => (Bool.false_ne_true z).elim⟩, oB0, oS⟩, ⟨rfl, xE, cB0, d2, ⟨rfl, fun k hk => absurd hk (Nat.not_lt_zero k)⟩, ⟨rfl, fun z => (Bool.false_ne_true z).elim⟩, ⟨rfl, fun z => (Bool.false_ne_true z).elim⟩, xS⟩, ⟨Or.inl ⟨rfl, d3.1⟩, d3.2, ⟨?_, fun k hk => absurd hk (Nat.not_lt_zero k)⟩, ⟨e7, fun z => (Bool.false_ne_true z).elim⟩, ⟨e8, fun z => (Bool.false_ne_true z).elim⟩, ⟨rfl, fun k hk => absurd hk (Nat.not_lt_zero k)⟩, h4.symm, m8, m9, s0, s1, s2, s3, fun z => absurd z (by decide)⟩⟩
    rw [Nat.zero_add]; exact d4
theorem tz_read : St_read := by
  intro x1 x2 x3 x4 g_x_lastFault g_x_lastTear g_x_tape_length g_x_tape_bytes g_x_table_places g_x_table_squares g_x_way_parts g_x_way_lengths g_x_images_0_kept g_x_images_0_table_places g_x_images_0_table_squares g_x_images_0_way_parts g_x_images_0_way_lengths g_x_images_1_kept g_x_images_1_table_places g_x_images_1_table_squares g_x_images_1_way_parts g_x_images_1_way_lengths g_x_sheets_0_lane g_x_sheets_0_size g_x_sheets_0_cells g_x_sheets_1_lane g_x_sheets_1_size g_x_sheets_1_cells g_x_sheets_2_lane g_x_sheets_2_size g_x_sheets_2_cells g_x_sheets_3_lane g_x_sheets_3_size g_x_sheets_3_cells g_m_isAwake g_m_taped g_m_fault g_m_torn g_m_state g_m_tape g_m_letters g_m_isKept g_m_lanes g_m_lengths g_m_cells g_m_had hI
  obtain ⟨A, hA, hX, hM⟩ := hI
  have hM2 := hM.awake
  obtain ⟨oT, oR, oI, oB, oS0, oS1, oS2, oS3⟩ := id hA
  obtain ⟨xF, xE, xB, xT, xR, xI0, xI1, xS0, xS1, xS2, xS3⟩ := id hX
  obtain ⟨m1, m2, m3, m4, m5, m6, m7, m8, m9, s0, s1, s2, s3, mk⟩ := id hM
  have hq : mQ A.1 g_m_isAwake g_m_state := ⟨m1, m2⟩
  have in13 : X11_in x4.toInt64 0 13 = b2 (rng 0 13 x4) := in_g (lo := 0) (hi := 13) (by decide) (by decide) x4
  have no : X10_read x1 x2 x3 x4 g_x_lastTear g_x_sheets_0_lane g_x_sheets_0_size g_x_sheets_0_cells g_x_sheets_1_lane g_x_sheets_1_size g_x_sheets_1_cells g_x_sheets_2_lane g_x_sheets_2_size g_x_sheets_2_cells g_x_sheets_3_lane g_x_sheets_3_size g_x_sheets_3_cells g_x_table_places g_x_table_squares = some (-1, g_x_lastTear, g_x_table_squares) → X11_read x1 x2 x3 x4 g_m_isAwake g_m_torn g_m_cells g_m_had g_m_lanes g_m_lengths g_m_state = some (-1, 1, g_m_torn, g_m_had, awk g_m_isAwake g_m_state) → ∃ u um, X10_read x1 x2 x3 x4 g_x_lastTear g_x_sheets_0_lane g_x_sheets_0_size g_x_sheets_0_cells g_x_sheets_1_lane g_x_sheets_1_size g_x_sheets_1_cells g_x_sheets_2_lane g_x_sheets_2_size g_x_sheets_2_cells g_x_sheets_3_lane g_x_sheets_3_size g_x_sheets_3_cells g_x_table_places g_x_table_squares = some u ∧ X11_read x1 x2 x3 x4 g_m_isAwake g_m_torn g_m_cells g_m_had g_m_lanes g_m_lengths g_m_state = some um ∧ u.1 = um.1 ∧ Inv g_x_lastFault u.2.1 g_x_tape_length g_x_tape_bytes g_x_table_places u.2.2 g_x_way_parts g_x_way_lengths g_x_images_0_kept g_x_images_0_table_places g_x_images_0_table_squares g_x_images_0_way_parts g_x_images_0_way_lengths g_x_images_1_kept g_x_images_1_table_places g_x_images_1_table_squares g_x_images_1_way_parts g_x_images_1_way_lengths g_x_sheets_0_lane g_x_sheets_0_size g_x_sheets_0_cells g_x_sheets_1_lane g_x_sheets_1_size g_x_sheets_1_cells g_x_sheets_2_lane g_x_sheets_2_size g_x_sheets_2_cells g_x_sheets_3_lane g_x_sheets_3_size g_x_sheets_3_cells um.2.2.2.2 g_m_tape g_m_letters g_m_isKept g_m_lanes g_m_lengths g_m_cells um.2.1 g_m_taped g_m_fault um.2.2.1 :=
    fun h1 h2 => ⟨_, _, h1, h2, rfl, A, hA, hX, hM2⟩
  cases h : rng 0 3 x1 with
  | false =>
    refine no ?_ ?_
    · unfold X10_read; rw [isSheet_c, h, ifb_f]
    · unfold X11_read lat; rw [awake_m hq, in_03, h]; dsimp only; rw [ifb_f]
  | true =>
  cases hy : rng 0 2 x2 with
  | false =>
    refine no ?_ ?_
    · unfold X10_read; rw [isSheet_c, isLane_c, h, hy, ifb_t, ifb_f]
    · unfold X11_read lat; rw [awake_m hq, in_03, in_02, h, hy]; dsimp only; rw [ifb_t, ifb_f]
  | true =>
  cases hz : rng 0 13 x4 with
  | false =>
    refine no ?_ ?_
    · unfold X10_read; rw [isSheet_c, isLane_c, h, hy, ifb_t, ifb_t]
      unfold rng at hz
      rw [nI_0, show nI 13 = 13 from rfl] at hz
      by_cases z : x4 < 0
      · rw [if_pos z]
      · rw [if_neg z, if_neg (fun w => by simp [z, w] at hz)]
    · unfold X11_read lat; rw [awake_m hq, in_03, in_02, in13, h, hy, hz]; dsimp only; rw [ifb_t, ifb_t, ifb_f]
  | true =>
    obtain ⟨k, _, hk, rfl⟩ := rng_of (by decide) (by decide) hz
    have p1 : ¬ nI k < 0 := nI_pos (by omega)
    have p2 : nI k ≤ 13 := nI_le (b := 13) hk (by decide)
    rcases rng3 h with rfl | rfl | rfl | rfl
    · obtain ⟨r, t', sq', st', had', T', e1, e2, e3, e4, e5, e6⟩ := q_read (lt := g_x_lastTear) (had := g_m_had) (ln := g_m_lanes) (lg := g_m_lengths) (cl := g_m_cells) oT xT hq oS0 (q := 0) (by decide) xS0 s0 hy x3 hk
      rw [xE, ← m8] at e2
      refine ⟨(r, t', sq'), (r, 1, t', had', st'), ?_, ?_, rfl, (T', A.2.1, A.2.2.1, A.2.2.2.1, A.2.2.2.2.1, t', A.2.2.2.2.2.2), ⟨e3, oR, oI, oB, oS0, oS1, oS2, oS3⟩, ⟨xF, rfl, xB, e4, xR, xI0, xI1, xS0, xS1, xS2, xS3⟩, ⟨Or.inl ⟨rfl, e5.1⟩, e5.2, ?_, mI_c oI.1 (fun j hj => e6 _ (by omega)) m4, mI_c oI.2 (fun j hj => e6 _ (by omega)) m5, m6, m7, rfl, m9, s0, s1, s2, s3, fun z => absurd z (show ¬ (1 : Int32) = 0 by decide)⟩⟩
      · rw [← e1]
        unfold X10_read; rw [isSheet_c, isLane_c, h, hy, ifb_t, ifb_t, if_neg p1, if_pos p2]
        rfl
      · exact e2
      · exact ⟨by show st' (0 + 30) = _; rw [e6 _ (by omega)]; exact m3.1, fun i hi => by show st' (0 + (22 + i)) = _; rw [e6 _ (by omega)]; exact m3.2 i hi⟩
    · obtain ⟨r, t', sq', st', had', T', e1, e2, e3, e4, e5, e6⟩ := q_read (lt := g_x_lastTear) (had := g_m_had) (ln := g_m_lanes) (lg := g_m_lengths) (cl := g_m_cells) oT xT hq oS1 (q := 1) (by decide) xS1 s1 hy x3 hk
      rw [xE, ← m8] at e2
      refine ⟨(r, t', sq'), (r, 1, t', had', st'), ?_, ?_, rfl, (T', A.2.1, A.2.2.1, A.2.2.2.1, A.2.2.2.2.1, t', A.2.2.2.2.2.2), ⟨e3, oR, oI, oB, oS0, oS1, oS2, oS3⟩, ⟨xF, rfl, xB, e4, xR, xI0, xI1, xS0, xS1, xS2, xS3⟩, ⟨Or.inl ⟨rfl, e5.1⟩, e5.2, ?_, mI_c oI.1 (fun j hj => e6 _ (by omega)) m4, mI_c oI.2 (fun j hj => e6 _ (by omega)) m5, m6, m7, rfl, m9, s0, s1, s2, s3, fun z => absurd z (show ¬ (1 : Int32) = 0 by decide)⟩⟩
      · rw [← e1]
        unfold X10_read; rw [isSheet_c, isLane_c, h, hy, ifb_t, ifb_t, if_neg p1, if_pos p2]
        simp only [read_b]
        rfl
      · exact e2
      · exact ⟨by show st' (0 + 30) = _; rw [e6 _ (by omega)]; exact m3.1, fun i hi => by show st' (0 + (22 + i)) = _; rw [e6 _ (by omega)]; exact m3.2 i hi⟩
    · obtain ⟨r, t', sq', st', had', T', e1, e2, e3, e4, e5, e6⟩ := q_read (lt := g_x_lastTear) (had := g_m_had) (ln := g_m_lanes) (lg := g_m_lengths) (cl := g_m_cells) oT xT hq oS2 (q := 2) (by decide) xS2 s2 hy x3 hk
      rw [xE, ← m8] at e2
      refine ⟨(r, t', sq'), (r, 1, t', had', st'), ?_, ?_, rfl, (T', A.2.1, A.2.2.1, A.2.2.2.1, A.2.2.2.2.1, t', A.2.2.2.2.2.2), ⟨e3, oR, oI, oB, oS0, oS1, oS2, oS3⟩, ⟨xF, rfl, xB, e4, xR, xI0, xI1, xS0, xS1, xS2, xS3⟩, ⟨Or.inl ⟨rfl, e5.1⟩, e5.2, ?_, mI_c oI.1 (fun j hj => e6 _ (by omega)) m4, mI_c oI.2 (fun j hj => e6 _ (by omega)) m5, m6, m7, rfl, m9, s0, s1, s2, s3, fun z => absurd z (show ¬ (1 : Int32) = 0 by decide)⟩⟩
      · rw [← e1]
        unfold X10_read; rw [isSheet_c, isLane_c, h, hy, ifb_t, ifb_t, if_neg p1, if_pos p2]
        simp only [read_c]
        rfl
      · exact e2
      · exact ⟨by show st' (0 + 30) = _; rw [e6 _ (by omega)]; exact m3.1, fun i hi => by show st' (0 + (22 + i)) = _; rw [e6 _ (by omega)]; exact m3.2 i hi⟩
    · obtain ⟨r, t', sq', st', had', T', e1, e2, e3, e4, e5, e6⟩ := q_read (lt := g_x_lastTear) (had := g_m_had) (ln := g_m_lanes) (lg := g_m_lengths) (cl := g_m_cells) oT xT hq oS3 (q := 3) (by decide) xS3 s3 hy x3 hk
      rw [xE, ← m8] at e2
      refine ⟨(r, t', sq'), (r, 1, t', had', st'), ?_, ?_, rfl, (T', A.2.1, A.2.2.1, A.2.2.2.1, A.2.2.2.2.1, t', A.2.2.2.2.2.2), ⟨e3, oR, oI, oB, oS0, oS1, oS2, oS3⟩, ⟨xF, rfl, xB, e4, xR, xI0, xI1, xS0, xS1, xS2, xS3⟩, ⟨Or.inl ⟨rfl, e5.1⟩, e5.2, ?_, mI_c oI.1 (fun j hj => e6 _ (by omega)) m4, mI_c oI.2 (fun j hj => e6 _ (by omega)) m5, m6, m7, rfl, m9, s0, s1, s2, s3, fun z => absurd z (show ¬ (1 : Int32) = 0 by decide)⟩⟩
      · rw [← e1]
        unfold X10_read; rw [isSheet_c, isLane_c, h, hy, ifb_t, ifb_t, if_neg p1, if_pos p2]
        simp only [read_d]
        rfl
      · exact e2
      · exact ⟨by show st' (0 + 30) = _; rw [e6 _ (by omega)]; exact m3.1, fun i hi => by show st' (0 + (22 + i)) = _; rw [e6 _ (by omega)]; exact m3.2 i hi⟩
