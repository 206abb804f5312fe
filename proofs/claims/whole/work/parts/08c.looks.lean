/-! I3: calls that only look -/
section
variable {f_frameAt f_frameLength f_frameSort f_frameFlags f_frameStream f_down f_entryCount f_most f_typeSeen f_lastSender f_sentLength : Int32} {a_payload a_life a_theyEnded a_weEnded a_finishing a_codes a_windowIn a_windowOut a_headers a_headerCount a_entries a_kinds a_repeats a_messageCount a_text a_nodeCount a_nodeTypes a_valueCount a_valueOwners a_values a_skippedCount a_reader a_chainNode a_chainEnd a_queue a_queueLength a_sent a_nodeSize a_nodePlace : Nat → Int32} {yf_down yf_heads yf_paid yf_payload yf_wants yf_name yf_first yf_counts yf_enters yf_most yf_many yf_sent yf_last yf_nodes yf_values yf_skipped yf_pos yf_there yf_number yf_at : Int32} {ya_kind ya_repeated ya_how ya_code ya_coming ya_going ya_type ya_headers ya_header ya_queued ya_otherEnded ya_ended ya_finishing ya_queue ya_prefix ya_length ya_got ya_high ya_whole ya_has ya_bytes ya_frame ya_payloads ya_table ya_out ya_nodeType ya_valueNode ya_valueNumber ya_value ya_from ya_limit ya_inside ya_sizes : Nat → Int32}
theorem i_vc_code {k : Nat} {u : SX} {v : SY} (I : i_Rel k u v) (hk : k + 6 ≤ 3072) (v1 : Int32) : wpX_code (fun r => wpY_code (fun r' => r' = r ∧ i_Rel (k + 6) u v) v v1) u v1 := by
  have J := i_up I
  generalize i_Rel (k + 6) u v = P at J ⊢
  obtain ⟨⟨⟨K, R, z⟩, ⟨fAt, n, so, fl, st, h, p, m, M, l⟩, ⟨wi, wo, ql, hc, Q, tx⟩, ⟨f_down, f_typeSeen, yf_payload, yf_wants, yf_name, yf_first, yf_counts, yf_enters, yf_nodes, yf_values, yf_skipped, yf_pos, yf_there, yf_number, yf_at⟩, ⟨a_payload, a_life, a_theyEnded, a_weEnded, a_finishing, a_codes, a_headers, a_entries, a_kinds, a_repeats, a_messageCount⟩, ⟨a_nodeCount, a_nodeTypes, a_valueCount, a_valueOwners, a_values, a_skippedCount, a_reader, a_chainNode, a_chainEnd, a_nodeSize, a_nodePlace⟩, ⟨ya_type, ya_otherEnded, ya_prefix, ya_length, ya_got, ya_high, ya_has, ya_frame, ya_payloads⟩, ⟨ya_table, ya_nodeType, ya_valueNode, ya_valueNumber, ya_value, ya_from, ya_limit, ya_inside, ya_sizes⟩⟩, rfl, rfl, hD, hl, hH, hO, hQ, hX, hS, hq, hT, hK, hF, hM⟩ := I
  dsimp only [cr_x, cr_y]
  unfold wpX_code wpY_code wpX_isStream wpY_no
  dsimp only
  rcases lk_c v1 with ⟨h1, h2, h3, h4⟩ | ⟨h1, h2, h3, h4, h5⟩ | ⟨s, hs, rfl⟩
  · simp [h1, h2, h4, J]
  · simp [h1, h2, h3, h4, h5, J]
  · obtain ⟨g1, g2, g3, g4, g5⟩ := lk_s s hs
    have hin := lk_in hs
    by_cases h0 : s = 0
    · subst h0
      simp [J, nI_0, (show vp_in (0 : Int32) 8 from hin)]
    · obtain ⟨g6, g7⟩ := g4 (by omega)
      simp [g1, g2, g3, g6, g7, hin, J]
theorem i_vc_window {k : Nat} {u : SX} {v : SY} (I : i_Rel k u v) (hk : k + 6 ≤ 3072) (v1 : Int32) (v2 : Int32) : wpX_window (fun r => wpY_window (fun r' => r' = r ∧ i_Rel (k + 6) u v) v v1 (lw_bz v2)) u v1 (lw_bz v2) := by
  have J := i_up I
  generalize i_Rel (k + 6) u v = P at J ⊢
  obtain ⟨⟨⟨K, R, z⟩, ⟨fAt, n, so, fl, st, h, p, m, M, l⟩, ⟨wi, wo, ql, hc, Q, tx⟩, ⟨f_down, f_typeSeen, yf_payload, yf_wants, yf_name, yf_first, yf_counts, yf_enters, yf_nodes, yf_values, yf_skipped, yf_pos, yf_there, yf_number, yf_at⟩, ⟨a_payload, a_life, a_theyEnded, a_weEnded, a_finishing, a_codes, a_headers, a_entries, a_kinds, a_repeats, a_messageCount⟩, ⟨a_nodeCount, a_nodeTypes, a_valueCount, a_valueOwners, a_values, a_skippedCount, a_reader, a_chainNode, a_chainEnd, a_nodeSize, a_nodePlace⟩, ⟨ya_type, ya_otherEnded, ya_prefix, ya_length, ya_got, ya_high, ya_has, ya_frame, ya_payloads⟩, ⟨ya_table, ya_nodeType, ya_valueNode, ya_valueNumber, ya_value, ya_from, ya_limit, ya_inside, ya_sizes⟩⟩, rfl, rfl, hD, hl, hH, hO, hQ, hX, hS, hq, hT, hK, hF, hM⟩ := I
  dsimp only [cr_x, cr_y]
  generalize lw_bz v2 = x
  unfold wpX_window wpY_window wpX_isStream wpY_no
  dsimp only
  unfold wX_window_14
  rcases lk_c v1 with ⟨h1, h2, h3, h4⟩ | ⟨h1, h2, h3, h4, h5⟩ | ⟨s, hs, rfl⟩
  · simp [h1, h2, h4, J]
  · simp [h1, h2, h3, h4, h5, J]
  · obtain ⟨g1, g2, g3, g4, g5⟩ := lk_s s hs
    have hin := lk_in hs
    by_cases hx : x = 0
    · by_cases h0 : s = 0
      · subst h0
        simp [J, nI_0, (show vp_in (0 : Int32) 8 from hin), hx]
      · obtain ⟨g6, g7⟩ := g4 (by omega)
        simp [g1, g2, g3, g6, g7, hin, J, hx]
    · by_cases h0 : s = 0
      · subst h0
        simp [J, nI_0, (show vp_in (0 : Int32) 8 from hin), hx]
      · obtain ⟨g6, g7⟩ := g4 (by omega)
        simp [g1, g2, g3, g6, g7, hin, J, hx]
theorem i_vc_messages {k : Nat} {u : SX} {v : SY} (I : i_Rel k u v) (hk : k + 6 ≤ 3072) (v1 : Int32) : wpX_messages (fun r => wpY_messages (fun r' => r' = r ∧ i_Rel (k + 6) u v) v v1) u v1 := by
  have J := i_up I
  generalize i_Rel (k + 6) u v = P at J ⊢
  obtain ⟨⟨⟨K, R, z⟩, ⟨fAt, n, so, fl, st, h, p, m, M, l⟩, ⟨wi, wo, ql, hc, Q, tx⟩, ⟨f_down, f_typeSeen, yf_payload, yf_wants, yf_name, yf_first, yf_counts, yf_enters, yf_nodes, yf_values, yf_skipped, yf_pos, yf_there, yf_number, yf_at⟩, ⟨a_payload, a_life, a_theyEnded, a_weEnded, a_finishing, a_codes, a_headers, a_entries, a_kinds, a_repeats, a_messageCount⟩, ⟨a_nodeCount, a_nodeTypes, a_valueCount, a_valueOwners, a_values, a_skippedCount, a_reader, a_chainNode, a_chainEnd, a_nodeSize, a_nodePlace⟩, ⟨ya_type, ya_otherEnded, ya_prefix, ya_length, ya_got, ya_high, ya_has, ya_frame, ya_payloads⟩, ⟨ya_table, ya_nodeType, ya_valueNode, ya_valueNumber, ya_value, ya_from, ya_limit, ya_inside, ya_sizes⟩⟩, rfl, rfl, hD, hl, hH, hO, hQ, hX, hS, hq, hT, hK, hF, hM⟩ := I
  dsimp only [cr_x, cr_y]
  unfold wpX_messages wpY_messages wpX_isStream wpY_no
  dsimp only
  rcases lk_c v1 with ⟨h1, h2, h3, h4⟩ | ⟨h1, h2, h3, h4, h5⟩ | ⟨s, hs, rfl⟩
  · simp [h1, h2, h4, J]
  · simp [h1, h2, h3, h4, h5, J]
  · obtain ⟨g1, g2, g3, g4, g5⟩ := lk_s s hs
    have hin := lk_in hs
    by_cases h0 : s = 0
    · subst h0
      simp [J, nI_0]
    · obtain ⟨g6, g7⟩ := g4 (by omega)
      simp [g1, g2, g3, g6, g7, hin, J]
/-- an index against a count -/
theorem lk_ix {x : Int32} (m : Nat) (hm : m < 2 ^ 30) : (x < 0) ∨ (¬ x < 0 ∧ nI m ≤ x ∧ ¬ x ≤ nI m - 1) ∨ ∃ j, j < m ∧ x = nI j ∧ ¬ x < 0 ∧ ¬ nI m ≤ x ∧ x ≤ nI m - 1 := by
  rcases pk_ix x (n := m) (by omega) with h | h | ⟨j, hj, rfl⟩
  · exact Or.inl h
  · right; left
    obtain ⟨e, he, rfl⟩ : ∃ e, e < 2 ^ 31 ∧ x = nI e := nI_of (by
      intro g
      have : nI m < 0 := Int32.lt_of_le_of_lt h g
      exact absurd this (nI_pos (by omega)))
    refine ⟨nI_pos he, h, ?_⟩
    rw [nI_leI (by omega) he] at h
    intro g
    cases m with
    | zero =>
      have e1 : nI 0 - 1 = (-1 : Int32) := by decide
      rw [e1] at g
      exact absurd (Int32.lt_of_le_of_lt g (show (-1 : Int32) < 0 by decide)) (nI_pos he)
    | succ m =>
      rw [nI_pred, nI_leI he (by omega)] at g
      omega
  · right; right
    refine ⟨j, hj, rfl, nI_pos (by omega), ?_, ?_⟩
    · rw [nI_leI (by omega) (by omega)]; omega
    · obtain ⟨m', rfl⟩ : ∃ m', m = m' + 1 := ⟨m - 1, by omega⟩
      rw [nI_pred, nI_leI (by omega) (by omega)]; omega
theorem i_vc_header {k : Nat} {u : SX} {v : SY} (I : i_Rel k u v) (hk : k + 6 ≤ 3072) (v1 : Int32) (v2 : Int32) : wpX_header (fun r => wpY_header (fun r' => r' = r ∧ i_Rel (k + 6) u v) v v1 v2) u v1 v2 := by
  have J := i_up I
  generalize i_Rel (k + 6) u v = P at J ⊢
  obtain ⟨⟨⟨K, R, z⟩, ⟨fAt, n, so, fl, st, h, p, m, M, l⟩, ⟨wi, wo, ql, hc, Q, tx⟩, ⟨f_down, f_typeSeen, yf_payload, yf_wants, yf_name, yf_first, yf_counts, yf_enters, yf_nodes, yf_values, yf_skipped, yf_pos, yf_there, yf_number, yf_at⟩, ⟨a_payload, a_life, a_theyEnded, a_weEnded, a_finishing, a_codes, a_headers, a_entries, a_kinds, a_repeats, a_messageCount⟩, ⟨a_nodeCount, a_nodeTypes, a_valueCount, a_valueOwners, a_values, a_skippedCount, a_reader, a_chainNode, a_chainEnd, a_nodeSize, a_nodePlace⟩, ⟨ya_type, ya_otherEnded, ya_prefix, ya_length, ya_got, ya_high, ya_has, ya_frame, ya_payloads⟩, ⟨ya_table, ya_nodeType, ya_valueNode, ya_valueNumber, ya_value, ya_from, ya_limit, ya_inside, ya_sizes⟩⟩, rfl, rfl, hD, hl, hH, hO, hQ, hX, hS, hq, hT, hK, hF, hM⟩ := I
  dsimp only [cr_x, cr_y]
  unfold wpX_header wpY_header wpX_isStream wpY_no
  dsimp only
  rcases lk_c v1 with ⟨h1, h2, h3, h4⟩ | ⟨h1, h2, h3, h4, h5⟩ | ⟨s, hs, rfl⟩
  · simp [h1, h2, h4, J]
  · simp [h1, h2, h3, h4, h5, J]
  · obtain ⟨g1, g2, g3, g4, g5⟩ := lk_s s hs
    have hin := lk_in hs
    have hh := hH s hs
    by_cases h0 : s = 0
    · subst h0
      simp [J, nI_0]
    · obtain ⟨g6, g7⟩ := g4 (by omega)
      rw [g5, an_fa]
      rcases lk_ix (x := v2) (hc s) (by omega) with a | ⟨a, b, c⟩ | ⟨j, hj, rfl, a, b, c⟩
      · simp [g1, g2, g3, g6, g7, hin, J, a]
      · simp [g1, g2, g3, g6, g7, hin, J, a, b, c]
      · have e1 : nI s * 8 + nI j = nI (8 * s + j) := by
          rw [show (8 : Int32) = nI 8 from rfl, pk_mul, nI_add, Nat.mul_comm]
        have e2 : 8 * nI s + nI j = nI (8 * s + j) := by
          rw [show (8 : Int32) = nI 8 from rfl, pk_mul, nI_add]
        have e3 : vp_in (nI (8 * s + j)) 64 := vp_in_nI (by omega) (by omega)
        simp [g1, g2, g3, g6, g7, hin, J, a, b, c, e1, e2, e3]
theorem i_vc_table {k : Nat} {u : SX} {v : SY} (I : i_Rel k u v) (hk : k + 6 ≤ 3072) (v1 : Int32) : wpX_table (fun r => wpY_table (fun r' => r' = r ∧ i_Rel (k + 6) u v) v v1) u v1 := by
  have J := i_up I
  generalize i_Rel (k + 6) u v = P at J ⊢
  obtain ⟨⟨⟨K, R, z⟩, ⟨fAt, n, so, fl, st, h, p, m, M, l⟩, ⟨wi, wo, ql, hc, Q, tx⟩, ⟨f_down, f_typeSeen, yf_payload, yf_wants, yf_name, yf_first, yf_counts, yf_enters, yf_nodes, yf_values, yf_skipped, yf_pos, yf_there, yf_number, yf_at⟩, ⟨a_payload, a_life, a_theyEnded, a_weEnded, a_finishing, a_codes, a_headers, a_entries, a_kinds, a_repeats, a_messageCount⟩, ⟨a_nodeCount, a_nodeTypes, a_valueCount, a_valueOwners, a_values, a_skippedCount, a_reader, a_chainNode, a_chainEnd, a_nodeSize, a_nodePlace⟩, ⟨ya_type, ya_otherEnded, ya_prefix, ya_length, ya_got, ya_high, ya_has, ya_frame, ya_payloads⟩, ⟨ya_table, ya_nodeType, ya_valueNode, ya_valueNumber, ya_value, ya_from, ya_limit, ya_inside, ya_sizes⟩⟩, rfl, rfl, hD, hl, hH, hO, hQ, hX, hS, hq, hT, hK, hF, hM⟩ := I
  dsimp only [cr_x, cr_y]
  unfold wpX_table wpY_table wpY_no
  dsimp only
  obtain ⟨t1, t2, t3⟩ := hT
  by_cases hv : v1 = -1
  · simp [hv, J]
  · rcases lk_ix (x := v1) m (by omega) with a | ⟨a, b, c⟩ | ⟨j, hj, rfl, a, b, c⟩
    · simp [hv, J, a]
    · simp [hv, J, a, b, c]
    · have e3 : vp_in (nI j) 16 := vp_in_nI (by omega) (by omega)
      have e4 : vp_in (nI j) 17 := vp_in_nI (by omega) (by omega)
      have e5 : (nI j).toNatClampNeg = j := nI_clamp (by omega)
      simp [hv, J, a, b, c, e3, e4, e5, (t3 j hj).1]
theorem i_vc_out {k : Nat} {u : SX} {v : SY} (I : i_Rel k u v) (hk : k + 6 ≤ 3072) (v1 : Int32) : wpX_out (fun r => wpY_out (fun r' => r' = r ∧ i_Rel (k + 6) u v) v v1) u v1 := by
  have J := i_up I
  generalize i_Rel (k + 6) u v = P at J ⊢
  obtain ⟨⟨⟨K, R, z⟩, ⟨fAt, n, so, fl, st, h, p, m, M, l⟩, ⟨wi, wo, ql, hc, Q, tx⟩, ⟨f_down, f_typeSeen, yf_payload, yf_wants, yf_name, yf_first, yf_counts, yf_enters, yf_nodes, yf_values, yf_skipped, yf_pos, yf_there, yf_number, yf_at⟩, ⟨a_payload, a_life, a_theyEnded, a_weEnded, a_finishing, a_codes, a_headers, a_entries, a_kinds, a_repeats, a_messageCount⟩, ⟨a_nodeCount, a_nodeTypes, a_valueCount, a_valueOwners, a_values, a_skippedCount, a_reader, a_chainNode, a_chainEnd, a_nodeSize, a_nodePlace⟩, ⟨ya_type, ya_otherEnded, ya_prefix, ya_length, ya_got, ya_high, ya_has, ya_frame, ya_payloads⟩, ⟨ya_table, ya_nodeType, ya_valueNode, ya_valueNumber, ya_value, ya_from, ya_limit, ya_inside, ya_sizes⟩⟩, rfl, rfl, hD, hl, hH, hO, hQ, hX, hS, hq, hT, hK, hF, hM⟩ := I
  dsimp only [cr_x, cr_y]
  unfold wpX_out wpY_out wpY_no
  dsimp only
  obtain ⟨t1, t2⟩ := hO
  by_cases hv : v1 = -1
  · simp [hv, J]
  · rcases lk_ix (x := v1) z.2 (by omega) with a | ⟨a, b, c⟩ | ⟨j, hj, rfl, a, b, c⟩
    · simp [hv, J, a]
    · simp [hv, J, a, b, c]
    · have e3 : vp_in (nI j) 1200 := vp_in_nI (by omega) (by omega)
      have e5 : (nI j).toNatClampNeg = j := nI_clamp (by omega)
      simp [hv, J, a, b, c, e3, e5, an_fa, an_ga, an_255 _ (t2 j)]
theorem i_vc_drain {k : Nat} {u : SX} {v : SY} (I : i_Rel k u v) (hk : k + 6 ≤ 3072) : wpX_drain (fun r u' => wpY_drain (fun r' v' => r' = r ∧ i_Rel (k + 6) u' v') v) u := by
  have J := i_up I
  obtain ⟨⟨⟨K, R, z⟩, ⟨fAt, n, so, fl, st, h, p, m, M, l⟩, ⟨wi, wo, ql, hc, Q, tx⟩, ⟨f_down, f_typeSeen, yf_payload, yf_wants, yf_name, yf_first, yf_counts, yf_enters, yf_nodes, yf_values, yf_skipped, yf_pos, yf_there, yf_number, yf_at⟩, ⟨a_payload, a_life, a_theyEnded, a_weEnded, a_finishing, a_codes, a_headers, a_entries, a_kinds, a_repeats, a_messageCount⟩, ⟨a_nodeCount, a_nodeTypes, a_valueCount, a_valueOwners, a_values, a_skippedCount, a_reader, a_chainNode, a_chainEnd, a_nodeSize, a_nodePlace⟩, ⟨ya_type, ya_otherEnded, ya_prefix, ya_length, ya_got, ya_high, ya_has, ya_frame, ya_payloads⟩, ⟨ya_table, ya_nodeType, ya_valueNode, ya_valueNumber, ya_value, ya_from, ya_limit, ya_inside, ya_sizes⟩⟩, rfl, rfl, hD, hl, hH, hO, hQ, hX, hS, hq, hT, hK, hF, hM⟩ := J
  dsimp only [cr_x, cr_y]
  unfold wpX_drain wpY_drain
  exact ⟨rfl, ((K, R, (z.1, 0)), (fAt, n, so, fl, st, h, p, m, M, l), (wi, wo, ql, hc, Q, tx), (f_down, f_typeSeen, yf_payload, yf_wants, yf_name, yf_first, yf_counts, yf_enters, yf_nodes, yf_values, yf_skipped, yf_pos, yf_there, yf_number, yf_at), (a_payload, a_life, a_theyEnded, a_weEnded, a_finishing, a_codes, a_headers, a_entries, a_kinds, a_repeats, a_messageCount), (a_nodeCount, a_nodeTypes, a_valueCount, a_valueOwners, a_values, a_skippedCount, a_reader, a_chainNode, a_chainEnd, a_nodeSize, a_nodePlace), (ya_type, ya_otherEnded, ya_prefix, ya_length, ya_got, ya_high, ya_has, ya_frame, ya_payloads), (ya_table, ya_nodeType, ya_valueNode, ya_valueNumber, ya_value, ya_from, ya_limit, ya_inside, ya_sizes)), rfl, rfl, hD, hl, hH, ⟨Nat.zero_le _, hO.2⟩, hQ, hX, hS, hq, hT, hK, hF, hM⟩
end
