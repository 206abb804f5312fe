/-! Y2: calls that look at a message: nodes, types, skipped -/
section
variable {f_frameAt f_frameLength f_frameSort f_frameFlags f_frameStream f_down f_entryCount f_most f_typeSeen f_lastSender f_sentLength : Int32} {a_payload a_life a_theyEnded a_weEnded a_finishing a_codes a_windowIn a_windowOut a_headers a_headerCount a_entries a_kinds a_repeats a_messageCount a_text a_nodeCount a_nodeTypes a_valueCount a_valueOwners a_values a_skippedCount a_reader a_chainNode a_chainEnd a_queue a_queueLength a_sent a_nodeSize a_nodePlace : Nat → Int32} {yf_down yf_heads yf_paid yf_payload yf_wants yf_name yf_first yf_counts yf_enters yf_most yf_many yf_sent yf_last yf_nodes yf_values yf_skipped yf_pos yf_there yf_number yf_at : Int32} {ya_kind ya_repeated ya_how ya_code ya_coming ya_going ya_type ya_headers ya_header ya_queued ya_otherEnded ya_ended ya_finishing ya_queue ya_prefix ya_length ya_got ya_high ya_whole ya_has ya_bytes ya_frame ya_payloads ya_table ya_out ya_nodeType ya_valueNode ya_valueNumber ya_value ya_from ya_limit ya_inside ya_sizes : Nat → Int32}
/-- what a look leaves: the reference's own arrays of a reading -/
theorem lo_J {k T : Nat} {K : Nat → Nat} {R : Nat → Bool} {z : (Nat → Nat) × Nat} {fAt n so fl st h p m M l : Nat} {wi wo ql hc Q tx : Nat → Nat}
    (hC : cr_C k ((K, R, z), (fAt, n, so, fl, st, h, p, m, M, l), (wi, wo, ql, hc, Q, tx), (f_down, f_typeSeen, yf_payload, yf_wants, yf_name, yf_first, yf_counts, yf_enters, yf_nodes, yf_values, yf_skipped, yf_pos, yf_there, yf_number, yf_at), (a_payload, a_life, a_theyEnded, a_weEnded, a_finishing, a_codes, a_headers, a_entries, a_kinds, a_repeats, a_messageCount), (a_nodeCount, a_nodeTypes, a_valueCount, a_valueOwners, a_values, a_skippedCount, a_reader, a_chainNode, a_chainEnd, a_nodeSize, a_nodePlace), (ya_type, ya_otherEnded, ya_prefix, ya_length, ya_got, ya_high, ya_has, ya_frame, ya_payloads), (ya_table, ya_nodeType, ya_valueNode, ya_valueNumber, ya_value, ya_from, ya_limit, ya_inside, ya_sizes))) (z' : yr_Z) : i_Rel (k + 6) (nI fAt, nI n, nI so, nI fl, nI st, f_down, nI m, nI M, f_typeSeen, nI l, nI z.2, a_payload, a_life, a_theyEnded, a_weEnded, a_finishing, a_codes, an_f wi, an_f wo, a_headers, an_f hc, a_entries, a_kinds, a_repeats, a_messageCount, an_f tx, a_nodeCount, a_nodeTypes, a_valueCount, a_valueOwners, a_values, a_skippedCount, a_reader, a_chainNode, a_chainEnd, an_f Q, an_f ql, an_f z.1, a_nodeSize, a_nodePlace) (f_down, nI h, nI p, yf_payload, yf_wants, yf_name, yf_first, yf_counts, yf_enters, nI M, nI m, nI z.2, nI (if l = 0 then 7 else l), z'.1, z'.2.1, z'.2.2.1, z'.2.2.2.1, nI T, z'.2.2.2.2.1, z'.2.2.2.2.2.1, a_kinds, a_repeats, a_life, a_codes, an_f wi, an_f wo, ya_type, an_f hc, a_headers, an_f ql, ya_otherEnded, a_weEnded, a_finishing, an_g Q, ya_prefix, ya_length, ya_got, ya_high, a_messageCount, ya_has, an_g tx, ya_frame, ya_payloads, ya_table, an_g z.1, z'.2.2.2.2.2.2.1, z'.2.2.2.2.2.2.2.1, z'.2.2.2.2.2.2.2.2.1, z'.2.2.2.2.2.2.2.2.2.1, z'.2.2.2.2.2.2.2.2.2.2.1, z'.2.2.2.2.2.2.2.2.2.2.2.1, z'.2.2.2.2.2.2.2.2.2.2.2.2, ya_sizes) := by
  obtain ⟨hD, hl, hH, hO, hQ, hX, hS, hq, hT, hK, hF, hM⟩ := hC
  exact ⟨((K, R, z), (fAt, n, so, fl, st, h, p, m, M, l), (wi, wo, ql, hc, Q, tx), (f_down, f_typeSeen, yf_payload, yf_wants, yf_name, yf_first, yf_counts, yf_enters, z'.1, z'.2.1, z'.2.2.1, z'.2.2.2.1, nI T, z'.2.2.2.2.1, z'.2.2.2.2.2.1), (a_payload, a_life, a_theyEnded, a_weEnded, a_finishing, a_codes, a_headers, a_entries, a_kinds, a_repeats, a_messageCount), (a_nodeCount, a_nodeTypes, a_valueCount, a_valueOwners, a_values, a_skippedCount, a_reader, a_chainNode, a_chainEnd, a_nodeSize, a_nodePlace), (ya_type, ya_otherEnded, ya_prefix, ya_length, ya_got, ya_high, ya_has, ya_frame, ya_payloads), (ya_table, z'.2.2.2.2.2.2.1, z'.2.2.2.2.2.2.2.1, z'.2.2.2.2.2.2.2.2.1, z'.2.2.2.2.2.2.2.2.2.1, z'.2.2.2.2.2.2.2.2.2.2.1, z'.2.2.2.2.2.2.2.2.2.2.2.1, z'.2.2.2.2.2.2.2.2.2.2.2.2, ya_sizes)), rfl, rfl, hD, hl, hH, hO, hQ, hX, hS, hq, hT, hK, hF, fun s h1 h2 => cr_m_k (by omega) (hM s h1 h2)⟩
theorem lo_M {k s : Nat} {K : Nat → Nat} {R : Nat → Bool} {z : (Nat → Nat) × Nat} {fAt n so fl st h p m M l : Nat} {wi wo ql hc Q tx : Nat → Nat}
    (hC : cr_C k ((K, R, z), (fAt, n, so, fl, st, h, p, m, M, l), (wi, wo, ql, hc, Q, tx), (f_down, f_typeSeen, yf_payload, yf_wants, yf_name, yf_first, yf_counts, yf_enters, yf_nodes, yf_values, yf_skipped, yf_pos, yf_there, yf_number, yf_at), (a_payload, a_life, a_theyEnded, a_weEnded, a_finishing, a_codes, a_headers, a_entries, a_kinds, a_repeats, a_messageCount), (a_nodeCount, a_nodeTypes, a_valueCount, a_valueOwners, a_values, a_skippedCount, a_reader, a_chainNode, a_chainEnd, a_nodeSize, a_nodePlace), (ya_type, ya_otherEnded, ya_prefix, ya_length, ya_got, ya_high, ya_has, ya_frame, ya_payloads), (ya_table, ya_nodeType, ya_valueNode, ya_valueNumber, ya_value, ya_from, ya_limit, ya_inside, ya_sizes))) (s1 : 1 ≤ s) (s8 : s < 8) (w : ya_has s = 1) : ∃ c dep L, L ≤ 200 ∧ pm_CI K R L dep c ∧ cr_XD K s a_nodeCount a_nodeTypes a_valueCount a_valueOwners a_values (pm_d c) ∧ a_skippedCount s = nI (pm_sk c) ∧
      ∀ (post : Int32 → SY → Prop), (∀ (z' : yr_Z), yr_ok c (pm_pos c) z' → post 1 (f_down, nI h, nI p, yf_payload, yf_wants, yf_name, yf_first, yf_counts, yf_enters, nI M, nI m, nI z.2, nI (if l = 0 then 7 else l), z'.1, z'.2.1, z'.2.2.1, z'.2.2.2.1, nI L, z'.2.2.2.2.1, z'.2.2.2.2.2.1, a_kinds, a_repeats, a_life, a_codes, an_f wi, an_f wo, ya_type, an_f hc, a_headers, an_f ql, ya_otherEnded, a_weEnded, a_finishing, an_g Q, ya_prefix, ya_length, ya_got, ya_high, a_messageCount, ya_has, an_g tx, ya_frame, ya_payloads, ya_table, an_g z.1, z'.2.2.2.2.2.2.1, z'.2.2.2.2.2.2.2.1, z'.2.2.2.2.2.2.2.2.1, z'.2.2.2.2.2.2.2.2.2.1, z'.2.2.2.2.2.2.2.2.2.2.1, z'.2.2.2.2.2.2.2.2.2.2.2.1, z'.2.2.2.2.2.2.2.2.2.2.2.2, ya_sizes)) → wpY_open post (f_down, nI h, nI p, yf_payload, yf_wants, yf_name, yf_first, yf_counts, yf_enters, nI M, nI m, nI z.2, nI (if l = 0 then 7 else l), yf_nodes, yf_values, yf_skipped, yf_pos, yf_there, yf_number, yf_at, a_kinds, a_repeats, a_life, a_codes, an_f wi, an_f wo, ya_type, an_f hc, a_headers, an_f ql, ya_otherEnded, a_weEnded, a_finishing, an_g Q, ya_prefix, ya_length, ya_got, ya_high, a_messageCount, ya_has, an_g tx, ya_frame, ya_payloads, ya_table, an_g z.1, ya_nodeType, ya_valueNode, ya_valueNumber, ya_value, ya_from, ya_limit, ya_inside, ya_sizes) (nI s) := by
  obtain ⟨hD, hl, hH, hO, hQ, hX, hS, hq, hT, hK, hF, hM⟩ := hC
  obtain ⟨p', m', y', h1, h2, h3, h4, h5, h6, h7, h8, h9, h10, h11, h12⟩ := hM s s1 s8
  obtain ⟨L, l1, l2, l3, dep, c, d1, d2, d3, d4⟩ := h11 w
  exact ⟨c, dep, L, l1, d2, d3, d4, fun post H => lo_Y1 s1 s8 h6 l1 hK hX w (h10 (Or.inr w)).1 l2 l3 d1 H⟩
theorem lo_H {k s : Nat} {K : Nat → Nat} {R : Nat → Bool} {z : (Nat → Nat) × Nat} {fAt n so fl st h p m M l : Nat} {wi wo ql hc Q tx : Nat → Nat}
    (hC : cr_C k ((K, R, z), (fAt, n, so, fl, st, h, p, m, M, l), (wi, wo, ql, hc, Q, tx), (f_down, f_typeSeen, yf_payload, yf_wants, yf_name, yf_first, yf_counts, yf_enters, yf_nodes, yf_values, yf_skipped, yf_pos, yf_there, yf_number, yf_at), (a_payload, a_life, a_theyEnded, a_weEnded, a_finishing, a_codes, a_headers, a_entries, a_kinds, a_repeats, a_messageCount), (a_nodeCount, a_nodeTypes, a_valueCount, a_valueOwners, a_values, a_skippedCount, a_reader, a_chainNode, a_chainEnd, a_nodeSize, a_nodePlace), (ya_type, ya_otherEnded, ya_prefix, ya_length, ya_got, ya_high, ya_has, ya_frame, ya_payloads), (ya_table, ya_nodeType, ya_valueNode, ya_valueNumber, ya_value, ya_from, ya_limit, ya_inside, ya_sizes))) (s1 : 1 ≤ s) (s8 : s < 8) : ya_has s = 0 ∨ ya_has s = 1 := by
  obtain ⟨hD, hl, hH, hO, hQ, hX, hS, hq, hT, hK, hF, hM⟩ := hC
  obtain ⟨p', m', y', h1, h2, h3, h4, h5, h6, h7, h8⟩ := hM s s1 s8
  by_cases w : m' ≠ 0 ∧ p' < 3
  · rw [if_pos w] at h7; exact Or.inr h7
  · rw [if_neg w] at h7; exact Or.inl h7
theorem i_vc_nodes {k : Nat} {u : SX} {v : SY} (I : i_Rel k u v) (hk : k + 6 ≤ 3072) (v1 : Int32) : wpX_nodes (fun r => wpY_nodes (fun r' v' => r' = r ∧ i_Rel (k + 6) u v') v v1) u v1 := by
  have J := i_up I
  obtain ⟨⟨⟨K, R, z⟩, ⟨fAt, n, so, fl, st, h, p, m, M, l⟩, ⟨wi, wo, ql, hc, Q, tx⟩, ⟨f_down, f_typeSeen, yf_payload, yf_wants, yf_name, yf_first, yf_counts, yf_enters, yf_nodes, yf_values, yf_skipped, yf_pos, yf_there, yf_number, yf_at⟩, ⟨a_payload, a_life, a_theyEnded, a_weEnded, a_finishing, a_codes, a_headers, a_entries, a_kinds, a_repeats, a_messageCount⟩, ⟨a_nodeCount, a_nodeTypes, a_valueCount, a_valueOwners, a_values, a_skippedCount, a_reader, a_chainNode, a_chainEnd, a_nodeSize, a_nodePlace⟩, ⟨ya_type, ya_otherEnded, ya_prefix, ya_length, ya_got, ya_high, ya_has, ya_frame, ya_payloads⟩, ⟨ya_table, ya_nodeType, ya_valueNode, ya_valueNumber, ya_value, ya_from, ya_limit, ya_inside, ya_sizes⟩⟩, rfl, rfl, hD, hl, hH, hO, hQ, hX, hS, hq, hT, hK, hF, hM⟩ := I
  have hC : cr_C k ((K, R, z), (fAt, n, so, fl, st, h, p, m, M, l), (wi, wo, ql, hc, Q, tx), (f_down, f_typeSeen, yf_payload, yf_wants, yf_name, yf_first, yf_counts, yf_enters, yf_nodes, yf_values, yf_skipped, yf_pos, yf_there, yf_number, yf_at), (a_payload, a_life, a_theyEnded, a_weEnded, a_finishing, a_codes, a_headers, a_entries, a_kinds, a_repeats, a_messageCount), (a_nodeCount, a_nodeTypes, a_valueCount, a_valueOwners, a_values, a_skippedCount, a_reader, a_chainNode, a_chainEnd, a_nodeSize, a_nodePlace), (ya_type, ya_otherEnded, ya_prefix, ya_length, ya_got, ya_high, ya_has, ya_frame, ya_payloads), (ya_table, ya_nodeType, ya_valueNode, ya_valueNumber, ya_value, ya_from, ya_limit, ya_inside, ya_sizes)) := ⟨hD, hl, hH, hO, hQ, hX, hS, hq, hT, hK, hF, hM⟩
  dsimp only [cr_x, cr_y] at J ⊢
  unfold wpX_nodes wpY_nodes
  rcases lk_c v1 with ⟨h1, h2, h3, h4⟩ | ⟨h1, h2, h3, h4, h5⟩ | ⟨s, hs, rfl⟩
  · exact lo_Xn (Or.inl h2) (br_t rfl (lo_Yn (Or.inl h2) (br_t rfl ⟨rfl, J⟩)))
  · exact lo_Xn (Or.inr ⟨h2, h4⟩) (br_t rfl (lo_Yn (Or.inr ⟨h2, h3⟩) (br_t rfl ⟨rfl, J⟩)))
  · by_cases h0 : s = 0
    · subst h0
      exact lo_Xn (Or.inl (by decide)) (br_t rfl (lo_Yn (Or.inl (by decide)) (br_t rfl ⟨rfl, J⟩)))
    · refine lo_X (by omega) hs (by omega) (hM s (by omega) hs) (fun w => ?_) (fun w => br_t rfl (lo_Y0 (by omega) hs w (br_t rfl ⟨rfl, J⟩)))
      obtain ⟨c, dep, L, l1, d2, d3, d4, HO⟩ := lo_M hC (show 1 ≤ s by omega) hs w
      refine br_f (by decide) ?_
      rw [(xr_c8 hs).2, d3.1]
      exact ⟨(xr_c8 hs).1, HO _ (fun z' hz => br_f (by decide) ⟨hz.1, lo_J hC z'⟩)⟩
theorem i_vc_skipped {k : Nat} {u : SX} {v : SY} (I : i_Rel k u v) (hk : k + 6 ≤ 3072) (v1 : Int32) : wpX_skipped (fun r => wpY_skipped (fun r' v' => r' = r ∧ i_Rel (k + 6) u v') v v1) u v1 := by
  have J := i_up I
  obtain ⟨⟨⟨K, R, z⟩, ⟨fAt, n, so, fl, st, h, p, m, M, l⟩, ⟨wi, wo, ql, hc, Q, tx⟩, ⟨f_down, f_typeSeen, yf_payload, yf_wants, yf_name, yf_first, yf_counts, yf_enters, yf_nodes, yf_values, yf_skipped, yf_pos, yf_there, yf_number, yf_at⟩, ⟨a_payload, a_life, a_theyEnded, a_weEnded, a_finishing, a_codes, a_headers, a_entries, a_kinds, a_repeats, a_messageCount⟩, ⟨a_nodeCount, a_nodeTypes, a_valueCount, a_valueOwners, a_values, a_skippedCount, a_reader, a_chainNode, a_chainEnd, a_nodeSize, a_nodePlace⟩, ⟨ya_type, ya_otherEnded, ya_prefix, ya_length, ya_got, ya_high, ya_has, ya_frame, ya_payloads⟩, ⟨ya_table, ya_nodeType, ya_valueNode, ya_valueNumber, ya_value, ya_from, ya_limit, ya_inside, ya_sizes⟩⟩, rfl, rfl, hD, hl, hH, hO, hQ, hX, hS, hq, hT, hK, hF, hM⟩ := I
  have hC : cr_C k ((K, R, z), (fAt, n, so, fl, st, h, p, m, M, l), (wi, wo, ql, hc, Q, tx), (f_down, f_typeSeen, yf_payload, yf_wants, yf_name, yf_first, yf_counts, yf_enters, yf_nodes, yf_values, yf_skipped, yf_pos, yf_there, yf_number, yf_at), (a_payload, a_life, a_theyEnded, a_weEnded, a_finishing, a_codes, a_headers, a_entries, a_kinds, a_repeats, a_messageCount), (a_nodeCount, a_nodeTypes, a_valueCount, a_valueOwners, a_values, a_skippedCount, a_reader, a_chainNode, a_chainEnd, a_nodeSize, a_nodePlace), (ya_type, ya_otherEnded, ya_prefix, ya_length, ya_got, ya_high, ya_has, ya_frame, ya_payloads), (ya_table, ya_nodeType, ya_valueNode, ya_valueNumber, ya_value, ya_from, ya_limit, ya_inside, ya_sizes)) := ⟨hD, hl, hH, hO, hQ, hX, hS, hq, hT, hK, hF, hM⟩
  dsimp only [cr_x, cr_y] at J ⊢
  unfold wpX_skipped wpY_skipped
  rcases lk_c v1 with ⟨h1, h2, h3, h4⟩ | ⟨h1, h2, h3, h4, h5⟩ | ⟨s, hs, rfl⟩
  · exact lo_Xn (Or.inl h2) (br_t rfl (lo_Yn (Or.inl h2) (br_t rfl ⟨rfl, J⟩)))
  · exact lo_Xn (Or.inr ⟨h2, h4⟩) (br_t rfl (lo_Yn (Or.inr ⟨h2, h3⟩) (br_t rfl ⟨rfl, J⟩)))
  · by_cases h0 : s = 0
    · subst h0
      exact lo_Xn (Or.inl (by decide)) (br_t rfl (lo_Yn (Or.inl (by decide)) (br_t rfl ⟨rfl, J⟩)))
    · refine lo_X (by omega) hs (by omega) (hM s (by omega) hs) (fun w => ?_) (fun w => br_t rfl (lo_Y0 (by omega) hs w (br_t rfl ⟨rfl, J⟩)))
      obtain ⟨c, dep, L, l1, d2, d3, d4, HO⟩ := lo_M hC (show 1 ≤ s by omega) hs w
      refine br_f (by decide) ?_
      rw [(xr_c8 hs).2, d4]
      exact ⟨(xr_c8 hs).1, HO _ (fun z' hz => br_f (by decide) ⟨hz.2.2.1, lo_J hC z'⟩)⟩
/-- a node that is there, or not -/
theorem lo_node {x : Int32} {nn : Nat} (h : nn ≤ 16) : (x < 0) ∨ (¬ x < 0 ∧ nI nn ≤ x ∧ ¬ x ≤ nI nn - 1) ∨ ∃ a, a < nn ∧ x = nI a ∧ ¬ x < 0 ∧ ¬ nI nn ≤ x ∧ x ≤ nI nn - 1 := lk_ix nn (by omega)
theorem i_vc_typeOf {k : Nat} {u : SX} {v : SY} (I : i_Rel k u v) (hk : k + 6 ≤ 3072) (v1 : Int32) (v2 : Int32) : wpX_typeOf (fun r => wpY_typeOf (fun r' v' => r' = r ∧ i_Rel (k + 6) u v') v v1 v2) u v1 v2 := by
  have J := i_up I
  obtain ⟨⟨⟨K, R, z⟩, ⟨fAt, n, so, fl, st, h, p, m, M, l⟩, ⟨wi, wo, ql, hc, Q, tx⟩, ⟨f_down, f_typeSeen, yf_payload, yf_wants, yf_name, yf_first, yf_counts, yf_enters, yf_nodes, yf_values, yf_skipped, yf_pos, yf_there, yf_number, yf_at⟩, ⟨a_payload, a_life, a_theyEnded, a_weEnded, a_finishing, a_codes, a_headers, a_entries, a_kinds, a_repeats, a_messageCount⟩, ⟨a_nodeCount, a_nodeTypes, a_valueCount, a_valueOwners, a_values, a_skippedCount, a_reader, a_chainNode, a_chainEnd, a_nodeSize, a_nodePlace⟩, ⟨ya_type, ya_otherEnded, ya_prefix, ya_length, ya_got, ya_high, ya_has, ya_frame, ya_payloads⟩, ⟨ya_table, ya_nodeType, ya_valueNode, ya_valueNumber, ya_value, ya_from, ya_limit, ya_inside, ya_sizes⟩⟩, rfl, rfl, hD, hl, hH, hO, hQ, hX, hS, hq, hT, hK, hF, hM⟩ := I
  have hC : cr_C k ((K, R, z), (fAt, n, so, fl, st, h, p, m, M, l), (wi, wo, ql, hc, Q, tx), (f_down, f_typeSeen, yf_payload, yf_wants, yf_name, yf_first, yf_counts, yf_enters, yf_nodes, yf_values, yf_skipped, yf_pos, yf_there, yf_number, yf_at), (a_payload, a_life, a_theyEnded, a_weEnded, a_finishing, a_codes, a_headers, a_entries, a_kinds, a_repeats, a_messageCount), (a_nodeCount, a_nodeTypes, a_valueCount, a_valueOwners, a_values, a_skippedCount, a_reader, a_chainNode, a_chainEnd, a_nodeSize, a_nodePlace), (ya_type, ya_otherEnded, ya_prefix, ya_length, ya_got, ya_high, ya_has, ya_frame, ya_payloads), (ya_table, ya_nodeType, ya_valueNode, ya_valueNumber, ya_value, ya_from, ya_limit, ya_inside, ya_sizes)) := ⟨hD, hl, hH, hO, hQ, hX, hS, hq, hT, hK, hF, hM⟩
  dsimp only [cr_x, cr_y] at J ⊢
  have HN : (∀ s, 1 ≤ s → s < 8 → v1 = nI s → ya_has s = 0) → wpY_typeOf (fun r' v' => r' = -1 ∧ i_Rel (k + 6) (nI fAt, nI n, nI so, nI fl, nI st, f_down, nI m, nI M, f_typeSeen, nI l, nI z.2, a_payload, a_life, a_theyEnded, a_weEnded, a_finishing, a_codes, an_f wi, an_f wo, a_headers, an_f hc, a_entries, a_kinds, a_repeats, a_messageCount, an_f tx, a_nodeCount, a_nodeTypes, a_valueCount, a_valueOwners, a_values, a_skippedCount, a_reader, a_chainNode, a_chainEnd, an_f Q, an_f ql, an_f z.1, a_nodeSize, a_nodePlace) v') (f_down, nI h, nI p, yf_payload, yf_wants, yf_name, yf_first, yf_counts, yf_enters, nI M, nI m, nI z.2, nI (if l = 0 then 7 else l), yf_nodes, yf_values, yf_skipped, yf_pos, yf_there, yf_number, yf_at, a_kinds, a_repeats, a_life, a_codes, an_f wi, an_f wo, ya_type, an_f hc, a_headers, an_f ql, ya_otherEnded, a_weEnded, a_finishing, an_g Q, ya_prefix, ya_length, ya_got, ya_high, a_messageCount, ya_has, an_g tx, ya_frame, ya_payloads, ya_table, an_g z.1, ya_nodeType, ya_valueNode, ya_valueNumber, ya_value, ya_from, ya_limit, ya_inside, ya_sizes) v1 v2 := by
    intro hno
    unfold wpY_typeOf
    rcases lk_c v1 with ⟨h1, h2, h3, h4⟩ | ⟨h1, h2, h3, h4, h5⟩ | ⟨s, hs, rfl⟩
    · exact lo_Yn (Or.inl h2) (br_t rfl ⟨rfl, J⟩)
    · exact lo_Yn (Or.inr ⟨h2, h3⟩) (br_t rfl ⟨rfl, J⟩)
    · by_cases h0 : s = 0
      · subst h0; exact lo_Yn (Or.inl (by decide)) (br_t rfl ⟨rfl, J⟩)
      · exact lo_Y0 (by omega) hs (hno s (by omega) hs rfl) (br_t rfl ⟨rfl, J⟩)
  have HB : ∀ s, 1 ≤ s → s < 8 → v1 = nI s → ya_has s = 1 → (v2 < 0) → wpY_typeOf (fun r' v' => r' = -1 ∧ i_Rel (k + 6) (nI fAt, nI n, nI so, nI fl, nI st, f_down, nI m, nI M, f_typeSeen, nI l, nI z.2, a_payload, a_life, a_theyEnded, a_weEnded, a_finishing, a_codes, an_f wi, an_f wo, a_headers, an_f hc, a_entries, a_kinds, a_repeats, a_messageCount, an_f tx, a_nodeCount, a_nodeTypes, a_valueCount, a_valueOwners, a_values, a_skippedCount, a_reader, a_chainNode, a_chainEnd, an_f Q, an_f ql, an_f z.1, a_nodeSize, a_nodePlace) v') (f_down, nI h, nI p, yf_payload, yf_wants, yf_name, yf_first, yf_counts, yf_enters, nI M, nI m, nI z.2, nI (if l = 0 then 7 else l), yf_nodes, yf_values, yf_skipped, yf_pos, yf_there, yf_number, yf_at, a_kinds, a_repeats, a_life, a_codes, an_f wi, an_f wo, ya_type, an_f hc, a_headers, an_f ql, ya_otherEnded, a_weEnded, a_finishing, an_g Q, ya_prefix, ya_length, ya_got, ya_high, a_messageCount, ya_has, an_g tx, ya_frame, ya_payloads, ya_table, an_g z.1, ya_nodeType, ya_valueNode, ya_valueNumber, ya_value, ya_from, ya_limit, ya_inside, ya_sizes) v1 v2 := by
    intro s s1 s8 e w hb
    obtain ⟨c, dep, L, _, e1, e2, _, e3⟩ := lo_M hC s1 s8 w
    rw [e]
    unfold wpY_typeOf
    exact e3 _ (fun z' hz => br_f (by decide) (yn_lo hb (br_f (by decide) ⟨rfl, lo_J hC z'⟩)))
  unfold wpX_typeOf wpX_hasNode
  dsimp only
  by_cases hv2 : v2 < 0
  · refine br_t hv2 (br_t rfl ?_)
    rcases lk_c v1 with ⟨h1, h2, h3, h4⟩ | ⟨h1, h2, h3, h4, h5⟩ | ⟨s, hs, rfl⟩
    · refine HN (fun s s1 s8 e => ?_)
      rw [e] at h1; exact absurd h1 (lk_s s s8).1
    · refine HN (fun s s1 s8 e => ?_)
      rw [e] at h4; exact absurd h4 (lk_s s s8).2.2.1
    · by_cases h0 : s = 0
      · refine HN (fun s' s1 s8 e => ?_)
        have := (nI_eq (a := s) (b := s') (by omega) (by omega)).mp e
        omega
      · rcases lo_H hC (show 1 ≤ s by omega) hs with w | w
        · refine HN (fun s' s1 s8 e => ?_)
          have := (nI_eq (a := s) (b := s') (by omega) (by omega)).mp e
          subst this; exact w
        · exact HB s (by omega) hs rfl w hv2
  · refine br_f hv2 ?_
    rcases lk_c v1 with ⟨h1, h2, h3, h4⟩ | ⟨h1, h2, h3, h4, h5⟩ | ⟨s, hs, rfl⟩
    · refine lo_Xn (Or.inl h2) (br_t rfl (br_t rfl (HN (fun s s1 s8 e => ?_))))
      rw [e] at h1; exact absurd h1 (lk_s s s8).1
    · refine lo_Xn (Or.inr ⟨h2, h4⟩) (br_t rfl (br_t rfl (HN (fun s s1 s8 e => ?_))))
      rw [e] at h4; exact absurd h4 (lk_s s s8).2.2.1
    · by_cases h0 : s = 0
      · subst h0
        refine lo_Xn (Or.inl (by decide)) (br_t rfl (br_t rfl (HN (fun s' s1 s8 e => ?_))))
        have := (nI_eq (a := 0) (b := s') (by omega) (by omega)).mp e
        omega
      · refine lo_X (by omega) hs (by omega) (hM s (by omega) hs) (fun w => ?_) (fun w => br_t rfl (br_t rfl (HN (fun s' s1 s8 e => ?_))))
        · obtain ⟨c, dep, L, _, e1, e2, _, e3⟩ := lo_M hC (show 1 ≤ s by omega) hs w
          refine br_f (by decide) ?_
          rw [(xr_c8 hs).2, e2.1]
          have hnn := e1.1.2.1
          refine ⟨(xr_c8 hs).1, ?_⟩
          rcases lo_node (x := v2) hnn with a | ⟨a, b, d⟩ | ⟨j, hj, rfl, a, b, d⟩
          · exact absurd a hv2
          · refine br_t b (br_t rfl ?_)
            unfold wpY_typeOf
            refine e3 _ (fun z' hz => br_f (by decide) ?_)
            exact yn_hi a (by rw [hz.1]; exact d) (br_f (by decide) ⟨rfl, lo_J hC z'⟩)
          · refine br_f b (br_f (by decide) ?_)
            obtain ⟨c1, c2⟩ := xr_c16 (s := s) (a := j) hs (by omega)
            rw [c2, e2.2.2.1 j hj]
            refine ⟨c1, ?_⟩
            unfold wpY_typeOf
            refine e3 _ (fun z' hz => br_f (by decide) ?_)
            refine yn_in a (by rw [hz.1]; exact d) (br_t rfl ⟨vp_in_nI (by omega) (by omega), ?_, lo_J hC z'⟩)
            rw [nI_clamp (by omega)]
            exact hz.2.2.2.2.2.1.1 j hj
        · have := (nI_eq (a := s) (b := s') (by omega) (by omega)).mp e
          subst this; exact w
end
