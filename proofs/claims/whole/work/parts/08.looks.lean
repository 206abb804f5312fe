/-! I: calls that only look -/
section
variable {f_frameAt f_frameLength f_frameSort f_frameFlags f_frameStream f_down f_entryCount f_most f_typeSeen f_lastSender f_sentLength : Int32} {a_payload a_life a_theyEnded a_weEnded a_finishing a_codes a_windowIn a_windowOut a_headers a_headerCount a_entries a_kinds a_repeats a_messageCount a_text a_nodeCount a_nodeTypes a_valueCount a_valueOwners a_values a_skippedCount a_reader a_chainNode a_chainEnd a_queue a_queueLength a_sent a_nodeSize a_nodePlace : Nat → Int32} {yf_down yf_heads yf_paid yf_payload yf_wants yf_name yf_first yf_counts yf_enters yf_most yf_many yf_sent yf_last yf_nodes yf_values yf_skipped yf_pos yf_there yf_number yf_at : Int32} {ya_kind ya_repeated ya_how ya_code ya_coming ya_going ya_type ya_headers ya_header ya_queued ya_otherEnded ya_ended ya_finishing ya_queue ya_prefix ya_length ya_got ya_high ya_whole ya_has ya_bytes ya_frame ya_payloads ya_table ya_out ya_nodeType ya_valueNode ya_valueNumber ya_value ya_from ya_limit ya_inside ya_sizes : Nat → Int32}
theorem lk_c (x : Int32) : (x < 0 ∧ x < 1 ∧ ¬ 7 < x ∧ ¬ x = 0) ∨ (¬ x < 0 ∧ ¬ x < 1 ∧ ¬ x ≤ 7 ∧ 7 < x ∧ ¬ x = 0) ∨ ∃ s, s < 8 ∧ x = nI s := by
  rcases pk_ix x (n := 8) (by omega) with h | h | ⟨s, hs, rfl⟩
  · left
    refine ⟨h, ?_, ?_, ?_⟩
    · rw [Int32.lt_iff_toInt_lt] at h ⊢
      have h0 : (0 : Int32).toInt = 0 := by decide
      have h1 : (1 : Int32).toInt = 1 := by decide
      omega
    · intro g
      rw [Int32.lt_iff_toInt_lt] at h g
      have h0 : (0 : Int32).toInt = 0 := by decide
      have h1 : (7 : Int32).toInt = 7 := by decide
      omega
    · intro g; subst g; exact absurd h (by decide)
  · right; left
    have h8 : (nI 8).toInt = 8 := by decide
    have h0 : (0 : Int32).toInt = 0 := by decide
    have h1 : (1 : Int32).toInt = 1 := by decide
    have h7 : (7 : Int32).toInt = 7 := by decide
    rw [Int32.le_iff_toInt_le] at h
    refine ⟨?_, ?_, ?_, ?_, ?_⟩
    · rw [Int32.lt_iff_toInt_lt]; omega
    · rw [Int32.lt_iff_toInt_lt]; omega
    · rw [Int32.le_iff_toInt_le]; omega
    · rw [Int32.lt_iff_toInt_lt]; omega
    · intro g; subst g; omega
  · right; right; exact ⟨s, hs, rfl⟩
theorem lk_s : ∀ s, s < 8 → ¬ nI s < 0 ∧ nI s ≤ 7 ∧ ¬ 7 < nI s ∧ (1 ≤ s → ¬ nI s < 1 ∧ ¬ nI s = 0) ∧ (nI s).toNatClampNeg = s := by
  decide +kernel
theorem yn_in {post : Int32 → Prop} {x a b : Int32} (h1 : ¬ x < a) (h2 : x ≤ b) (h : post 0) : wpY_no post x a b := br_f h1 (br_t h2 h)
theorem yn_lo {post : Int32 → Prop} {x a b : Int32} (h1 : x < a) (h : post 1) : wpY_no post x a b := br_t h1 h
theorem yn_hi {post : Int32 → Prop} {x a b : Int32} (h1 : ¬ x < a) (h2 : ¬ x ≤ b) (h : post 1) : wpY_no post x a b := br_f h1 (br_f h2 h)
theorem xs_t {post : Int32 → Prop} {s : Nat} (h1 : 1 ≤ s) (h2 : s < 8) (h : post 1) : wpX_isStream post (f_frameAt, f_frameLength, f_frameSort, f_frameFlags, f_frameStream, f_down, f_entryCount, f_most, f_typeSeen, f_lastSender, f_sentLength, a_payload, a_life, a_theyEnded, a_weEnded, a_finishing, a_codes, a_windowIn, a_windowOut, a_headers, a_headerCount, a_entries, a_kinds, a_repeats, a_messageCount, a_text, a_nodeCount, a_nodeTypes, a_valueCount, a_valueOwners, a_values, a_skippedCount, a_reader, a_chainNode, a_chainEnd, a_queue, a_queueLength, a_sent, a_nodeSize, a_nodePlace) (nI s) :=
  br_f ((lk_s s h2).2.2.2.1 h1).1 (br_f (lk_s s h2).2.2.1 h)
theorem xs_f {post : Int32 → Prop} {x : Int32} (hx : x < 1 ∨ (¬ x < 1 ∧ 7 < x)) (h : post 0) : wpX_isStream post (f_frameAt, f_frameLength, f_frameSort, f_frameFlags, f_frameStream, f_down, f_entryCount, f_most, f_typeSeen, f_lastSender, f_sentLength, a_payload, a_life, a_theyEnded, a_weEnded, a_finishing, a_codes, a_windowIn, a_windowOut, a_headers, a_headerCount, a_entries, a_kinds, a_repeats, a_messageCount, a_text, a_nodeCount, a_nodeTypes, a_valueCount, a_valueOwners, a_values, a_skippedCount, a_reader, a_chainNode, a_chainEnd, a_queue, a_queueLength, a_sent, a_nodeSize, a_nodePlace) x := by
  rcases hx with g | ⟨g1, g2⟩
  · exact br_t g h
  · exact br_f g1 (br_t g2 h)

theorem cr_m_k {k k' : Nat} (hk : k ≤ k') {K : Nat → Nat} {R : Nat → Bool} {s : Nat} {tx : Nat → Nat} {life mc nc nt vc vo va sk rd cn ce ty le go hi ha pr : Nat → Int32}
    (h : cr_m k K R s tx life mc nc nt vc vo va sk rd cn ce ty le go hi ha pr) : cr_m k' K R s tx life mc nc nt vc vo va sk rd cn ce ty le go hi ha pr := by
  obtain ⟨p, m, y, h1, h2, h3, h4, h5⟩ := h
  exact ⟨p, m, y, h1, h2, h3, Nat.le_trans h4 hk, h5⟩
theorem i_up {k : Nat} {u : SX} {v : SY} (h : i_Rel k u v) : i_Rel (k + 6) u v := by
  obtain ⟨⟨⟨K, R, z⟩, ⟨fAt, n, so, fl, st, h, p, m, M, l⟩, ⟨wi, wo, ql, hc, Q, tx⟩, ⟨f_down, f_typeSeen, yf_payload, yf_wants, yf_name, yf_first, yf_counts, yf_enters, yf_nodes, yf_values, yf_skipped, yf_pos, yf_there, yf_number, yf_at⟩, ⟨a_payload, a_life, a_theyEnded, a_weEnded, a_finishing, a_codes, a_headers, a_entries, a_kinds, a_repeats, a_messageCount⟩, ⟨a_nodeCount, a_nodeTypes, a_valueCount, a_valueOwners, a_values, a_skippedCount, a_reader, a_chainNode, a_chainEnd, a_nodeSize, a_nodePlace⟩, ⟨ya_type, ya_otherEnded, ya_prefix, ya_length, ya_got, ya_high, ya_has, ya_frame, ya_payloads⟩, ⟨ya_table, ya_nodeType, ya_valueNode, ya_valueNumber, ya_value, ya_from, ya_limit, ya_inside, ya_sizes⟩⟩, rfl, rfl, hD, hl, hH, hO, hQ, hX, hS, hq, hT, hK, hF, hM⟩ := h
  exact ⟨((K, R, z), (fAt, n, so, fl, st, h, p, m, M, l), (wi, wo, ql, hc, Q, tx), (f_down, f_typeSeen, yf_payload, yf_wants, yf_name, yf_first, yf_counts, yf_enters, yf_nodes, yf_values, yf_skipped, yf_pos, yf_there, yf_number, yf_at), (a_payload, a_life, a_theyEnded, a_weEnded, a_finishing, a_codes, a_headers, a_entries, a_kinds, a_repeats, a_messageCount), (a_nodeCount, a_nodeTypes, a_valueCount, a_valueOwners, a_values, a_skippedCount, a_reader, a_chainNode, a_chainEnd, a_nodeSize, a_nodePlace), (ya_type, ya_otherEnded, ya_prefix, ya_length, ya_got, ya_high, ya_has, ya_frame, ya_payloads), (ya_table, ya_nodeType, ya_valueNode, ya_valueNumber, ya_value, ya_from, ya_limit, ya_inside, ya_sizes)), rfl, rfl, hD, hl, hH, hO, hQ, hX, hS, hq, hT, hK, hF, fun s h1 h2 => cr_m_k (by omega) (hM s h1 h2)⟩
end
