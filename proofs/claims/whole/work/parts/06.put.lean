/-! G: what is put out, and errors, on both sides -/
section
variable {f_frameAt f_frameLength f_frameSort f_frameFlags f_frameStream f_down f_entryCount f_most f_typeSeen f_lastSender f_sentLength : Int32} {a_payload a_life a_theyEnded a_weEnded a_finishing a_codes a_windowIn a_windowOut a_headers a_headerCount a_entries a_kinds a_repeats a_messageCount a_text a_nodeCount a_nodeTypes a_valueCount a_valueOwners a_values a_skippedCount a_reader a_chainNode a_chainEnd a_queue a_queueLength a_sent a_nodeSize a_nodePlace : Nat → Int32} {yf_down yf_heads yf_paid yf_payload yf_wants yf_name yf_first yf_counts yf_enters yf_most yf_many yf_sent yf_last yf_nodes yf_values yf_skipped yf_pos yf_there yf_number yf_at : Int32} {ya_kind ya_repeated ya_how ya_code ya_coming ya_going ya_type ya_headers ya_header ya_queued ya_otherEnded ya_ended ya_finishing ya_queue ya_prefix ya_length ya_got ya_high ya_whole ya_has ya_bytes ya_frame ya_payloads ya_table ya_out ya_nodeType ya_valueNode ya_valueNumber ya_value ya_from ya_limit ya_inside ya_sizes : Nat → Int32} {z : (Nat → Nat) × Nat}
theorem ou_1_le {b : Nat} (hz : z.2 ≤ 1200) : (ou_1 z b).2 ≤ 1200 := by
  unfold ou_1
  split
  · rename_i h; exact h
  · exact hz
theorem ou_L_le : ∀ (l : List Nat) {z : (Nat → Nat) × Nat}, z.2 ≤ 1200 → (ou_L z l).2 ≤ 1200
  | [], _, h => h
  | _ :: l, _, h => ou_L_le l (ou_1_le h)
theorem an_bb (q : Nat) : vp_nar .byte (an_b q).toInt8.toInt32 = an_b q := by
  unfold an_b
  rw [pk_vb, ← vp_nar_byte, pk_vb]
theorem an_b1 (q : Nat) : vp_nar .byte (nI q).toInt8.toInt32 = an_b q := pk_vb _
theorem an_b2 (q : Nat) : vp_nar .byte (an_b q) = an_b q := pk_vb _
theorem xo_put {b : Nat} {post : SX → Prop} (hz : z.2 ≤ 1200)
    (h : post (f_frameAt, f_frameLength, f_frameSort, f_frameFlags, f_frameStream, f_down, f_entryCount, f_most, f_typeSeen, f_lastSender, nI (ou_1 z b).2, a_payload, a_life, a_theyEnded, a_weEnded, a_finishing, a_codes, a_windowIn, a_windowOut, a_headers, a_headerCount, a_entries, a_kinds, a_repeats, a_messageCount, a_text, a_nodeCount, a_nodeTypes, a_valueCount, a_valueOwners, a_values, a_skippedCount, a_reader, a_chainNode, a_chainEnd, a_queue, a_queueLength, an_f (ou_1 z b).1, a_nodeSize, a_nodePlace)) :
    wpX_putOut post (f_frameAt, f_frameLength, f_frameSort, f_frameFlags, f_frameStream, f_down, f_entryCount, f_most, f_typeSeen, f_lastSender, nI z.2, a_payload, a_life, a_theyEnded, a_weEnded, a_finishing, a_codes, a_windowIn, a_windowOut, a_headers, a_headerCount, a_entries, a_kinds, a_repeats, a_messageCount, a_text, a_nodeCount, a_nodeTypes, a_valueCount, a_valueOwners, a_values, a_skippedCount, a_reader, a_chainNode, a_chainEnd, a_queue, a_queueLength, an_f z.1, a_nodeSize, a_nodePlace) (nI b) := by
  unfold wpX_putOut
  refine pk_le 1200 z.2 (fun g => ?_) (fun g => ?_)
  · unfold ou_1 at h
    rw [if_neg (by omega)] at h; exact h
  · unfold ou_1 at h
    rw [if_pos g] at h
    exact ⟨vp_in_nI g (by omega), nm_r (by rw [nI_clamp (by omega), an_fu]) (nm_r (nI_1 _) h)⟩
theorem yo_put {b : Nat} {x : Int32} {post : SY → Prop} (hx : vp_nar .byte x.toInt8.toInt32 = an_b b) (hz : z.2 ≤ 1200)
    (h : post (yf_down, yf_heads, yf_paid, yf_payload, yf_wants, yf_name, yf_first, yf_counts, yf_enters, yf_most, yf_many, nI (ou_1 z b).2, yf_last, yf_nodes, yf_values, yf_skipped, yf_pos, yf_there, yf_number, yf_at, ya_kind, ya_repeated, ya_how, ya_code, ya_coming, ya_going, ya_type, ya_headers, ya_header, ya_queued, ya_otherEnded, ya_ended, ya_finishing, ya_queue, ya_prefix, ya_length, ya_got, ya_high, ya_whole, ya_has, ya_bytes, ya_frame, ya_payloads, ya_table, an_g (ou_1 z b).1, ya_nodeType, ya_valueNode, ya_valueNumber, ya_value, ya_from, ya_limit, ya_inside, ya_sizes)) :
    wpY_put post (yf_down, yf_heads, yf_paid, yf_payload, yf_wants, yf_name, yf_first, yf_counts, yf_enters, yf_most, yf_many, nI z.2, yf_last, yf_nodes, yf_values, yf_skipped, yf_pos, yf_there, yf_number, yf_at, ya_kind, ya_repeated, ya_how, ya_code, ya_coming, ya_going, ya_type, ya_headers, ya_header, ya_queued, ya_otherEnded, ya_ended, ya_finishing, ya_queue, ya_prefix, ya_length, ya_got, ya_high, ya_whole, ya_has, ya_bytes, ya_frame, ya_payloads, ya_table, an_g z.1, ya_nodeType, ya_valueNode, ya_valueNumber, ya_value, ya_from, ya_limit, ya_inside, ya_sizes) x := by
  unfold wpY_put
  refine pk_le 1200 z.2 (fun g => ?_) (fun g => ?_)
  · unfold ou_1 at h
    rw [if_neg (by omega)] at h; exact h
  · unfold ou_1 at h
    rw [if_pos g] at h
    exact nm_r (nI_1 _) ⟨vp_in_nI g (by omega), nm_r (by rw [nI_clamp (by omega), hx, an_gu]) h⟩
theorem xo_short {a b c d : Nat} {post : SX → Prop} (hz : z.2 ≤ 1200)
    (h : post (f_frameAt, f_frameLength, f_frameSort, f_frameFlags, f_frameStream, f_down, f_entryCount, f_most, f_typeSeen, f_lastSender, nI (ou_L z [1, a, b, c, d]).2, a_payload, a_life, a_theyEnded, a_weEnded, a_finishing, a_codes, a_windowIn, a_windowOut, a_headers, a_headerCount, a_entries, a_kinds, a_repeats, a_messageCount, a_text, a_nodeCount, a_nodeTypes, a_valueCount, a_valueOwners, a_values, a_skippedCount, a_reader, a_chainNode, a_chainEnd, a_queue, a_queueLength, an_f (ou_L z [1, a, b, c, d]).1, a_nodeSize, a_nodePlace)) :
    wpX_sendShort post (f_frameAt, f_frameLength, f_frameSort, f_frameFlags, f_frameStream, f_down, f_entryCount, f_most, f_typeSeen, f_lastSender, nI z.2, a_payload, a_life, a_theyEnded, a_weEnded, a_finishing, a_codes, a_windowIn, a_windowOut, a_headers, a_headerCount, a_entries, a_kinds, a_repeats, a_messageCount, a_text, a_nodeCount, a_nodeTypes, a_valueCount, a_valueOwners, a_values, a_skippedCount, a_reader, a_chainNode, a_chainEnd, a_queue, a_queueLength, an_f z.1, a_nodeSize, a_nodePlace) (nI a) (nI b) (nI c) (nI d) := by
  unfold wpX_sendShort
  exact xo_put (b := 1) hz (xo_put (ou_1_le hz) (xo_put (ou_1_le (ou_1_le hz)) (xo_put (ou_1_le (ou_1_le (ou_1_le hz))) (xo_put (ou_1_le (ou_1_le (ou_1_le (ou_1_le hz)))) h))))
theorem yo_frame {a b c d : Nat} {post : SY → Prop} (hz : z.2 ≤ 1200)
    (h : post (yf_down, yf_heads, yf_paid, yf_payload, yf_wants, yf_name, yf_first, yf_counts, yf_enters, yf_most, yf_many, nI (ou_L z [a, b, c, d]).2, yf_last, yf_nodes, yf_values, yf_skipped, yf_pos, yf_there, yf_number, yf_at, ya_kind, ya_repeated, ya_how, ya_code, ya_coming, ya_going, ya_type, ya_headers, ya_header, ya_queued, ya_otherEnded, ya_ended, ya_finishing, ya_queue, ya_prefix, ya_length, ya_got, ya_high, ya_whole, ya_has, ya_bytes, ya_frame, ya_payloads, ya_table, an_g (ou_L z [a, b, c, d]).1, ya_nodeType, ya_valueNode, ya_valueNumber, ya_value, ya_from, ya_limit, ya_inside, ya_sizes)) :
    wpY_frame post (yf_down, yf_heads, yf_paid, yf_payload, yf_wants, yf_name, yf_first, yf_counts, yf_enters, yf_most, yf_many, nI z.2, yf_last, yf_nodes, yf_values, yf_skipped, yf_pos, yf_there, yf_number, yf_at, ya_kind, ya_repeated, ya_how, ya_code, ya_coming, ya_going, ya_type, ya_headers, ya_header, ya_queued, ya_otherEnded, ya_ended, ya_finishing, ya_queue, ya_prefix, ya_length, ya_got, ya_high, ya_whole, ya_has, ya_bytes, ya_frame, ya_payloads, ya_table, an_g z.1, ya_nodeType, ya_valueNode, ya_valueNumber, ya_value, ya_from, ya_limit, ya_inside, ya_sizes) (nI a) (nI b) (nI c) (nI d) := by
  unfold wpY_frame
  exact yo_put (an_b1 _) hz (yo_put (an_b1 _) (ou_1_le hz) (yo_put (an_b1 _) (ou_1_le (ou_1_le hz)) (yo_put (an_b1 _) (ou_1_le (ou_1_le (ou_1_le hz))) h)))
theorem xo_failC {c : Nat} {post : SX → Prop} (hz : z.2 ≤ 1200)
    (h : post (f_frameAt, f_frameLength, f_frameSort, f_frameFlags, f_frameStream, 1, f_entryCount, f_most, f_typeSeen, f_lastSender, nI (ou_L z [1, 5, 0, 0, c]).2, a_payload, a_life, a_theyEnded, a_weEnded, a_finishing, upd a_codes 0 (nI c), a_windowIn, a_windowOut, a_headers, a_headerCount, a_entries, a_kinds, a_repeats, a_messageCount, a_text, a_nodeCount, a_nodeTypes, a_valueCount, a_valueOwners, a_values, a_skippedCount, a_reader, a_chainNode, a_chainEnd, a_queue, a_queueLength, an_f (ou_L z [1, 5, 0, 0, c]).1, a_nodeSize, a_nodePlace)) :
    wpX_failConnection post (f_frameAt, f_frameLength, f_frameSort, f_frameFlags, f_frameStream, f_down, f_entryCount, f_most, f_typeSeen, f_lastSender, nI z.2, a_payload, a_life, a_theyEnded, a_weEnded, a_finishing, a_codes, a_windowIn, a_windowOut, a_headers, a_headerCount, a_entries, a_kinds, a_repeats, a_messageCount, a_text, a_nodeCount, a_nodeTypes, a_valueCount, a_valueOwners, a_values, a_skippedCount, a_reader, a_chainNode, a_chainEnd, a_queue, a_queueLength, an_f z.1, a_nodeSize, a_nodePlace) (nI c) := by
  unfold wpX_failConnection
  exact nm_e (xo_short (a := 5) (b := 0) (c := 0) (d := c) hz h)
theorem xo_failS {s c : Nat} {post : SX → Prop} (hs : s < 8) (hz : z.2 ≤ 1200)
    (h : post (f_frameAt, f_frameLength, f_frameSort, f_frameFlags, f_frameStream, f_down, f_entryCount, f_most, f_typeSeen, f_lastSender, nI (ou_L z [1, 2, 0, s, c]).2, a_payload, upd a_life s 2, a_theyEnded, a_weEnded, a_finishing, upd a_codes s (nI c), a_windowIn, a_windowOut, a_headers, a_headerCount, a_entries, a_kinds, a_repeats, a_messageCount, a_text, a_nodeCount, a_nodeTypes, a_valueCount, a_valueOwners, a_values, a_skippedCount, a_reader, a_chainNode, a_chainEnd, a_queue, upd a_queueLength s 0, an_f (ou_L z [1, 2, 0, s, c]).1, a_nodeSize, a_nodePlace)) :
    wpX_failStream post (f_frameAt, f_frameLength, f_frameSort, f_frameFlags, f_frameStream, f_down, f_entryCount, f_most, f_typeSeen, f_lastSender, nI z.2, a_payload, a_life, a_theyEnded, a_weEnded, a_finishing, a_codes, a_windowIn, a_windowOut, a_headers, a_headerCount, a_entries, a_kinds, a_repeats, a_messageCount, a_text, a_nodeCount, a_nodeTypes, a_valueCount, a_valueOwners, a_values, a_skippedCount, a_reader, a_chainNode, a_chainEnd, a_queue, a_queueLength, an_f z.1, a_nodeSize, a_nodePlace) (nI s) (nI c) := by
  unfold wpX_failStream
  have hc : (nI s).toNatClampNeg = s := nI_clamp (by omega)
  have hi : vp_in (nI s) 8 := vp_in_nI hs (by omega)
  exact ⟨hi, nm_r (by rw [hc]) ⟨hi, nm_r (by rw [hc]) ⟨hi, nm_r (by rw [hc]) (xo_short (a := 2) (b := 0) (c := s) (d := c) hz h)⟩⟩⟩
theorem yo_shut {s : Nat} {x : Int32} {post : SY → Prop} (hs : s < 8)
    (h : post (yf_down, yf_heads, yf_paid, yf_payload, yf_wants, yf_name, yf_first, yf_counts, yf_enters, yf_most, yf_many, yf_sent, yf_last, yf_nodes, yf_values, yf_skipped, yf_pos, yf_there, yf_number, yf_at, ya_kind, ya_repeated, upd ya_how s 2, upd ya_code s x, ya_coming, ya_going, ya_type, ya_headers, ya_header, upd ya_queued s 0, ya_otherEnded, ya_ended, ya_finishing, ya_queue, ya_prefix, ya_length, ya_got, ya_high, ya_whole, ya_has, ya_bytes, ya_frame, ya_payloads, ya_table, ya_out, ya_nodeType, ya_valueNode, ya_valueNumber, ya_value, ya_from, ya_limit, ya_inside, ya_sizes)) :
    wpY_shut post (yf_down, yf_heads, yf_paid, yf_payload, yf_wants, yf_name, yf_first, yf_counts, yf_enters, yf_most, yf_many, yf_sent, yf_last, yf_nodes, yf_values, yf_skipped, yf_pos, yf_there, yf_number, yf_at, ya_kind, ya_repeated, ya_how, ya_code, ya_coming, ya_going, ya_type, ya_headers, ya_header, ya_queued, ya_otherEnded, ya_ended, ya_finishing, ya_queue, ya_prefix, ya_length, ya_got, ya_high, ya_whole, ya_has, ya_bytes, ya_frame, ya_payloads, ya_table, ya_out, ya_nodeType, ya_valueNode, ya_valueNumber, ya_value, ya_from, ya_limit, ya_inside, ya_sizes) (nI s) x := by
  unfold wpY_shut
  have hc : (nI s).toNatClampNeg = s := nI_clamp (by omega)
  have hi : vp_in (nI s) 8 := vp_in_nI hs (by omega)
  exact ⟨hi, nm_r (by rw [hc]) ⟨hi, nm_r (by rw [hc]) ⟨hi, nm_r (by rw [hc]) h⟩⟩⟩
theorem yo_errC {c : Nat} {post : SY → Prop} (hz : z.2 ≤ 1200)
    (h : post (1, yf_heads, yf_paid, yf_payload, yf_wants, yf_name, yf_first, yf_counts, yf_enters, yf_most, yf_many, nI (ou_L z [1, 5, 0, 0, c]).2, yf_last, yf_nodes, yf_values, yf_skipped, yf_pos, yf_there, yf_number, yf_at, ya_kind, ya_repeated, ya_how, upd ya_code 0 (nI c), ya_coming, ya_going, ya_type, ya_headers, ya_header, ya_queued, ya_otherEnded, ya_ended, ya_finishing, ya_queue, ya_prefix, ya_length, ya_got, ya_high, ya_whole, ya_has, ya_bytes, ya_frame, ya_payloads, ya_table, an_g (ou_L z [1, 5, 0, 0, c]).1, ya_nodeType, ya_valueNode, ya_valueNumber, ya_value, ya_from, ya_limit, ya_inside, ya_sizes)) :
    wpY_error post (yf_down, yf_heads, yf_paid, yf_payload, yf_wants, yf_name, yf_first, yf_counts, yf_enters, yf_most, yf_many, nI z.2, yf_last, yf_nodes, yf_values, yf_skipped, yf_pos, yf_there, yf_number, yf_at, ya_kind, ya_repeated, ya_how, ya_code, ya_coming, ya_going, ya_type, ya_headers, ya_header, ya_queued, ya_otherEnded, ya_ended, ya_finishing, ya_queue, ya_prefix, ya_length, ya_got, ya_high, ya_whole, ya_has, ya_bytes, ya_frame, ya_payloads, ya_table, an_g z.1, ya_nodeType, ya_valueNode, ya_valueNumber, ya_value, ya_from, ya_limit, ya_inside, ya_sizes) 0 (nI c) := by
  unfold wpY_error
  refine br_t rfl (nm_e ?_)
  unfold wY_error_25
  refine br_t rfl ?_
  unfold wY_error_36
  refine yo_frame (a := 1) (b := 5) (c := 0) (d := 0) hz ?_
  exact yo_put (an_b1 _) (ou_L_le [1, 5, 0, 0] hz) h
theorem yo_errS {s c : Nat} {post : SY → Prop} (h0 : 0 < s) (hs : s < 8) (hz : z.2 ≤ 1200)
    (h : post (yf_down, yf_heads, yf_paid, yf_payload, yf_wants, yf_name, yf_first, yf_counts, yf_enters, yf_most, yf_many, nI (ou_L z [1, 2, 0, s, c]).2, yf_last, yf_nodes, yf_values, yf_skipped, yf_pos, yf_there, yf_number, yf_at, ya_kind, ya_repeated, upd ya_how s 2, upd ya_code s (nI c), ya_coming, ya_going, ya_type, ya_headers, ya_header, upd ya_queued s 0, ya_otherEnded, ya_ended, ya_finishing, ya_queue, ya_prefix, ya_length, ya_got, ya_high, ya_whole, ya_has, ya_bytes, ya_frame, ya_payloads, ya_table, an_g (ou_L z [1, 2, 0, s, c]).1, ya_nodeType, ya_valueNode, ya_valueNumber, ya_value, ya_from, ya_limit, ya_inside, ya_sizes)) :
    wpY_error post (yf_down, yf_heads, yf_paid, yf_payload, yf_wants, yf_name, yf_first, yf_counts, yf_enters, yf_most, yf_many, nI z.2, yf_last, yf_nodes, yf_values, yf_skipped, yf_pos, yf_there, yf_number, yf_at, ya_kind, ya_repeated, ya_how, ya_code, ya_coming, ya_going, ya_type, ya_headers, ya_header, ya_queued, ya_otherEnded, ya_ended, ya_finishing, ya_queue, ya_prefix, ya_length, ya_got, ya_high, ya_whole, ya_has, ya_bytes, ya_frame, ya_payloads, ya_table, an_g z.1, ya_nodeType, ya_valueNode, ya_valueNumber, ya_value, ya_from, ya_limit, ya_inside, ya_sizes) (nI s) (nI c) := by
  unfold wpY_error
  have hn : ¬ nI s = 0 := by
    intro e
    have := (nI_eq (a := s) (b := 0) (by omega) (by omega)).mp e
    omega
  refine br_f hn (yo_shut hs ?_)
  unfold wY_error_25
  refine br_f hn ?_
  unfold wY_error_36
  refine yo_frame (a := 1) (b := 2) (c := 0) (d := s) hz ?_
  exact yo_put (an_b1 _) (ou_L_le [1, 2, 0, s] hz) h
end
