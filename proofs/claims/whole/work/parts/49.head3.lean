/-! T11: headers: an entry of two or three bytes -/
section
variable {yf_down yf_heads yf_paid yf_payload yf_wants yf_name yf_first yf_counts yf_enters yf_most yf_many yf_sent yf_last yf_nodes yf_values yf_skipped yf_pos yf_there yf_number yf_at : Int32} {ya_kind ya_repeated ya_how ya_code ya_coming ya_going ya_type ya_headers ya_header ya_queued ya_otherEnded ya_ended ya_finishing ya_queue ya_prefix ya_length ya_got ya_high ya_whole ya_has ya_bytes ya_frame ya_payloads ya_table ya_out ya_nodeType ya_valueNode ya_valueNumber ya_value ya_from ya_limit ya_inside ya_sizes : Nat → Int32} {st e nm v m M b n i fu : Nat} {hc : Nat → Nat} {z : (Nat → Nat) × Nat} {x x2 : Int32} {q : SY → Prop}
theorem hy_dn (hd : yf_down = 1) (hi : i ≤ n) (hn : n ≤ 63) (f0 : ya_frame 0 = nI n) (H : q (yf_down, yf_heads, yf_paid, yf_payload, yf_wants, yf_name, yf_first, yf_counts, yf_enters, yf_most, yf_many, yf_sent, yf_last, yf_nodes, yf_values, yf_skipped, yf_pos, yf_there, yf_number, yf_at, ya_kind, ya_repeated, ya_how, ya_code, ya_coming, ya_going, ya_type, ya_headers, ya_header, ya_queued, ya_otherEnded, ya_ended, ya_finishing, ya_queue, ya_prefix, ya_length, ya_got, ya_high, ya_whole, ya_has, ya_bytes, ya_frame, ya_payloads, ya_table, ya_out, ya_nodeType, ya_valueNode, ya_valueNumber, ya_value, ya_from, ya_limit, ya_inside, ya_sizes)) : wY_endHeaders_2 q (nI st) x2 (fu + 1) (nI i) yf_down yf_heads yf_paid yf_payload yf_wants yf_name yf_first yf_counts yf_enters yf_most yf_many yf_sent yf_last yf_nodes yf_values yf_skipped yf_pos yf_there yf_number yf_at ya_kind ya_repeated ya_how ya_code ya_coming ya_going ya_type ya_headers ya_header ya_queued ya_otherEnded ya_ended ya_finishing ya_queue ya_prefix ya_length ya_got ya_high ya_whole ya_has ya_bytes ya_frame ya_payloads ya_table ya_out ya_nodeType ya_valueNode ya_valueNumber ya_value ya_from ya_limit ya_inside ya_sizes := by
  have h36 : wY_endHeaders_36 q (nI st) x2 yf_down yf_heads yf_paid yf_payload yf_wants yf_name yf_first yf_counts yf_enters yf_most yf_many yf_sent yf_last yf_nodes yf_values yf_skipped yf_pos yf_there yf_number yf_at ya_kind ya_repeated ya_how ya_code ya_coming ya_going ya_type ya_headers ya_header ya_queued ya_otherEnded ya_ended ya_finishing ya_queue ya_prefix ya_length ya_got ya_high ya_whole ya_has ya_bytes ya_frame ya_payloads ya_table ya_out ya_nodeType ya_valueNode ya_valueNumber ya_value ya_from ya_limit ya_inside ya_sizes := by
    unfold wY_endHeaders_36
    exact br_f (by rw [hd]; decide) H
  rw [wY_endHeaders_2]
  dsimp only
  rw [f0]
  exact pk_le n i (fun _ => h36) (fun _ => br_f (by rw [hd]; decide) h36)
theorem yl_1 (hd : yf_down = 0) (hn : n ≤ 63) (hi : i + 2 ≤ n) (h8 : st < 8) (hc8 : hc st ≤ 8) (hmM : m ≤ M) (hM : M ≤ 16) (f0 : ya_frame 0 = nI n) (hb : b < 128) (hb2 : b < 32 ∨ 64 ≤ b) (hnm : b % 64 = nm) (hnm0 : nm ≠ 0) (hv : v < 256) (he : e = 256 * nm + v)
    (p1 : ya_payloads i = nI b) (p2 : ya_payloads (i + 1) = nI v)
    (H0 : b < 64 → wY_endHeaders_2 q (nI st) x2 fu (nI (i + 2)) yf_down yf_heads yf_paid yf_payload (0) (nI nm) (if ya_how st = 2 then yf_first else kh_t yf_first nm v) yf_counts (0) (nI M) (nI m) yf_sent yf_last yf_nodes yf_values yf_skipped yf_pos yf_there yf_number yf_at ya_kind ya_repeated ya_how ya_code ya_coming ya_going ya_type (an_f (kh_c ya_how st hc)) (kh_h ya_how st hc ya_header e) ya_queued ya_otherEnded ya_ended ya_finishing ya_queue ya_prefix ya_length ya_got ya_high ya_whole ya_has ya_bytes ya_frame ya_payloads ya_table ya_out ya_nodeType ya_valueNode ya_valueNumber ya_value ya_from ya_limit ya_inside ya_sizes)
    (H1 : 64 ≤ b → wY_endHeaders_2 q (nI st) x2 fu (nI (i + 2)) yf_down yf_heads yf_paid yf_payload (0) (nI nm) (if ya_how st = 2 then yf_first else kh_t yf_first nm v) yf_counts (1) (nI M) (nI (at_m m M)) yf_sent yf_last yf_nodes yf_values yf_skipped yf_pos yf_there yf_number yf_at ya_kind ya_repeated ya_how ya_code ya_coming ya_going ya_type (an_f (kh_c ya_how st hc)) (kh_h ya_how st hc ya_header e) ya_queued ya_otherEnded ya_ended ya_finishing ya_queue ya_prefix ya_length ya_got ya_high ya_whole ya_has ya_bytes ya_frame ya_payloads (upd (tb_s ya_table m 0) 0 (nI e)) ya_out ya_nodeType ya_valueNode ya_valueNumber ya_value ya_from ya_limit ya_inside ya_sizes) :
    wY_endHeaders_2 q (nI st) x2 (fu + 1 + 1) (nI i) yf_down yf_heads yf_paid yf_payload (0) yf_name yf_first yf_counts yf_enters (nI M) (nI m) yf_sent yf_last yf_nodes yf_values yf_skipped yf_pos yf_there yf_number yf_at ya_kind ya_repeated ya_how ya_code ya_coming ya_going ya_type (an_f hc) ya_header ya_queued ya_otherEnded ya_ended ya_finishing ya_queue ya_prefix ya_length ya_got ya_high ya_whole ya_has ya_bytes ya_frame ya_payloads ya_table ya_out ya_nodeType ya_valueNode ya_valueNumber ya_value ya_from ya_limit ya_inside ya_sizes := by
  refine hy_1 hd (by omega) hn f0 p1 (yhd_l hb hb2 ?_)
  rw [if_neg (by omega), hnm]
  refine nm_r (nI_1 i) (hy_1 hd (by omega) hn f0 p2 (yhd_w1 h8 hc8 hmM hM he (by omega) hv (fun y => ?_) (fun y => ?_)))
  · have hlo : b < 64 := by
      by_cases w : 64 ≤ b
      · rw [if_pos w] at y; exact absurd y (by decide)
      · omega
    rw [if_neg (show ¬ 64 ≤ b by omega)]
    exact nm_r (nI_1 (i + 1)) (H0 hlo)
  · have hlo : 64 ≤ b := by
      by_cases w : 64 ≤ b
      · exact w
      · rw [if_neg w] at y; exact absurd rfl y
    rw [if_pos hlo]
    exact nm_r (nI_1 (i + 1)) (H1 hlo)
theorem yl_2 (hd : yf_down = 0) (hn : n ≤ 63) (hi : i + 3 ≤ n) (h8 : st < 8) (hc8 : hc st ≤ 8) (hmM : m ≤ M) (hM : M ≤ 16) (f0 : ya_frame 0 = nI n) (hb : b < 128) (hb2 : b < 32 ∨ 64 ≤ b) (hb0 : b % 64 = 0) (hnm : nm < 256) (hv : v < 256) (he : e = 256 * nm + v)
    (p1 : ya_payloads i = nI b) (p2 : ya_payloads (i + 1) = nI nm) (p3 : ya_payloads (i + 2) = nI v)
    (H0 : b < 64 → wY_endHeaders_2 q (nI st) x2 fu (nI (i + 3)) yf_down yf_heads yf_paid yf_payload (0) (nI nm) (if ya_how st = 2 then yf_first else kh_t yf_first nm v) yf_counts (0) (nI M) (nI m) yf_sent yf_last yf_nodes yf_values yf_skipped yf_pos yf_there yf_number yf_at ya_kind ya_repeated ya_how ya_code ya_coming ya_going ya_type (an_f (kh_c ya_how st hc)) (kh_h ya_how st hc ya_header e) ya_queued ya_otherEnded ya_ended ya_finishing ya_queue ya_prefix ya_length ya_got ya_high ya_whole ya_has ya_bytes ya_frame ya_payloads ya_table ya_out ya_nodeType ya_valueNode ya_valueNumber ya_value ya_from ya_limit ya_inside ya_sizes)
    (H1 : 64 ≤ b → wY_endHeaders_2 q (nI st) x2 fu (nI (i + 3)) yf_down yf_heads yf_paid yf_payload (0) (nI nm) (if ya_how st = 2 then yf_first else kh_t yf_first nm v) yf_counts (1) (nI M) (nI (at_m m M)) yf_sent yf_last yf_nodes yf_values yf_skipped yf_pos yf_there yf_number yf_at ya_kind ya_repeated ya_how ya_code ya_coming ya_going ya_type (an_f (kh_c ya_how st hc)) (kh_h ya_how st hc ya_header e) ya_queued ya_otherEnded ya_ended ya_finishing ya_queue ya_prefix ya_length ya_got ya_high ya_whole ya_has ya_bytes ya_frame ya_payloads (upd (tb_s ya_table m 0) 0 (nI e)) ya_out ya_nodeType ya_valueNode ya_valueNumber ya_value ya_from ya_limit ya_inside ya_sizes) :
    wY_endHeaders_2 q (nI st) x2 (fu + 1 + 1 + 1) (nI i) yf_down yf_heads yf_paid yf_payload (0) yf_name yf_first yf_counts yf_enters (nI M) (nI m) yf_sent yf_last yf_nodes yf_values yf_skipped yf_pos yf_there yf_number yf_at ya_kind ya_repeated ya_how ya_code ya_coming ya_going ya_type (an_f hc) ya_header ya_queued ya_otherEnded ya_ended ya_finishing ya_queue ya_prefix ya_length ya_got ya_high ya_whole ya_has ya_bytes ya_frame ya_payloads ya_table ya_out ya_nodeType ya_valueNode ya_valueNumber ya_value ya_from ya_limit ya_inside ya_sizes := by
  refine hy_1 hd (by omega) hn f0 p1 (yhd_l hb hb2 ?_)
  rw [if_pos hb0]
  refine nm_r (nI_1 i) (hy_1 hd (by omega) hn f0 p2 (yhd_w2 ?_))
  refine nm_r (nI_1 (i + 1)) (hy_1 hd (by omega) hn f0 p3 (yhd_w1 h8 hc8 hmM hM he hnm hv (fun y => ?_) (fun y => ?_)))
  · have hlo : b < 64 := by
      by_cases w : 64 ≤ b
      · rw [if_pos w] at y; exact absurd y (by decide)
      · omega
    rw [if_neg (show ¬ 64 ≤ b by omega)]
    exact nm_r (nI_1 (i + 2)) (H0 hlo)
  · have hlo : 64 ≤ b := by
      by_cases w : 64 ≤ b
      · exact w
      · rw [if_neg w] at y; exact absurd rfl y
    rw [if_pos hlo]
    exact nm_r (nI_1 (i + 2)) (H1 hlo)
/-- the frame ends within an entry -/
theorem yl_f1 (hd : yf_down = 0) (hn : n ≤ 63) (hi : i + 1 = n) (hz : z.2 ≤ 1200) (f0 : ya_frame 0 = nI n) (hb : b < 128) (hb2 : b < 32 ∨ 64 ≤ b) (p1 : ya_payloads i = nI b)
    (H : q (1, yf_heads, yf_paid, yf_payload, nI (if b % 64 = 0 then 2 else 1), nI (b % 64), yf_first, yf_counts, if 64 ≤ b then 1 else 0, yf_most, yf_many, nI (ou_L z [1, 5, 0, 0, 4]).2, yf_last, yf_nodes, yf_values, yf_skipped, yf_pos, yf_there, yf_number, yf_at, ya_kind, ya_repeated, ya_how, upd ya_code 0 (nI 4), ya_coming, ya_going, ya_type, ya_headers, ya_header, ya_queued, ya_otherEnded, ya_ended, ya_finishing, ya_queue, ya_prefix, ya_length, ya_got, ya_high, ya_whole, ya_has, ya_bytes, ya_frame, ya_payloads, ya_table, an_g (ou_L z [1, 5, 0, 0, 4]).1, ya_nodeType, ya_valueNode, ya_valueNumber, ya_value, ya_from, ya_limit, ya_inside, ya_sizes)) :
    wY_endHeaders_2 q (nI st) x2 (fu + 1 + 1) (nI i) yf_down yf_heads yf_paid yf_payload (0) yf_name yf_first yf_counts yf_enters yf_most yf_many (nI z.2) yf_last yf_nodes yf_values yf_skipped yf_pos yf_there yf_number yf_at ya_kind ya_repeated ya_how ya_code ya_coming ya_going ya_type ya_headers ya_header ya_queued ya_otherEnded ya_ended ya_finishing ya_queue ya_prefix ya_length ya_got ya_high ya_whole ya_has ya_bytes ya_frame ya_payloads ya_table (an_g z.1) ya_nodeType ya_valueNode ya_valueNumber ya_value ya_from ya_limit ya_inside ya_sizes := by
  refine hy_1 hd (by omega) hn f0 p1 (yhd_l hb hb2 ?_)
  exact nm_r (nI_1 i) (hy_f hd hi hn hz f0 (by split <;> omega) (by split <;> omega) H)
theorem yl_f2 (hd : yf_down = 0) (hn : n ≤ 63) (hi : i + 2 = n) (hz : z.2 ≤ 1200) (f0 : ya_frame 0 = nI n) (hb : b < 128) (hb2 : b < 32 ∨ 64 ≤ b) (hb0 : b % 64 = 0) (p1 : ya_payloads i = nI b) (p2 : ya_payloads (i + 1) = nI nm)
    (H : q (1, yf_heads, yf_paid, yf_payload, nI 1, nI nm, yf_first, yf_counts, if 64 ≤ b then 1 else 0, yf_most, yf_many, nI (ou_L z [1, 5, 0, 0, 4]).2, yf_last, yf_nodes, yf_values, yf_skipped, yf_pos, yf_there, yf_number, yf_at, ya_kind, ya_repeated, ya_how, upd ya_code 0 (nI 4), ya_coming, ya_going, ya_type, ya_headers, ya_header, ya_queued, ya_otherEnded, ya_ended, ya_finishing, ya_queue, ya_prefix, ya_length, ya_got, ya_high, ya_whole, ya_has, ya_bytes, ya_frame, ya_payloads, ya_table, an_g (ou_L z [1, 5, 0, 0, 4]).1, ya_nodeType, ya_valueNode, ya_valueNumber, ya_value, ya_from, ya_limit, ya_inside, ya_sizes)) :
    wY_endHeaders_2 q (nI st) x2 (fu + 1 + 1 + 1) (nI i) yf_down yf_heads yf_paid yf_payload (0) yf_name yf_first yf_counts yf_enters yf_most yf_many (nI z.2) yf_last yf_nodes yf_values yf_skipped yf_pos yf_there yf_number yf_at ya_kind ya_repeated ya_how ya_code ya_coming ya_going ya_type ya_headers ya_header ya_queued ya_otherEnded ya_ended ya_finishing ya_queue ya_prefix ya_length ya_got ya_high ya_whole ya_has ya_bytes ya_frame ya_payloads ya_table (an_g z.1) ya_nodeType ya_valueNode ya_valueNumber ya_value ya_from ya_limit ya_inside ya_sizes := by
  refine hy_1 hd (by omega) hn f0 p1 (yhd_l hb hb2 ?_)
  rw [if_pos hb0]
  refine nm_r (nI_1 i) (hy_1 hd (by omega) hn f0 p2 (yhd_w2 ?_))
  exact nm_r (nI_1 (i + 1)) (hy_f hd hi hn hz f0 (by omega) (by omega) H)
end
section
variable {f_frameAt f_frameLength f_frameSort f_frameFlags f_frameStream f_down f_entryCount f_most f_typeSeen f_lastSender f_sentLength : Int32} {a_payload a_life a_theyEnded a_weEnded a_finishing a_codes a_windowIn a_windowOut a_headers a_headerCount a_entries a_kinds a_repeats a_messageCount a_text a_nodeCount a_nodeTypes a_valueCount a_valueOwners a_values a_skippedCount a_reader a_chainNode a_chainEnd a_queue a_queueLength a_sent a_nodeSize a_nodePlace : Nat → Int32} {st e nm v m M b i1 rest row : Nat} {hc : Nat → Nat}
theorem xht {post : Int32 → Prop} (hb : b < 256) (hb1 : 128 ≤ b) (hm : m ≤ 16) (H1 : 128 < b → b ≤ 132 → post (nI (256 + (b - 129)))) (H2 : 132 < b → b - 133 < m → post (a_entries (b - 133))) (H3 : b = 128 ∨ (132 < b ∧ m ≤ b - 133) → post (-1)) :
    wpX_headerThere post (f_frameAt, f_frameLength, f_frameSort, f_frameFlags, f_frameStream, f_down, nI m, f_most, f_typeSeen, f_lastSender, f_sentLength, a_payload, a_life, a_theyEnded, a_weEnded, a_finishing, a_codes, a_windowIn, a_windowOut, a_headers, a_headerCount, a_entries, a_kinds, a_repeats, a_messageCount, a_text, a_nodeCount, a_nodeTypes, a_valueCount, a_valueOwners, a_values, a_skippedCount, a_reader, a_chainNode, a_chainEnd, a_queue, a_queueLength, a_sent, a_nodeSize, a_nodePlace) (nI (b - 128)) := by
  have k18 : b = 128 ∨ 132 < b → wX_headerThere_18 post (nI (b - 128)) f_frameAt f_frameLength f_frameSort f_frameFlags f_frameStream f_down (nI m) f_most f_typeSeen f_lastSender f_sentLength a_payload a_life a_theyEnded a_weEnded a_finishing a_codes a_windowIn a_windowOut a_headers a_headerCount a_entries a_kinds a_repeats a_messageCount a_text a_nodeCount a_nodeTypes a_valueCount a_valueOwners a_values a_skippedCount a_reader a_chainNode a_chainEnd a_queue a_queueLength a_sent a_nodeSize a_nodePlace := by
    intro h
    unfold wX_headerThere_18
    rcases h with h | h
    · subst h
      exact nm_e (br_t (by decide) (H3 (Or.inl rfl)))
    · have e5 : nI (b - 128) - 4 - 1 = nI (b - 133) := by
        rw [show (4 : Int32) = nI 4 from rfl, pk_sub (by omega), show (1 : Int32) = nI 1 from rfl, pk_sub (by omega)]; exact congrArg nI (by omega)
      refine nm_r e5 (pk_lt (b - 133) 0 (fun w => by omega) (fun _ => pk_le m (b - 133) (fun w => H3 (Or.inr ⟨h, w⟩)) (fun w => ⟨vp_in_nI (by omega) (by omega), ?_⟩)))
      rw [nI_clamp (by omega)]
      exact H2 h w
  unfold wpX_headerThere
  refine pk_lt (b - 128) 1 (fun w => k18 (Or.inl (by omega))) (fun w => pk_lt 4 (b - 128) (fun w4 => k18 (Or.inr (by omega))) (fun w4 => ?_))
  have e1 : 256 + nI (b - 128) - 1 = nI (256 + (b - 129)) := by
    rw [show (256 : Int32) = nI 256 from rfl, nI_add, show (1 : Int32) = nI 1 from rfl, pk_sub (by omega)]; exact congrArg nI (by omega)
  rw [e1]
  exact H1 (by omega) (by omega)
theorem xl_157 {post : Int32 → SX → Prop} {J9 : Int32 → Int32 → Int32 → Int32 → Int32 → Int32 → Int32 → Int32 → Int32 → Int32 → Int32 → Int32 → Int32 → (Nat → Int32) → (Nat → Int32) → (Nat → Int32) → (Nat → Int32) → (Nat → Int32) → (Nat → Int32) → (Nat → Int32) → (Nat → Int32) → (Nat → Int32) → (Nat → Int32) → (Nat → Int32) → (Nat → Int32) → (Nat → Int32) → (Nat → Int32) → (Nat → Int32) → (Nat → Int32) → (Nat → Int32) → (Nat → Int32) → (Nat → Int32) → (Nat → Int32) → (Nat → Int32) → (Nat → Int32) → (Nat → Int32) → (Nat → Int32) → (Nat → Int32) → (Nat → Int32) → (Nat → Int32) → (Nat → Int32) → (Nat → Int32) → Prop} (h8 : st < 8) (hc8 : hc st ≤ 8) (hmM : m ≤ M) (hM : M ≤ 16) (hb : b < 128) (hr : 1 ≤ rest) (hr2 : rest ≤ 2) (hi : i1 + rest ≤ 63) (hnm : nm < 256) (hv : v < 256) (he : e = 256 * nm + v) (hp : a_payload (i1 + rest - 1) = nI v)
    (H0 : b < 64 → ∀ x, x = nI row + 1 → J9 (nI (i1 + rest)) x f_frameAt f_frameLength f_frameSort f_frameFlags f_frameStream f_down (nI m) (nI M) (kh_t f_typeSeen nm v) f_lastSender f_sentLength a_payload a_life a_theyEnded a_weEnded a_finishing a_codes a_windowIn a_windowOut (kh_h a_life st hc a_headers e) (an_f (kh_c a_life st hc)) a_entries a_kinds a_repeats a_messageCount a_text a_nodeCount a_nodeTypes a_valueCount a_valueOwners a_values a_skippedCount a_reader a_chainNode a_chainEnd a_queue a_queueLength a_sent a_nodeSize a_nodePlace)
    (H1 : 64 ≤ b → ∀ x, x = nI row + 1 → J9 (nI (i1 + rest)) x f_frameAt f_frameLength f_frameSort f_frameFlags f_frameStream f_down (nI (at_m m M)) (nI M) (kh_t f_typeSeen nm v) f_lastSender f_sentLength a_payload a_life a_theyEnded a_weEnded a_finishing a_codes a_windowIn a_windowOut (kh_h a_life st hc a_headers e) (an_f (kh_c a_life st hc)) (at_e a_entries m M e) a_kinds a_repeats a_messageCount a_text a_nodeCount a_nodeTypes a_valueCount a_valueOwners a_values a_skippedCount a_reader a_chainNode a_chainEnd a_queue a_queueLength a_sent a_nodeSize a_nodePlace) :
    wX_readHeaders_157 post J9 (nI st) (nI i1) (nI row) (nI b) (nI rest) (nI nm) f_frameAt f_frameLength f_frameSort f_frameFlags f_frameStream f_down (nI m) (nI M) f_typeSeen f_lastSender f_sentLength a_payload a_life a_theyEnded a_weEnded a_finishing a_codes a_windowIn a_windowOut a_headers (an_f hc) a_entries a_kinds a_repeats a_messageCount a_text a_nodeCount a_nodeTypes a_valueCount a_valueOwners a_values a_skippedCount a_reader a_chainNode a_chainEnd a_queue a_queueLength a_sent a_nodeSize a_nodePlace := by
  unfold wX_readHeaders_157
  have e1 : nI (i1 + rest) - 1 = nI (i1 + rest - 1) := by
    rw [show (1 : Int32) = nI 1 from rfl, pk_sub (by omega)]
  rw [nI_add, e1, nI_clamp (by omega), hp]
  refine ⟨vp_in_nI (by omega) (by omega), nm_r (e' := nI e) (by rw [show (256 : Int32) = nI 256 from rfl, pk_mul, nI_add, he, Nat.mul_comm]) (nm_e (pk_lt b 64 (fun w => ?_) (fun w => ?_)))⟩
  · unfold wX_readHeaders_197
    exact kh_x h8 hc8 he hnm hv (H0 w)
  · refine at_x hmM hM ?_
    dsimp only
    unfold wX_readHeaders_197
    exact kh_x h8 hc8 he hnm hv (H1 w)
end
