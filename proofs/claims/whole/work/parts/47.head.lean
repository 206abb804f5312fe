/-! T9: headers: one is kept, one is put into the table -/
section
def kh_c (life : Nat → Int32) (st : Nat) (hc : Nat → Nat) : Nat → Nat := if life st ≠ 2 ∧ hc st < 8 then pm_u hc st (hc st + 1) else hc
def kh_h (life : Nat → Int32) (st : Nat) (hc : Nat → Nat) (hd : Nat → Int32) (e : Nat) : Nat → Int32 := if life st ≠ 2 ∧ hc st < 8 then upd hd (8 * st + hc st) (nI e) else hd
def kh_t (ts : Int32) (nm v : Nat) : Int32 := if 0 ≤ ts then ts else if nm = 1 then nI v else ts
def tb_s (f : Nat → Int32) (m c : Nat) : Nat → Int32 := fun j => if c < j ∧ j ≤ m then f (j - 1) else f j
def at_m (m M : Nat) : Nat := if m + 1 ≤ M then m + 1 else M
def at_e (en : Nat → Int32) (m M e : Nat) : Nat → Int32 := if M = 0 then en else upd (tb_s en (at_m m M - 1) 0) 0 (nI e)
variable {f_frameAt f_frameLength f_frameSort f_frameFlags f_frameStream f_down f_entryCount f_most f_typeSeen f_lastSender f_sentLength : Int32} {a_payload a_life a_theyEnded a_weEnded a_finishing a_codes a_windowIn a_windowOut a_headers a_headerCount a_entries a_kinds a_repeats a_messageCount a_text a_nodeCount a_nodeTypes a_valueCount a_valueOwners a_values a_skippedCount a_reader a_chainNode a_chainEnd a_queue a_queueLength a_sent a_nodeSize a_nodePlace : Nat → Int32} {yf_down yf_heads yf_paid yf_payload yf_wants yf_name yf_first yf_counts yf_enters yf_most yf_many yf_sent yf_last yf_nodes yf_values yf_skipped yf_pos yf_there yf_number yf_at : Int32} {ya_kind ya_repeated ya_how ya_code ya_coming ya_going ya_type ya_headers ya_header ya_queued ya_otherEnded ya_ended ya_finishing ya_queue ya_prefix ya_length ya_got ya_high ya_whole ya_has ya_bytes ya_frame ya_payloads ya_table ya_out ya_nodeType ya_valueNode ya_valueNumber ya_value ya_from ya_limit ya_inside ya_sizes : Nat → Int32} {st e nm v m M mm : Nat} {hc : Nat → Nat} {f en ta : Nat → Int32}
theorem tb_0 : tb_s f m m = f := by
  funext j
  exact if_neg (by omega)
theorem tb_1 {c : Nat} (h : c < m) : upd (tb_s f m (c + 1)) (c + 1) (tb_s f m (c + 1) c) = tb_s f m c := by
  funext j
  rw [pm_upd_eq]
  unfold tb_s
  by_cases y : j = c + 1
  · subst y
    rw [if_pos rfl, if_neg (by omega), if_pos (by omega)]
    rfl
  · rw [if_neg y]
    by_cases y2 : c + 1 < j ∧ j ≤ m
    · rw [if_pos y2, if_pos (by omega)]
    · rw [if_neg y2, if_neg (by omega)]
theorem kh_x {post : SX → Prop} (h8 : st < 8) (hc8 : hc st ≤ 8) (he : e = 256 * nm + v) (hnm : nm < 256) (hv : v < 256)
    (H : post (f_frameAt, f_frameLength, f_frameSort, f_frameFlags, f_frameStream, f_down, f_entryCount, f_most, kh_t f_typeSeen nm v, f_lastSender, f_sentLength, a_payload, a_life, a_theyEnded, a_weEnded, a_finishing, a_codes, a_windowIn, a_windowOut, kh_h a_life st hc a_headers e, an_f (kh_c a_life st hc), a_entries, a_kinds, a_repeats, a_messageCount, a_text, a_nodeCount, a_nodeTypes, a_valueCount, a_valueOwners, a_values, a_skippedCount, a_reader, a_chainNode, a_chainEnd, a_queue, a_queueLength, a_sent, a_nodeSize, a_nodePlace)) : wpX_keepHeader post (f_frameAt, f_frameLength, f_frameSort, f_frameFlags, f_frameStream, f_down, f_entryCount, f_most, f_typeSeen, f_lastSender, f_sentLength, a_payload, a_life, a_theyEnded, a_weEnded, a_finishing, a_codes, a_windowIn, a_windowOut, a_headers, an_f hc, a_entries, a_kinds, a_repeats, a_messageCount, a_text, a_nodeCount, a_nodeTypes, a_valueCount, a_valueOwners, a_values, a_skippedCount, a_reader, a_chainNode, a_chainEnd, a_queue, a_queueLength, a_sent, a_nodeSize, a_nodePlace) (nI st) (nI e) := by
  obtain ⟨c1, c2⟩ := xr_c8 h8
  have hix : nI st * 8 + an_f hc st = nI (8 * st + hc st) := by
    rw [an_fa, show (8 : Int32) = nI 8 from rfl, pk_mul, nI_add, Nat.mul_comm]
  have k24 : ∀ ts, post (f_frameAt, f_frameLength, f_frameSort, f_frameFlags, f_frameStream, f_down, f_entryCount, f_most, ts, f_lastSender, f_sentLength, a_payload, a_life, a_theyEnded, a_weEnded, a_finishing, a_codes, a_windowIn, a_windowOut, kh_h a_life st hc a_headers e, an_f (kh_c a_life st hc), a_entries, a_kinds, a_repeats, a_messageCount, a_text, a_nodeCount, a_nodeTypes, a_valueCount, a_valueOwners, a_values, a_skippedCount, a_reader, a_chainNode, a_chainEnd, a_queue, a_queueLength, a_sent, a_nodeSize, a_nodePlace) → wX_keepHeader_24 post (nI st) (nI e) f_frameAt f_frameLength f_frameSort f_frameFlags f_frameStream f_down f_entryCount f_most (ts) f_lastSender f_sentLength a_payload a_life a_theyEnded a_weEnded a_finishing a_codes a_windowIn a_windowOut a_headers (an_f hc) a_entries a_kinds a_repeats a_messageCount a_text a_nodeCount a_nodeTypes a_valueCount a_valueOwners a_values a_skippedCount a_reader a_chainNode a_chainEnd a_queue a_queueLength a_sent a_nodeSize a_nodePlace := by
    intro ts h
    unfold kh_h kh_c at h
    unfold wX_keepHeader_24
    rw [c2, hix]
    refine ⟨c1, br_c (fun y => ?_) (fun y => ⟨c1, pk_le 8 (hc st) (fun w => ?_) (fun w => ⟨c1, vp_in_nI (by omega) (by omega), nm_r (by rw [nI_clamp (by omega)]) ⟨c1, c1, nm_r (e' := an_f (pm_u hc st (hc st + 1))) (by rw [an_fa, nI_1, an_fu]) ?_⟩⟩)⟩)⟩
    · rw [if_neg (fun w => w.1 y), if_neg (fun w => w.1 y)] at h; exact h
    · rw [if_neg (by omega), if_neg (by omega)] at h; exact h
    · rw [if_pos ⟨y, w⟩, if_pos ⟨y, w⟩] at h; exact h
  have e8 : nI e >>> ((8 : Int32) &&& 31) = nI nm := by
    rw [pk_shrN (by omega) _ 8 (by decide)]
    exact congrArg nI (by omega)
  have e255 : nI e &&& 255 = nI v := by
    rw [pk_andN (by omega) 8 (by decide)]
    exact congrArg nI (by omega)
  unfold wpX_keepHeader
  dsimp only
  rw [e8, e255]
  unfold kh_t at H
  refine br_c (fun y => k24 _ ?_) (fun y => pk_eq nm 1 (fun w => nm_e (k24 _ ?_)) (fun w => k24 _ ?_))
  · rw [if_pos y] at H; exact H
  · rw [if_neg y, if_pos w] at H; exact H
  · rw [if_neg y, if_neg w] at H; exact H
theorem kh_y {post : SY → Prop} (h8 : st < 8) (hc8 : hc st ≤ 8) (he : e = 256 * nm + v) (hnm : nm < 256) (hv : v < 256)
    (H : post (yf_down, yf_heads, yf_paid, yf_payload, yf_wants, yf_name, if ya_how st = 2 then yf_first else kh_t yf_first nm v, yf_counts, yf_enters, yf_most, yf_many, yf_sent, yf_last, yf_nodes, yf_values, yf_skipped, yf_pos, yf_there, yf_number, yf_at, ya_kind, ya_repeated, ya_how, ya_code, ya_coming, ya_going, ya_type, an_f (kh_c ya_how st hc), kh_h ya_how st hc ya_header e, ya_queued, ya_otherEnded, ya_ended, ya_finishing, ya_queue, ya_prefix, ya_length, ya_got, ya_high, ya_whole, ya_has, ya_bytes, ya_frame, ya_payloads, ya_table, ya_out, ya_nodeType, ya_valueNode, ya_valueNumber, ya_value, ya_from, ya_limit, ya_inside, ya_sizes)) : wpY_known post (yf_down, yf_heads, yf_paid, yf_payload, yf_wants, yf_name, yf_first, yf_counts, yf_enters, yf_most, yf_many, yf_sent, yf_last, yf_nodes, yf_values, yf_skipped, yf_pos, yf_there, yf_number, yf_at, ya_kind, ya_repeated, ya_how, ya_code, ya_coming, ya_going, ya_type, an_f hc, ya_header, ya_queued, ya_otherEnded, ya_ended, ya_finishing, ya_queue, ya_prefix, ya_length, ya_got, ya_high, ya_whole, ya_has, ya_bytes, ya_frame, ya_payloads, ya_table, ya_out, ya_nodeType, ya_valueNode, ya_valueNumber, ya_value, ya_from, ya_limit, ya_inside, ya_sizes) (nI st) (nI nm) (nI v) := by
  obtain ⟨c1, c2⟩ := xr_c8 h8
  have hix : 8 * nI st + an_f hc st = nI (8 * st + hc st) := by
    rw [an_fa, show (8 : Int32) = nI 8 from rfl, pk_mul, nI_add]
  have he' : 256 * nI nm + nI v = nI e := by
    rw [show (256 : Int32) = nI 256 from rfl, pk_mul, nI_add, he]
  unfold wpY_known
  dsimp only
  rw [c2]
  by_cases y : ya_how st = 2
  · unfold kh_h kh_c at H
    rw [if_pos y, if_neg (fun w => w.1 y), if_neg (fun w => w.1 y)] at H
    exact ⟨c1, br_t y H⟩
  rw [if_neg y] at H
  have k28 : ∀ ts, post (yf_down, yf_heads, yf_paid, yf_payload, yf_wants, yf_name, ts, yf_counts, yf_enters, yf_most, yf_many, yf_sent, yf_last, yf_nodes, yf_values, yf_skipped, yf_pos, yf_there, yf_number, yf_at, ya_kind, ya_repeated, ya_how, ya_code, ya_coming, ya_going, ya_type, an_f (kh_c ya_how st hc), kh_h ya_how st hc ya_header e, ya_queued, ya_otherEnded, ya_ended, ya_finishing, ya_queue, ya_prefix, ya_length, ya_got, ya_high, ya_whole, ya_has, ya_bytes, ya_frame, ya_payloads, ya_table, ya_out, ya_nodeType, ya_valueNode, ya_valueNumber, ya_value, ya_from, ya_limit, ya_inside, ya_sizes) → wY_known_28 post (nI st) (nI nm) (nI v) yf_down yf_heads yf_paid yf_payload yf_wants yf_name (ts) yf_counts yf_enters yf_most yf_many yf_sent yf_last yf_nodes yf_values yf_skipped yf_pos yf_there yf_number yf_at ya_kind ya_repeated ya_how ya_code ya_coming ya_going ya_type (an_f hc) ya_header ya_queued ya_otherEnded ya_ended ya_finishing ya_queue ya_prefix ya_length ya_got ya_high ya_whole ya_has ya_bytes ya_frame ya_payloads ya_table ya_out ya_nodeType ya_valueNode ya_valueNumber ya_value ya_from ya_limit ya_inside ya_sizes := by
    intro ts h
    unfold kh_h kh_c at h
    unfold wY_known_28
    rw [c2, hix, he']
    refine ⟨c1, pk_le 8 (hc st) (fun w => ?_) (fun w => ⟨c1, c1, nm_r (e' := an_f (pm_u hc st (hc st + 1))) (by rw [an_fa, nI_1, an_fu]) ⟨vp_in_nI (by omega) (by omega), nm_r (by rw [nI_clamp (by omega)]) ?_⟩⟩)⟩
    · rw [if_neg (by omega), if_neg (by omega)] at h; exact h
    · rw [if_pos ⟨y, w⟩, if_pos ⟨y, w⟩] at h; exact h
  unfold kh_t at H
  refine ⟨c1, br_f y (pk_eq nm 1 (fun w => br_c (fun y2 => k28 _ ?_) (fun y2 => k28 _ ?_)) (fun w => k28 _ ?_))⟩
  · rw [if_pos y2] at H; exact H
  · rw [if_neg y2, if_pos w] at H; exact H
  · rw [if_neg w] at H
    have e' : (if 0 ≤ yf_first then yf_first else yf_first) = yf_first := by split <;> rfl
    rw [e'] at H; exact H
theorem at_x36 {post : SX → Prop} (hm : mm < 16) (H : post (f_frameAt, f_frameLength, f_frameSort, f_frameFlags, f_frameStream, f_down, f_entryCount, f_most, f_typeSeen, f_lastSender, f_sentLength, a_payload, a_life, a_theyEnded, a_weEnded, a_finishing, a_codes, a_windowIn, a_windowOut, a_headers, a_headerCount, upd (tb_s en mm 0) 0 (nI e), a_kinds, a_repeats, a_messageCount, a_text, a_nodeCount, a_nodeTypes, a_valueCount, a_valueOwners, a_values, a_skippedCount, a_reader, a_chainNode, a_chainEnd, a_queue, a_queueLength, a_sent, a_nodeSize, a_nodePlace)) : ∀ c fu, c < fu → c ≤ mm → wX_addToTable_36 post (nI e) f_frameAt f_frameLength f_frameSort f_frameFlags f_frameStream f_down f_entryCount f_most f_typeSeen f_lastSender f_sentLength fu (nI c) a_payload a_life a_theyEnded a_weEnded a_finishing a_codes a_windowIn a_windowOut a_headers a_headerCount (tb_s en mm c) a_kinds a_repeats a_messageCount a_text a_nodeCount a_nodeTypes a_valueCount a_valueOwners a_values a_skippedCount a_reader a_chainNode a_chainEnd a_queue a_queueLength a_sent a_nodeSize a_nodePlace
  | _, 0, h, _ => absurd h (by omega)
  | 0, fu + 1, _, _ => by
    rw [wX_addToTable_36]
    exact br_t (by decide) (nm_e H)
  | c + 1, fu + 1, h, h' => by
    rw [wX_addToTable_36]
    dsimp only
    have e1 : nI (c + 1) - 1 = nI c := by rw [show (1 : Int32) = nI 1 from rfl, pk_sub (by omega)]; rfl
    rw [e1]
    refine pk_le (c + 1) 0 (fun w => by omega) (fun _ => ⟨vp_in_nI (by omega) (by omega), vp_in_nI (by omega) (by omega), nm_r (e' := tb_s en mm c) ?_ (nm_r (pk_m1 c) (at_x36 hm H c fu (by omega) (by omega)))⟩)
    rw [nI_clamp (by omega), nI_clamp (by omega)]
    exact tb_1 (by omega)
theorem at_x {post : SX → Prop} (hT : m ≤ M) (hM : M ≤ 16) (H : post (f_frameAt, f_frameLength, f_frameSort, f_frameFlags, f_frameStream, f_down, nI (at_m m M), nI M, f_typeSeen, f_lastSender, f_sentLength, a_payload, a_life, a_theyEnded, a_weEnded, a_finishing, a_codes, a_windowIn, a_windowOut, a_headers, a_headerCount, at_e a_entries m M e, a_kinds, a_repeats, a_messageCount, a_text, a_nodeCount, a_nodeTypes, a_valueCount, a_valueOwners, a_values, a_skippedCount, a_reader, a_chainNode, a_chainEnd, a_queue, a_queueLength, a_sent, a_nodeSize, a_nodePlace)) : wpX_addToTable post (f_frameAt, f_frameLength, f_frameSort, f_frameFlags, f_frameStream, f_down, nI m, nI M, f_typeSeen, f_lastSender, f_sentLength, a_payload, a_life, a_theyEnded, a_weEnded, a_finishing, a_codes, a_windowIn, a_windowOut, a_headers, a_headerCount, a_entries, a_kinds, a_repeats, a_messageCount, a_text, a_nodeCount, a_nodeTypes, a_valueCount, a_valueOwners, a_values, a_skippedCount, a_reader, a_chainNode, a_chainEnd, a_queue, a_queueLength, a_sent, a_nodeSize, a_nodePlace) (nI e) := by
  unfold wpX_addToTable
  unfold at_e at H
  refine pk_eq M 0 (fun w => ?_) (fun w => pk_le M m (fun w2 => ?_) (fun w2 => ?_))
  · have em : at_m m M = m := by unfold at_m; rw [if_neg (by omega)]; omega
    rw [if_pos w, em] at H; exact H
  · have em : at_m m M = m := by unfold at_m; rw [if_neg (by omega)]; omega
    rw [if_neg w, em] at H
    refine nm_r (e' := nI (m - 1)) (by rw [show (1 : Int32) = nI 1 from rfl, pk_sub (by omega)]) ⟨17, ?_⟩
    have h36 := at_x36 (mm := m - 1) (en := a_entries) (f_entryCount := nI m) (f_most := nI M) (e := e) (post := post) (by omega) H (m - 1) 17 (by omega) (Nat.le_refl _)
    rw [tb_0] at h36
    exact h36
  · have em : at_m m M = m + 1 := by unfold at_m; rw [if_pos (by omega)]
    rw [if_neg w, em] at H
    refine nm_r (nI_1 m) (nm_r (e' := nI m) (by rw [show (1 : Int32) = nI 1 from rfl, pk_sub (by omega)]; rfl) ⟨17, ?_⟩)
    have h36 := at_x36 (mm := m) (en := a_entries) (f_entryCount := nI (m + 1)) (f_most := nI M) (e := e) (post := post) (by omega) H m 17 (by omega) (Nat.le_refl _)
    rw [tb_0] at h36
    exact h36
theorem at_y5 {post : SY → Prop} (hm : m ≤ M) (hM : M ≤ 16) (H : post (yf_down, yf_heads, yf_paid, yf_payload, yf_wants, yf_name, yf_first, yf_counts, yf_enters, nI M, nI (at_m m M), yf_sent, yf_last, yf_nodes, yf_values, yf_skipped, yf_pos, yf_there, yf_number, yf_at, ya_kind, ya_repeated, ya_how, ya_code, ya_coming, ya_going, ya_type, ya_headers, ya_header, ya_queued, ya_otherEnded, ya_ended, ya_finishing, ya_queue, ya_prefix, ya_length, ya_got, ya_high, ya_whole, ya_has, ya_bytes, ya_frame, ya_payloads, upd (tb_s ta m 0) 0 (nI e), ya_out, ya_nodeType, ya_valueNode, ya_valueNumber, ya_value, ya_from, ya_limit, ya_inside, ya_sizes)) : ∀ c fu, c < fu → c ≤ m → wY_enter_5 post (nI e) yf_down yf_heads yf_paid yf_payload yf_wants yf_name yf_first yf_counts yf_enters (nI M) (nI m) yf_sent yf_last yf_nodes yf_values yf_skipped yf_pos yf_there yf_number yf_at fu (nI c) ya_kind ya_repeated ya_how ya_code ya_coming ya_going ya_type ya_headers ya_header ya_queued ya_otherEnded ya_ended ya_finishing ya_queue ya_prefix ya_length ya_got ya_high ya_whole ya_has ya_bytes ya_frame ya_payloads (tb_s ta m c) ya_out ya_nodeType ya_valueNode ya_valueNumber ya_value ya_from ya_limit ya_inside ya_sizes
  | _, 0, h, _ => absurd h (by omega)
  | 0, fu + 1, _, _ => by
    rw [wY_enter_5]
    refine br_t (by decide) (nm_e (nm_r (nI_1 m) (pk_le (m + 1) M (fun w => ?_) (fun w => ?_))))
    · unfold at_m at H; rw [if_pos w] at H; exact H
    · unfold at_m at H; rw [if_neg (by omega)] at H; exact H
  | c + 1, fu + 1, h, h' => by
    rw [wY_enter_5]
    dsimp only
    have e1 : nI (c + 1) - 1 = nI c := by rw [show (1 : Int32) = nI 1 from rfl, pk_sub (by omega)]; rfl
    rw [e1]
    refine pk_le (c + 1) 0 (fun w => by omega) (fun _ => ⟨vp_in_nI (by omega) (by omega), vp_in_nI (by omega) (by omega), nm_r (e' := tb_s ta m c) ?_ (nm_r (pk_m1 c) (at_y5 hm hM H c fu (by omega) (by omega)))⟩)
    rw [nI_clamp (by omega), nI_clamp (by omega)]
    exact tb_1 (by omega)
theorem at_y {post : SY → Prop} (hm : m ≤ M) (hM : M ≤ 16) (H : post (yf_down, yf_heads, yf_paid, yf_payload, yf_wants, yf_name, yf_first, yf_counts, yf_enters, nI M, nI (at_m m M), yf_sent, yf_last, yf_nodes, yf_values, yf_skipped, yf_pos, yf_there, yf_number, yf_at, ya_kind, ya_repeated, ya_how, ya_code, ya_coming, ya_going, ya_type, ya_headers, ya_header, ya_queued, ya_otherEnded, ya_ended, ya_finishing, ya_queue, ya_prefix, ya_length, ya_got, ya_high, ya_whole, ya_has, ya_bytes, ya_frame, ya_payloads, upd (tb_s ya_table m 0) 0 (nI e), ya_out, ya_nodeType, ya_valueNode, ya_valueNumber, ya_value, ya_from, ya_limit, ya_inside, ya_sizes)) : wpY_enter post (yf_down, yf_heads, yf_paid, yf_payload, yf_wants, yf_name, yf_first, yf_counts, yf_enters, nI M, nI m, yf_sent, yf_last, yf_nodes, yf_values, yf_skipped, yf_pos, yf_there, yf_number, yf_at, ya_kind, ya_repeated, ya_how, ya_code, ya_coming, ya_going, ya_type, ya_headers, ya_header, ya_queued, ya_otherEnded, ya_ended, ya_finishing, ya_queue, ya_prefix, ya_length, ya_got, ya_high, ya_whole, ya_has, ya_bytes, ya_frame, ya_payloads, ya_table, ya_out, ya_nodeType, ya_valueNode, ya_valueNumber, ya_value, ya_from, ya_limit, ya_inside, ya_sizes) (nI e) := by
  unfold wpY_enter
  refine ⟨17, ?_⟩
  have h5 := at_y5 (ta := ya_table) (e := e) (post := post) hm hM H m 17 (by omega) (Nat.le_refl _)
  rw [tb_0] at h5
  exact h5
theorem at_T (he : e < 65536) (h : cr_T en ta m M) : cr_T (at_e en m M e) (upd (tb_s ta m 0) 0 (nI e)) (at_m m M) M := by
  obtain ⟨t1, t2, t3⟩ := h
  have hle : at_m m M ≤ M ∧ at_m m M ≤ m + 1 := by
    unfold at_m
    split <;> omega
  refine ⟨hle.1, t2, fun j hj => ?_⟩
  unfold at_e
  rw [if_neg (by omega)]
  by_cases y : j = 0
  · subst y
    rw [pk_us, pk_us]
    exact ⟨rfl, e, he, rfl⟩
  · rw [pk_un y, pk_un y]
    unfold tb_s
    rw [if_pos (by omega), if_pos (by omega)]
    exact t3 (j - 1) (by omega)
theorem lt_T {x : Nat} (hx : x ≤ 16) (h : cr_T en ta m M) : cr_T en ta (if m ≤ x then m else x) x := by
  obtain ⟨t1, t2, t3⟩ := h
  refine ⟨by split <;> omega, hx, fun j hj => t3 j (by split at hj <;> omega)⟩
theorem kh_c8 {life : Nat → Int32} (h : ∀ i, i < 8 → hc i ≤ 8) : ∀ i, i < 8 → kh_c life st hc i ≤ 8 := by
  intro i hi
  unfold kh_c
  split
  · rename_i w
    unfold pm_u
    split
    · omega
    · exact h i hi
  · exact h i hi
end
