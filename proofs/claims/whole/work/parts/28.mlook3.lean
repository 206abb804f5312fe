/-! Y3: calls that look at a message: values -/
section
variable {f_frameAt f_frameLength f_frameSort f_frameFlags f_frameStream f_down f_entryCount f_most f_typeSeen f_lastSender f_sentLength : Int32} {a_payload a_life a_theyEnded a_weEnded a_finishing a_codes a_windowIn a_windowOut a_headers a_headerCount a_entries a_kinds a_repeats a_messageCount a_text a_nodeCount a_nodeTypes a_valueCount a_valueOwners a_values a_skippedCount a_reader a_chainNode a_chainEnd a_queue a_queueLength a_sent a_nodeSize a_nodePlace : Nat → Int32} {yf_down yf_heads yf_paid yf_payload yf_wants yf_name yf_first yf_counts yf_enters yf_most yf_many yf_sent yf_last yf_nodes yf_values yf_skipped yf_pos yf_there yf_number yf_at : Int32} {ya_kind ya_repeated ya_how ya_code ya_coming ya_going ya_type ya_headers ya_header ya_queued ya_otherEnded ya_ended ya_finishing ya_queue ya_prefix ya_length ya_got ya_high ya_whole ya_has ya_bytes ya_frame ya_payloads ya_table ya_out ya_nodeType ya_valueNode ya_valueNumber ya_value ya_from ya_limit ya_inside ya_sizes : Nat → Int32} {s T q : Nat} {tx : Nat → Nat} {K : Nat → Nat} {R : Nat → Bool} {c : pm_C} {D : pm_D} {z : yr_Z} {x y w : Int32}
theorem lo_many {post : Int32 → SY → Prop} (hz : yr_ok c q z) (hv : pm_nv (pm_d c) ≤ 48) (H : post (nI (lo_c (pm_d c) x y (pm_nv (pm_d c)))) (yf_down, yf_heads, yf_paid, yf_payload, yf_wants, yf_name, yf_first, yf_counts, yf_enters, yf_most, yf_many, yf_sent, yf_last, z.1, z.2.1, z.2.2.1, z.2.2.2.1, nI T, z.2.2.2.2.1, z.2.2.2.2.2.1, ya_kind, ya_repeated, ya_how, ya_code, ya_coming, ya_going, ya_type, ya_headers, ya_header, ya_queued, ya_otherEnded, ya_ended, ya_finishing, ya_queue, ya_prefix, ya_length, ya_got, ya_high, ya_whole, ya_has, an_g tx, ya_frame, ya_payloads, ya_table, ya_out, z.2.2.2.2.2.2.1, z.2.2.2.2.2.2.2.1, z.2.2.2.2.2.2.2.2.1, z.2.2.2.2.2.2.2.2.2.1, z.2.2.2.2.2.2.2.2.2.2.1, z.2.2.2.2.2.2.2.2.2.2.2.1, z.2.2.2.2.2.2.2.2.2.2.2.2, ya_sizes)) : ∀ f i, i + f = pm_nv (pm_d c) →
    wY_many_13 post x y 1 yf_down yf_heads yf_paid yf_payload yf_wants yf_name yf_first yf_counts yf_enters yf_most yf_many yf_sent yf_last (z.1) (z.2.1) (z.2.2.1) (z.2.2.2.1) (nI T) (z.2.2.2.2.1) (z.2.2.2.2.2.1) ya_kind ya_repeated ya_how ya_code ya_coming ya_going ya_type ya_headers ya_header ya_queued ya_otherEnded ya_ended ya_finishing ya_queue ya_prefix ya_length ya_got ya_high ya_whole ya_has (an_g tx) ya_frame ya_payloads ya_table ya_out (z.2.2.2.2.2.2.1) (z.2.2.2.2.2.2.2.1) (z.2.2.2.2.2.2.2.2.1) (z.2.2.2.2.2.2.2.2.2.1) (z.2.2.2.2.2.2.2.2.2.2.1) (z.2.2.2.2.2.2.2.2.2.2.2.1) (z.2.2.2.2.2.2.2.2.2.2.2.2) ya_sizes (f + 1) (nI (lo_c (pm_d c) x y i)) (nI i)
  | 0, i, hi => by
    have : i = pm_nv (pm_d c) := by omega
    subst this
    rw [wY_many_13]
    exact pk_le (pm_nv (pm_d c)) (pm_nv (pm_d c)) (fun _ => H) (fun g => absurd g (by omega)) hz.2.1 rfl (by omega) (by omega)
  | f + 1, i, hi => by
    rw [wY_many_13]
    obtain ⟨e1, e2, _, _⟩ := hz.2.2.2.2.2.1.2 i (by omega)
    refine pk_le (pm_nv (pm_d c)) i (fun g => absurd g (by omega)) (fun g => br_f (by decide) ⟨vp_in_nI (by omega) (by omega), ?_⟩) hz.2.1 rfl (by omega) (by omega)
    rw [nI_clamp (by omega)]
    have ih := lo_many hz hv H f (i + 1) (by omega)
    rw [lo_c] at ih
    by_cases g1 : nI (pm_vn (pm_d c) i) = x
    · refine br_t (by rw [e1]; exact g1) ⟨vp_in_nI (by omega) (by omega), ?_⟩
      by_cases g2 : nI (pm_vm (pm_d c) i) = y
      · rw [if_pos ⟨g1, g2⟩] at ih
        exact br_t (by rw [e2]; exact g2) (nm_r (nI_1 _) (nm_r (nI_1 _) ih))
      · rw [if_neg (fun w => g2 w.2)] at ih
        exact br_f (by rw [e2]; exact g2) (nm_r (nI_1 _) ih)
    · rw [if_neg (fun w => g1 w.1)] at ih
      exact br_f (by rw [e1]; exact g1) (nm_r (nI_1 _) ih)
theorem lo_nth {post : Int32 → SY → Prop} (hz : yr_ok c q z) (hv : pm_nv (pm_d c) ≤ 48) : ∀ f i b, i + f = pm_nv (pm_d c) →
    post (if lo_f (pm_d c) x y w f i b < pm_nv (pm_d c) then nI (lo_f (pm_d c) x y w f i b) else -1) (yf_down, yf_heads, yf_paid, yf_payload, yf_wants, yf_name, yf_first, yf_counts, yf_enters, yf_most, yf_many, yf_sent, yf_last, z.1, z.2.1, z.2.2.1, z.2.2.2.1, nI T, z.2.2.2.2.1, z.2.2.2.2.2.1, ya_kind, ya_repeated, ya_how, ya_code, ya_coming, ya_going, ya_type, ya_headers, ya_header, ya_queued, ya_otherEnded, ya_ended, ya_finishing, ya_queue, ya_prefix, ya_length, ya_got, ya_high, ya_whole, ya_has, an_g tx, ya_frame, ya_payloads, ya_table, ya_out, z.2.2.2.2.2.2.1, z.2.2.2.2.2.2.2.1, z.2.2.2.2.2.2.2.2.1, z.2.2.2.2.2.2.2.2.2.1, z.2.2.2.2.2.2.2.2.2.2.1, z.2.2.2.2.2.2.2.2.2.2.2.1, z.2.2.2.2.2.2.2.2.2.2.2.2, ya_sizes) →
    wY_nth_13 post x y w 1 yf_down yf_heads yf_paid yf_payload yf_wants yf_name yf_first yf_counts yf_enters yf_most yf_many yf_sent yf_last (z.1) (z.2.1) (z.2.2.1) (z.2.2.2.1) (nI T) (z.2.2.2.2.1) (z.2.2.2.2.2.1) ya_kind ya_repeated ya_how ya_code ya_coming ya_going ya_type ya_headers ya_header ya_queued ya_otherEnded ya_ended ya_finishing ya_queue ya_prefix ya_length ya_got ya_high ya_whole ya_has (an_g tx) ya_frame ya_payloads ya_table ya_out (z.2.2.2.2.2.2.1) (z.2.2.2.2.2.2.2.1) (z.2.2.2.2.2.2.2.2.1) (z.2.2.2.2.2.2.2.2.2.1) (z.2.2.2.2.2.2.2.2.2.2.1) (z.2.2.2.2.2.2.2.2.2.2.2.1) (z.2.2.2.2.2.2.2.2.2.2.2.2) ya_sizes (f + 1) (nI b) (nI i)
  | 0, i, b, hi, H => by
    rw [wY_nth_13]
    rw [lo_f, if_neg (by omega)] at H
    exact pk_le (pm_nv (pm_d c)) i (fun _ => H) (fun g => absurd g (by omega)) hz.2.1 rfl (by omega) (by omega)
  | f + 1, i, b, hi, H => by
    rw [wY_nth_13]
    obtain ⟨e1, e2, _, _⟩ := hz.2.2.2.2.2.1.2 i (by omega)
    refine pk_le (pm_nv (pm_d c)) i (fun g => absurd g (by omega)) (fun g => br_f (by decide) ⟨vp_in_nI (by omega) (by omega), ?_⟩) hz.2.1 rfl (by omega) (by omega)
    rw [nI_clamp (by omega)]
    rw [lo_f] at H
    by_cases g1 : nI (pm_vn (pm_d c) i) = x
    · refine br_t (by rw [e1]; exact g1) ⟨vp_in_nI (by omega) (by omega), ?_⟩
      by_cases g2 : nI (pm_vm (pm_d c) i) = y
      · rw [if_pos (show nI (pm_vn (pm_d c) i) = x ∧ nI (pm_vm (pm_d c) i) = y from ⟨g1, g2⟩)] at H
        refine br_t (by rw [e2]; exact g2) (br_c (fun g3 => ?_) (fun g3 => nm_r (nI_1 _) (nm_r (nI_1 _) ?_)))
        · rw [if_pos g3, if_pos g] at H; exact H
        · rw [if_neg g3] at H
          exact lo_nth hz hv f (i + 1) (b + 1) (by omega) H
      · rw [if_neg (show ¬ (nI (pm_vn (pm_d c) i) = x ∧ nI (pm_vm (pm_d c) i) = y) from fun w => g2 w.2)] at H
        exact br_f (by rw [e2]; exact g2) (nm_r (nI_1 _) (lo_nth hz hv f (i + 1) b (by omega) H))
    · rw [if_neg (show ¬ (nI (pm_vn (pm_d c) i) = x ∧ nI (pm_vm (pm_d c) i) = y) from fun w => g1 w.1)] at H
      exact br_f (by rw [e1]; exact g1) (nm_r (nI_1 _) (lo_nth hz hv f (i + 1) b (by omega) H))
theorem lo_many0 {post : Int32 → SY → Prop} (H : post 0 (yf_down, yf_heads, yf_paid, yf_payload, yf_wants, yf_name, yf_first, yf_counts, yf_enters, yf_most, yf_many, yf_sent, yf_last, yf_nodes, yf_values, yf_skipped, yf_pos, yf_there, yf_number, yf_at, ya_kind, ya_repeated, ya_how, ya_code, ya_coming, ya_going, ya_type, ya_headers, ya_header, ya_queued, ya_otherEnded, ya_ended, ya_finishing, ya_queue, ya_prefix, ya_length, ya_got, ya_high, ya_whole, ya_has, ya_bytes, ya_frame, ya_payloads, ya_table, ya_out, ya_nodeType, ya_valueNode, ya_valueNumber, ya_value, ya_from, ya_limit, ya_inside, ya_sizes)) : wY_many_13 post x y 0 yf_down yf_heads yf_paid yf_payload yf_wants yf_name yf_first yf_counts yf_enters yf_most yf_many yf_sent yf_last yf_nodes yf_values yf_skipped yf_pos yf_there yf_number yf_at ya_kind ya_repeated ya_how ya_code ya_coming ya_going ya_type ya_headers ya_header ya_queued ya_otherEnded ya_ended ya_finishing ya_queue ya_prefix ya_length ya_got ya_high ya_whole ya_has ya_bytes ya_frame ya_payloads ya_table ya_out ya_nodeType ya_valueNode ya_valueNumber ya_value ya_from ya_limit ya_inside ya_sizes 1 0 0 := by
  rw [wY_many_13]
  exact br_c (fun _ => H) (fun _ => br_t rfl H)
theorem lo_nth0 {post : Int32 → SY → Prop} (H : post (-1) (yf_down, yf_heads, yf_paid, yf_payload, yf_wants, yf_name, yf_first, yf_counts, yf_enters, yf_most, yf_many, yf_sent, yf_last, yf_nodes, yf_values, yf_skipped, yf_pos, yf_there, yf_number, yf_at, ya_kind, ya_repeated, ya_how, ya_code, ya_coming, ya_going, ya_type, ya_headers, ya_header, ya_queued, ya_otherEnded, ya_ended, ya_finishing, ya_queue, ya_prefix, ya_length, ya_got, ya_high, ya_whole, ya_has, ya_bytes, ya_frame, ya_payloads, ya_table, ya_out, ya_nodeType, ya_valueNode, ya_valueNumber, ya_value, ya_from, ya_limit, ya_inside, ya_sizes)) : wY_nth_13 post x y w 0 yf_down yf_heads yf_paid yf_payload yf_wants yf_name yf_first yf_counts yf_enters yf_most yf_many yf_sent yf_last yf_nodes yf_values yf_skipped yf_pos yf_there yf_number yf_at ya_kind ya_repeated ya_how ya_code ya_coming ya_going ya_type ya_headers ya_header ya_queued ya_otherEnded ya_ended ya_finishing ya_queue ya_prefix ya_length ya_got ya_high ya_whole ya_has ya_bytes ya_frame ya_payloads ya_table ya_out ya_nodeType ya_valueNode ya_valueNumber ya_value ya_from ya_limit ya_inside ya_sizes 1 0 0 := by
  rw [wY_nth_13]
  exact br_c (fun _ => H) (fun _ => br_t rfl H)
theorem lo_own {a n : Nat} (ha : a < 16) (hn : n ≤ 15) {i : Nat} (b1 : pm_vn D i < 16) (b2 : pm_vm D i ≤ 15) :
    (nI (16 * pm_vn D i + pm_vm D i) = nI a * 16 + nI n) ↔ (nI (pm_vn D i) = nI a ∧ nI (pm_vm D i) = nI n) := by
  have e : nI a * 16 + nI n = nI (16 * a + n) := by
    rw [show (16 : Int32) = nI 16 from rfl, pk_mul, nI_add, Nat.mul_comm]
  rw [e, nI_eq (by omega) (by omega), nI_eq (by omega) (by omega), nI_eq (by omega) (by omega)]
  exact xr_own b2 hn
theorem lo_cnt {a n : Nat} {post : Int32 → Prop} (hs : s < 8) (hD : cr_XD K s a_nodeCount a_nodeTypes a_valueCount a_valueOwners a_values D) (hv : pm_nv D ≤ 48) (hn : n ≤ 15) (ha : a < 16)
    (hb : ∀ j, j < pm_nv D → pm_vn D j < 16 ∧ pm_vm D j ≤ 15) (H : post (nI (lo_c D (nI a) (nI n) (pm_nv D)))) : ∀ f i, i + f = pm_nv D →
    wX_countValues_6 post (nI s) (nI a) (nI n) f_frameAt f_frameLength f_frameSort f_frameFlags f_frameStream f_down f_entryCount f_most f_typeSeen f_lastSender f_sentLength a_payload a_life a_theyEnded a_weEnded a_finishing a_codes a_windowIn a_windowOut a_headers a_headerCount a_entries a_kinds a_repeats a_messageCount a_text a_nodeCount a_nodeTypes a_valueCount a_valueOwners a_values a_skippedCount a_reader a_chainNode a_chainEnd a_queue a_queueLength a_sent a_nodeSize a_nodePlace (f + 1) (nI (lo_c D (nI a) (nI n) i)) (nI i)
  | 0, i, hi => by
    have : i = pm_nv D := by omega
    subst this
    rw [wX_countValues_6]
    refine ⟨(xr_c8 hs).1, ?_⟩
    rw [(xr_c8 hs).2, hD.2.1]
    exact pk_le (pm_nv D) (pm_nv D) (fun _ => H) (fun g => absurd g (by omega))
  | f + 1, i, hi => by
    rw [wX_countValues_6]
    refine ⟨(xr_c8 hs).1, ?_⟩
    rw [(xr_c8 hs).2, hD.2.1]
    refine pk_le (pm_nv D) i (fun g => absurd g (by omega)) (fun g => ?_)
    obtain ⟨c1, c2, c3⟩ := xr_c48 (s := s) (a := i) hs (by omega)
    rw [c1, c3, (hD.2.2.2 i g).1]
    obtain ⟨b1, b2⟩ := hb i g
    have ho := lo_own (D := D) ha hn b1 b2
    have ih := lo_cnt hs hD hv hn ha hb H f (i + 1) (by omega)
    rw [lo_c] at ih
    refine ⟨c2, br_c (fun w => ?_) (fun w => ?_)⟩
    · rw [if_pos (ho.mp w)] at ih
      exact nm_r (nI_1 _) (nm_r (nI_1 _) ih)
    · rw [if_neg (fun w' => w (ho.mpr w'))] at ih
      exact nm_r (nI_1 _) ih
theorem lo_fv {a n : Nat} {post : Int32 → Prop} (hs : s < 8) (hD : cr_XD K s a_nodeCount a_nodeTypes a_valueCount a_valueOwners a_values D) (hv : pm_nv D ≤ 48) (hn : n ≤ 15) (ha : a < 16)
    (hb : ∀ j, j < pm_nv D → pm_vn D j < 16 ∧ pm_vm D j ≤ 15) : ∀ f i b, i + f = pm_nv D →
    post (if lo_f D (nI a) (nI n) w f i b < pm_nv D then nI (48 * s + lo_f D (nI a) (nI n) w f i b) else -1) →
    wX_findValue_6 post (nI s) (nI a) (nI n) w f_frameAt f_frameLength f_frameSort f_frameFlags f_frameStream f_down f_entryCount f_most f_typeSeen f_lastSender f_sentLength a_payload a_life a_theyEnded a_weEnded a_finishing a_codes a_windowIn a_windowOut a_headers a_headerCount a_entries a_kinds a_repeats a_messageCount a_text a_nodeCount a_nodeTypes a_valueCount a_valueOwners a_values a_skippedCount a_reader a_chainNode a_chainEnd a_queue a_queueLength a_sent a_nodeSize a_nodePlace (f + 1) (nI b) (nI i)
  | 0, i, b, hi, H => by
    rw [wX_findValue_6]
    rw [lo_f, if_neg (by omega)] at H
    refine ⟨(xr_c8 hs).1, ?_⟩
    rw [(xr_c8 hs).2, hD.2.1]
    exact pk_le (pm_nv D) i (fun _ => H) (fun g => absurd g (by omega))
  | f + 1, i, b, hi, H => by
    rw [wX_findValue_6]
    refine ⟨(xr_c8 hs).1, ?_⟩
    rw [(xr_c8 hs).2, hD.2.1]
    refine pk_le (pm_nv D) i (fun g => absurd g (by omega)) (fun g => ?_)
    obtain ⟨c1, c2, c3⟩ := xr_c48 (s := s) (a := i) hs (by omega)
    rw [c1, c3, (hD.2.2.2 i g).1]
    obtain ⟨b1, b2⟩ := hb i g
    have ho := lo_own (D := D) ha hn b1 b2
    rw [lo_f] at H
    refine ⟨c2, br_c (fun w => ?_) (fun w => ?_)⟩
    · rw [if_pos (show nI (pm_vn D i) = nI a ∧ nI (pm_vm D i) = nI n from ho.mp w)] at H
      refine br_c (fun g3 => ?_) (fun g3 => nm_r (nI_1 _) (nm_r (nI_1 _) ?_))
      · rw [if_pos g3, if_pos g] at H; exact H
      · rw [if_neg g3] at H
        exact lo_fv hs hD hv hn ha hb f (i + 1) (b + 1) (by omega) H
    · rw [if_neg (show ¬ (nI (pm_vn D i) = nI a ∧ nI (pm_vm D i) = nI n) from fun w' => w (ho.mpr w'))] at H
      exact nm_r (nI_1 _) (lo_fv hs hD hv hn ha hb f (i + 1) b (by omega) H)
end
section
variable {f_frameAt f_frameLength f_frameSort f_frameFlags f_frameStream f_down f_entryCount f_most f_typeSeen f_lastSender f_sentLength : Int32} {a_payload a_life a_theyEnded a_weEnded a_finishing a_codes a_windowIn a_windowOut a_headers a_headerCount a_entries a_kinds a_repeats a_messageCount a_text a_nodeCount a_nodeTypes a_valueCount a_valueOwners a_values a_skippedCount a_reader a_chainNode a_chainEnd a_queue a_queueLength a_sent a_nodeSize a_nodePlace : Nat → Int32} {yf_down yf_heads yf_paid yf_payload yf_wants yf_name yf_first yf_counts yf_enters yf_most yf_many yf_sent yf_last yf_nodes yf_values yf_skipped yf_pos yf_there yf_number yf_at : Int32} {ya_kind ya_repeated ya_how ya_code ya_coming ya_going ya_type ya_headers ya_header ya_queued ya_otherEnded ya_ended ya_finishing ya_queue ya_prefix ya_length ya_got ya_high ya_whole ya_has ya_bytes ya_frame ya_payloads ya_table ya_out ya_nodeType ya_valueNode ya_valueNumber ya_value ya_from ya_limit ya_inside ya_sizes : Nat → Int32}
/-- what a look at a field finds -/
theorem lo_field {k : Nat} {K : Nat → Nat} {R : Nat → Bool} {z : (Nat → Nat) × Nat} {fAt n so fl st h p m M l : Nat} {wi wo ql hc Q tx : Nat → Nat} (hk : k < 2 ^ 31)
    (hC : cr_C k ((K, R, z), (fAt, n, so, fl, st, h, p, m, M, l), (wi, wo, ql, hc, Q, tx), (f_down, f_typeSeen, yf_payload, yf_wants, yf_name, yf_first, yf_counts, yf_enters, yf_nodes, yf_values, yf_skipped, yf_pos, yf_there, yf_number, yf_at), (a_payload, a_life, a_theyEnded, a_weEnded, a_finishing, a_codes, a_headers, a_entries, a_kinds, a_repeats, a_messageCount), (a_nodeCount, a_nodeTypes, a_valueCount, a_valueOwners, a_values, a_skippedCount, a_reader, a_chainNode, a_chainEnd, a_nodeSize, a_nodePlace), (ya_type, ya_otherEnded, ya_prefix, ya_length, ya_got, ya_high, ya_has, ya_frame, ya_payloads), (ya_table, ya_nodeType, ya_valueNode, ya_valueNumber, ya_value, ya_from, ya_limit, ya_inside, ya_sizes))) (v1 v2 v3 : Int32) :
    ((∀ (post : Int32 → Prop), post 0 → wpX_hasField post (nI fAt, nI n, nI so, nI fl, nI st, f_down, nI m, nI M, f_typeSeen, nI l, nI z.2, a_payload, a_life, a_theyEnded, a_weEnded, a_finishing, a_codes, an_f wi, an_f wo, a_headers, an_f hc, a_entries, a_kinds, a_repeats, a_messageCount, an_f tx, a_nodeCount, a_nodeTypes, a_valueCount, a_valueOwners, a_values, a_skippedCount, a_reader, a_chainNode, a_chainEnd, an_f Q, an_f ql, an_f z.1, a_nodeSize, a_nodePlace) v1 v2 v3) ∧ (∀ (post : Int32 → SY → Prop), post 0 (f_down, nI h, nI p, yf_payload, yf_wants, yf_name, yf_first, yf_counts, yf_enters, nI M, nI m, nI z.2, nI (if l = 0 then 7 else l), yf_nodes, yf_values, yf_skipped, yf_pos, yf_there, yf_number, yf_at, a_kinds, a_repeats, a_life, a_codes, an_f wi, an_f wo, ya_type, an_f hc, a_headers, an_f ql, ya_otherEnded, a_weEnded, a_finishing, an_g Q, ya_prefix, ya_length, ya_got, ya_high, a_messageCount, ya_has, an_g tx, ya_frame, ya_payloads, ya_table, an_g z.1, ya_nodeType, ya_valueNode, ya_valueNumber, ya_value, ya_from, ya_limit, ya_inside, ya_sizes) → wpY_open post (f_down, nI h, nI p, yf_payload, yf_wants, yf_name, yf_first, yf_counts, yf_enters, nI M, nI m, nI z.2, nI (if l = 0 then 7 else l), yf_nodes, yf_values, yf_skipped, yf_pos, yf_there, yf_number, yf_at, a_kinds, a_repeats, a_life, a_codes, an_f wi, an_f wo, ya_type, an_f hc, a_headers, an_f ql, ya_otherEnded, a_weEnded, a_finishing, an_g Q, ya_prefix, ya_length, ya_got, ya_high, a_messageCount, ya_has, an_g tx, ya_frame, ya_payloads, ya_table, an_g z.1, ya_nodeType, ya_valueNode, ya_valueNumber, ya_value, ya_from, ya_limit, ya_inside, ya_sizes) v1)) ∨
    (∃ s c dep L, 1 ≤ s ∧ s < 8 ∧ v1 = nI s ∧ L ≤ 200 ∧ pm_CI K R L dep c ∧ cr_XD K s a_nodeCount a_nodeTypes a_valueCount a_valueOwners a_values (pm_d c) ∧
      (∀ (post : Int32 → SY → Prop), (∀ (z' : yr_Z), yr_ok c (pm_pos c) z' → post 1 (f_down, nI h, nI p, yf_payload, yf_wants, yf_name, yf_first, yf_counts, yf_enters, nI M, nI m, nI z.2, nI (if l = 0 then 7 else l), z'.1, z'.2.1, z'.2.2.1, z'.2.2.2.1, nI L, z'.2.2.2.2.1, z'.2.2.2.2.2.1, a_kinds, a_repeats, a_life, a_codes, an_f wi, an_f wo, ya_type, an_f hc, a_headers, an_f ql, ya_otherEnded, a_weEnded, a_finishing, an_g Q, ya_prefix, ya_length, ya_got, ya_high, a_messageCount, ya_has, an_g tx, ya_frame, ya_payloads, ya_table, an_g z.1, z'.2.2.2.2.2.2.1, z'.2.2.2.2.2.2.2.1, z'.2.2.2.2.2.2.2.2.1, z'.2.2.2.2.2.2.2.2.2.1, z'.2.2.2.2.2.2.2.2.2.2.1, z'.2.2.2.2.2.2.2.2.2.2.2.1, z'.2.2.2.2.2.2.2.2.2.2.2.2, ya_sizes)) → wpY_open post (f_down, nI h, nI p, yf_payload, yf_wants, yf_name, yf_first, yf_counts, yf_enters, nI M, nI m, nI z.2, nI (if l = 0 then 7 else l), yf_nodes, yf_values, yf_skipped, yf_pos, yf_there, yf_number, yf_at, a_kinds, a_repeats, a_life, a_codes, an_f wi, an_f wo, ya_type, an_f hc, a_headers, an_f ql, ya_otherEnded, a_weEnded, a_finishing, an_g Q, ya_prefix, ya_length, ya_got, ya_high, a_messageCount, ya_has, an_g tx, ya_frame, ya_payloads, ya_table, an_g z.1, ya_nodeType, ya_valueNode, ya_valueNumber, ya_value, ya_from, ya_limit, ya_inside, ya_sizes) (nI s)) ∧
      (((∀ (post : Int32 → Prop), post 0 → wpX_hasField post (nI fAt, nI n, nI so, nI fl, nI st, f_down, nI m, nI M, f_typeSeen, nI l, nI z.2, a_payload, a_life, a_theyEnded, a_weEnded, a_finishing, a_codes, an_f wi, an_f wo, a_headers, an_f hc, a_entries, a_kinds, a_repeats, a_messageCount, an_f tx, a_nodeCount, a_nodeTypes, a_valueCount, a_valueOwners, a_values, a_skippedCount, a_reader, a_chainNode, a_chainEnd, an_f Q, an_f ql, an_f z.1, a_nodeSize, a_nodePlace) v1 v2 v3) ∧ (∀ j, j < pm_nv (pm_d c) → ¬ (nI (pm_vn (pm_d c) j) = v2 ∧ nI (pm_vm (pm_d c) j) = v3))) ∨
       ((∀ (post : Int32 → Prop), post 1 → wpX_hasField post (nI fAt, nI n, nI so, nI fl, nI st, f_down, nI m, nI M, f_typeSeen, nI l, nI z.2, a_payload, a_life, a_theyEnded, a_weEnded, a_finishing, a_codes, an_f wi, an_f wo, a_headers, an_f hc, a_entries, a_kinds, a_repeats, a_messageCount, an_f tx, a_nodeCount, a_nodeTypes, a_valueCount, a_valueOwners, a_values, a_skippedCount, a_reader, a_chainNode, a_chainEnd, an_f Q, an_f ql, an_f z.1, a_nodeSize, a_nodePlace) v1 v2 v3) ∧ ∃ a q, v2 = nI a ∧ v3 = nI q ∧ a < pm_nn (pm_d c) ∧ 1 ≤ q ∧ q ≤ 15))) := by
  have hC' := hC
  obtain ⟨hD, hl, hH, hO, hQ, hX, hS, hq, hT, hK, hF, hM⟩ := hC
  have hA : (∀ (post : Int32 → Prop), post 0 → wpX_hasMessage post (nI fAt, nI n, nI so, nI fl, nI st, f_down, nI m, nI M, f_typeSeen, nI l, nI z.2, a_payload, a_life, a_theyEnded, a_weEnded, a_finishing, a_codes, an_f wi, an_f wo, a_headers, an_f hc, a_entries, a_kinds, a_repeats, a_messageCount, an_f tx, a_nodeCount, a_nodeTypes, a_valueCount, a_valueOwners, a_values, a_skippedCount, a_reader, a_chainNode, a_chainEnd, an_f Q, an_f ql, an_f z.1, a_nodeSize, a_nodePlace) v1) → ∀ (post : Int32 → Prop), post 0 → wpX_hasField post (nI fAt, nI n, nI so, nI fl, nI st, f_down, nI m, nI M, f_typeSeen, nI l, nI z.2, a_payload, a_life, a_theyEnded, a_weEnded, a_finishing, a_codes, an_f wi, an_f wo, a_headers, an_f hc, a_entries, a_kinds, a_repeats, a_messageCount, an_f tx, a_nodeCount, a_nodeTypes, a_valueCount, a_valueOwners, a_values, a_skippedCount, a_reader, a_chainNode, a_chainEnd, an_f Q, an_f ql, an_f z.1, a_nodeSize, a_nodePlace) v1 v2 v3 := by
    intro hm post H
    unfold wpX_hasField wpX_hasNode
    exact br_c (fun _ => H) (fun _ => br_c (fun _ => H) (fun _ => br_c (fun _ => br_t rfl H) (fun _ => hm _ (br_t rfl (br_t rfl H)))))
  rcases lk_c v1 with ⟨h1, h2, h3, h4⟩ | ⟨h1, h2, h3, h4, h5⟩ | ⟨s, hs, rfl⟩
  · exact Or.inl ⟨hA (fun post H => lo_Xn (Or.inl h2) H), fun post H => lo_Yn (Or.inl h2) H⟩
  · exact Or.inl ⟨hA (fun post H => lo_Xn (Or.inr ⟨h2, h4⟩) H), fun post H => lo_Yn (Or.inr ⟨h2, h3⟩) H⟩
  by_cases h0 : s = 0
  · subst h0
    exact Or.inl ⟨hA (fun post H => lo_Xn (Or.inl (by decide)) H), fun post H => lo_Yn (Or.inl (by decide)) H⟩
  have hs1 : 1 ≤ s := by omega
  rcases lo_H hC' hs1 hs with w | w
  · exact Or.inl ⟨hA (fun post H => lo_X hs1 hs hk (hM s hs1 hs) (fun w' => by rw [w] at w'; exact absurd w' (by decide)) (fun _ => H)), fun post H => lo_Y0 hs1 hs w H⟩
  right
  obtain ⟨c, dep, L, l1, d2, d3, d4, HO⟩ := lo_M hC' hs1 hs w
  refine ⟨s, c, dep, L, hs1, hs, rfl, l1, d2, d3, HO, ?_⟩
  have hnn := d2.1.2.1
  have hVI := d2.1.2.2.2.2.2.1
  rcases fd_i v3 1 15 (lo := 1) (hi := 15) rfl rfl (by omega) (by omega) with a' | ⟨a', b', c'⟩ | ⟨q, q1, q2, rfl, a', b', c'⟩
  · refine Or.inl ⟨fun post H => br_t a' H, fun j hj e => ?_⟩
    have h15 := (hVI j hj).2.2.1
    have h1' := (hVI j hj).2.1
    rw [← e.2] at a'
    have := (nI_ltI (a := pm_vm (pm_d c) j) (b := 1) (by omega) (by omega)).mp a'
    omega
  · refine Or.inl ⟨fun post H => br_f a' (br_t b' H), fun j hj e => ?_⟩
    have h15 := (hVI j hj).2.2.1
    rw [← e.2, nI_leI (by omega) (by omega)] at b'
    omega
  rcases lo_node (x := v2) hnn with a | ⟨a, b, d⟩ | ⟨j, hj, rfl, a, b, d⟩
  · refine Or.inl ⟨fun post H => ?_, fun j hj e => ?_⟩
    · unfold wpX_hasField wpX_hasNode
      exact br_f a' (br_f b' (br_t a (br_t rfl H)))
    · have := (hVI j hj).1
      rw [← e.1] at a
      exact absurd a (nI_pos (by omega))
  · refine Or.inl ⟨fun post H => ?_, fun j hj e => ?_⟩
    · unfold wpX_hasField wpX_hasNode
      refine br_f a' (br_f b' (br_f a (lo_X hs1 hs hk (hM s hs1 hs) (fun _ => br_f (by decide) ⟨(xr_c8 hs).1, ?_⟩) (fun w' => by rw [w] at w'; exact absurd w' (by decide)))))
      rw [(xr_c8 hs).2, d3.1]
      exact br_t b (br_t rfl H)
    · have h16 := (hVI j hj).1
      rw [← e.1, nI_leI (by omega) (by omega)] at b
      omega
  · refine Or.inr ⟨fun post H => ?_, j, q, rfl, rfl, hj, q1, q2⟩
    unfold wpX_hasField wpX_hasNode
    refine br_f a' (br_f b' (br_f a (lo_X hs1 hs hk (hM s hs1 hs) (fun _ => br_f (by decide) ⟨(xr_c8 hs).1, ?_⟩) (fun w' => by rw [w] at w'; exact absurd w' (by decide)))))
    rw [(xr_c8 hs).2, d3.1]
    exact br_f b (br_f (by decide) H)
theorem i_vc_many {k : Nat} {u : SX} {v : SY} (I : i_Rel k u v) (hk : k + 6 ≤ 3072) (v1 : Int32) (v2 : Int32) (v3 : Int32) : wpX_many (fun r => wpY_many (fun r' v' => r' = r ∧ i_Rel (k + 6) u v') v v1 v2 v3) u v1 v2 v3 := by
  have J := i_up I
  obtain ⟨⟨⟨K, R, z⟩, ⟨fAt, n, so, fl, st, h, p, m, M, l⟩, ⟨wi, wo, ql, hc, Q, tx⟩, ⟨f_down, f_typeSeen, yf_payload, yf_wants, yf_name, yf_first, yf_counts, yf_enters, yf_nodes, yf_values, yf_skipped, yf_pos, yf_there, yf_number, yf_at⟩, ⟨a_payload, a_life, a_theyEnded, a_weEnded, a_finishing, a_codes, a_headers, a_entries, a_kinds, a_repeats, a_messageCount⟩, ⟨a_nodeCount, a_nodeTypes, a_valueCount, a_valueOwners, a_values, a_skippedCount, a_reader, a_chainNode, a_chainEnd, a_nodeSize, a_nodePlace⟩, ⟨ya_type, ya_otherEnded, ya_prefix, ya_length, ya_got, ya_high, ya_has, ya_frame, ya_payloads⟩, ⟨ya_table, ya_nodeType, ya_valueNode, ya_valueNumber, ya_value, ya_from, ya_limit, ya_inside, ya_sizes⟩⟩, rfl, rfl, hD, hl, hH, hO, hQ, hX, hS, hq, hT, hK, hF, hM⟩ := I
  have hC : cr_C k ((K, R, z), (fAt, n, so, fl, st, h, p, m, M, l), (wi, wo, ql, hc, Q, tx), (f_down, f_typeSeen, yf_payload, yf_wants, yf_name, yf_first, yf_counts, yf_enters, yf_nodes, yf_values, yf_skipped, yf_pos, yf_there, yf_number, yf_at), (a_payload, a_life, a_theyEnded, a_weEnded, a_finishing, a_codes, a_headers, a_entries, a_kinds, a_repeats, a_messageCount), (a_nodeCount, a_nodeTypes, a_valueCount, a_valueOwners, a_values, a_skippedCount, a_reader, a_chainNode, a_chainEnd, a_nodeSize, a_nodePlace), (ya_type, ya_otherEnded, ya_prefix, ya_length, ya_got, ya_high, ya_has, ya_frame, ya_payloads), (ya_table, ya_nodeType, ya_valueNode, ya_valueNumber, ya_value, ya_from, ya_limit, ya_inside, ya_sizes)) := ⟨hD, hl, hH, hO, hQ, hX, hS, hq, hT, hK, hF, hM⟩
  dsimp only [cr_x, cr_y] at J ⊢
  unfold wpX_many wpY_many
  dsimp only
  rcases lo_field (by omega) hC v1 v2 v3 with ⟨hx, hy⟩ | ⟨s, c, dep, L, s1, s8, rfl, l1, d2, d3, HO, hh⟩
  · exact hx _ (br_t rfl (hy _ ⟨1, lo_many0 ⟨rfl, J⟩⟩))
  have hv := d2.1.2.2.1
  rcases hh with ⟨hx, hno⟩ | ⟨hx, a, q, rfl, rfl, ha, q1, q2⟩
  · refine hx _ (br_t rfl (HO _ (fun z' hz => ⟨pm_nv (pm_d c) + 1, lo_many hz hv ⟨?_, lo_J hC z'⟩ (pm_nv (pm_d c)) 0 (by omega)⟩)))
    rw [(lo_none hno).1]; rfl
  · have hnn := d2.1.2.1
    refine hx _ (br_f (by decide) ?_)
    unfold wpX_countValues
    refine ⟨pm_nv (pm_d c) + 1, lo_cnt s8 d3 hv q2 (by omega) (xr_DB d2.1) ?_ (pm_nv (pm_d c)) 0 (by omega)⟩
    exact HO _ (fun z' hz => ⟨pm_nv (pm_d c) + 1, lo_many hz hv ⟨rfl, lo_J hC z'⟩ (pm_nv (pm_d c)) 0 (by omega)⟩)
end
