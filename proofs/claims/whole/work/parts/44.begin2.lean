/-! T6: the head of a frame, both sides -/
section
variable {yf_down yf_heads yf_paid yf_payload yf_wants yf_name yf_first yf_counts yf_enters yf_most yf_many yf_sent yf_last yf_nodes yf_values yf_skipped yf_pos yf_there yf_number yf_at : Int32} {ya_kind ya_repeated ya_how ya_code ya_coming ya_going ya_type ya_headers ya_header ya_queued ya_otherEnded ya_ended ya_finishing ya_queue ya_prefix ya_length ya_got ya_high ya_whole ya_has ya_bytes ya_frame ya_payloads ya_table ya_out ya_nodeType ya_valueNode ya_valueNumber ya_value ya_from ya_limit ya_inside ya_sizes : Nat → Int32} {n so st c w : Nat} {z : (Nat → Nat) × Nat} {W : Nat → Int32} {x1 x2 x3 : Int32}
theorem fb_0 {life : Nat → Int32} {w0 : Nat} (h : fb_c life n so st w0 = 0) : n ≤ 63 ∧ (so ≤ 5 → st ≤ 7) ∧ (so = 0 → 1 ≤ st ∧ life st ≠ 0 ∧ n ≤ w0) ∧ (so = 1 → 1 ≤ st) ∧ (2 ≤ so → so ≤ 4 → n = 1) ∧ (so = 2 → 1 ≤ st) ∧ (so = 2 ∨ so = 3 → 0 < st → life st ≠ 0) ∧ (so = 4 → st = 0) := by
  unfold fb_c at h
  have h1 : ¬ 63 < n := fun w => by rw [if_pos w] at h; exact absurd h (by decide)
  rw [if_neg h1] at h
  by_cases h2 : 5 < so
  · exact ⟨by omega, fun _ => by omega, fun _ => by omega, fun _ => by omega, fun _ _ => by omega, fun _ => by omega, fun _ _ => by omega, fun _ => by omega⟩
  rw [if_neg h2] at h
  have h3 : ¬ 7 < st := fun w => by rw [if_pos w] at h; exact absurd h (by decide)
  rw [if_neg h3] at h
  by_cases e0 : so = 0
  · rw [if_pos e0] at h
    have a1 : ¬ st = 0 := fun w => by rw [if_pos w] at h; exact absurd h (by decide)
    rw [if_neg a1] at h
    have a2 : ¬ life st = 0 := fun w => by rw [if_pos w] at h; exact absurd h (by decide)
    rw [if_neg a2] at h
    have a3 : ¬ w0 < n := fun w => by rw [if_pos w] at h; exact absurd h (by decide)
    exact ⟨by omega, fun _ => by omega, fun _ => ⟨by omega, a2, by omega⟩, fun _ => by omega, fun _ _ => by omega, fun _ => by omega, fun _ _ => a2, fun _ => by omega⟩
  rw [if_neg e0] at h
  by_cases e1 : so = 1
  · rw [if_pos e1] at h
    have a1 : ¬ st = 0 := fun w => by rw [if_pos w] at h; exact absurd h (by decide)
    exact ⟨by omega, fun _ => by omega, fun _ => by omega, fun _ => by omega, fun _ _ => by omega, fun _ => by omega, fun _ _ => by omega, fun _ => by omega⟩
  rw [if_neg e1] at h
  by_cases e5 : so = 5
  · exact ⟨by omega, fun _ => by omega, fun _ => by omega, fun _ => by omega, fun _ _ => by omega, fun _ => by omega, fun _ _ => by omega, fun _ => by omega⟩
  rw [if_neg e5] at h
  have en : ¬ n ≠ 1 := fun w => by rw [if_pos w] at h; exact absurd h (by decide)
  rw [if_neg en] at h
  by_cases e4 : so = 4
  · rw [if_pos e4] at h
    have a1 : ¬ 0 < st := fun w => by rw [if_pos w] at h; exact absurd h (by decide)
    exact ⟨by omega, fun _ => by omega, fun _ => by omega, fun _ => by omega, fun _ _ => by omega, fun _ => by omega, fun _ _ => by omega, fun _ => by omega⟩
  rw [if_neg e4] at h
  have a1 : ¬ (0 < st ∧ life st = 0) := fun w => by rw [if_pos w] at h; exact absurd h (by decide)
  rw [if_neg a1] at h
  have a2 : ¬ (st = 0 ∧ so = 2) := fun w => by rw [if_pos w] at h; exact absurd h (by decide)
  exact ⟨by omega, fun _ => by omega, fun _ => by omega, fun _ => by omega, fun _ _ => by omega, fun _ => by omega, fun _ q e => a1 ⟨q, e⟩, fun _ => by omega⟩
theorem fb_le {life : Nat → Int32} {w0 : Nat} : fb_c life n so st w0 ≤ 3 := by
  unfold fb_c
  repeat' split
  all_goals omega
theorem yb_err {post : SY → Prop} (hc0 : 0 < c) (hc : c < 256) (hz : z.2 ≤ 1200)
    (H : post (1, yf_heads, yf_paid, yf_payload, 0, yf_name, -1, yf_counts, yf_enters, yf_most, yf_many, nI (ou_L z [1, 5, 0, 0, c]).2, yf_last, yf_nodes, yf_values, yf_skipped, yf_pos, yf_there, yf_number, yf_at, ya_kind, ya_repeated, ya_how, upd ya_code 0 (nI c), ya_coming, ya_going, ya_type, ya_headers, ya_header, ya_queued, ya_otherEnded, ya_ended, ya_finishing, ya_queue, ya_prefix, ya_length, ya_got, ya_high, ya_whole, ya_has, ya_bytes, ya_frame, ya_payloads, ya_table, an_g (ou_L z [1, 5, 0, 0, c]).1, ya_nodeType, ya_valueNode, ya_valueNumber, ya_value, ya_from, ya_limit, ya_inside, ya_sizes)) : wY_begin_212 post x1 x2 x3 (nI c) yf_down yf_heads yf_paid yf_payload yf_wants yf_name yf_first yf_counts yf_enters yf_most yf_many (nI z.2) yf_last yf_nodes yf_values yf_skipped yf_pos yf_there yf_number yf_at ya_kind ya_repeated ya_how ya_code ya_coming ya_going ya_type ya_headers ya_header ya_queued ya_otherEnded ya_ended ya_finishing ya_queue ya_prefix ya_length ya_got ya_high ya_whole ya_has ya_bytes ya_frame ya_payloads ya_table (an_g z.1) ya_nodeType ya_valueNode ya_valueNumber ya_value ya_from ya_limit ya_inside ya_sizes := by
  unfold wY_begin_212
  refine pk_le c 0 (fun w => by omega) (fun _ => yo_errC hz ?_)
  dsimp only
  unfold wY_begin_224
  exact pk_lt 0 c (fun _ => H) (fun w => by omega)
theorem yb_oth {post : SY → Prop} (hso : so < 256) (h0 : so ≠ 0) (H : post (yf_down, yf_heads, yf_paid, yf_payload, 0, yf_name, -1, yf_counts, yf_enters, yf_most, yf_many, yf_sent, yf_last, yf_nodes, yf_values, yf_skipped, yf_pos, yf_there, yf_number, yf_at, ya_kind, ya_repeated, ya_how, ya_code, ya_coming, ya_going, ya_type, ya_headers, ya_header, ya_queued, ya_otherEnded, ya_ended, ya_finishing, ya_queue, ya_prefix, ya_length, ya_got, ya_high, ya_whole, ya_has, ya_bytes, ya_frame, ya_payloads, ya_table, ya_out, ya_nodeType, ya_valueNode, ya_valueNumber, ya_value, ya_from, ya_limit, ya_inside, ya_sizes)) : wY_begin_212 post x1 (nI so) x3 (nI 0) yf_down yf_heads yf_paid yf_payload yf_wants yf_name yf_first yf_counts yf_enters yf_most yf_many yf_sent yf_last yf_nodes yf_values yf_skipped yf_pos yf_there yf_number yf_at ya_kind ya_repeated ya_how ya_code ya_coming ya_going ya_type ya_headers ya_header ya_queued ya_otherEnded ya_ended ya_finishing ya_queue ya_prefix ya_length ya_got ya_high ya_whole ya_has ya_bytes ya_frame ya_payloads ya_table ya_out ya_nodeType ya_valueNode ya_valueNumber ya_value ya_from ya_limit ya_inside ya_sizes := by
  unfold wY_begin_212
  refine br_t (by decide) ?_
  unfold wY_begin_224
  exact br_f (by decide) (pk_eq so 0 (fun w => absurd w h0) (fun _ => H))
theorem yb_d2 {post : SY → Prop} (h8 : st < 8) (hw : upd ya_coming 0 (ya_coming 0 - nI n) = W) (hl : ¬ ya_how st = 1) (H : post (yf_down, yf_heads, yf_paid, yf_payload, 0, yf_name, -1, 0, yf_enters, yf_most, yf_many, yf_sent, yf_last, yf_nodes, yf_values, yf_skipped, yf_pos, yf_there, yf_number, yf_at, ya_kind, ya_repeated, ya_how, ya_code, W, ya_going, ya_type, ya_headers, ya_header, ya_queued, ya_otherEnded, ya_ended, ya_finishing, ya_queue, ya_prefix, ya_length, ya_got, ya_high, ya_whole, ya_has, ya_bytes, ya_frame, ya_payloads, ya_table, ya_out, ya_nodeType, ya_valueNode, ya_valueNumber, ya_value, ya_from, ya_limit, ya_inside, ya_sizes)) : wY_begin_212 post (nI n) (nI 0) (nI st) (nI 0) yf_down yf_heads yf_paid yf_payload yf_wants yf_name yf_first yf_counts yf_enters yf_most yf_many yf_sent yf_last yf_nodes yf_values yf_skipped yf_pos yf_there yf_number yf_at ya_kind ya_repeated ya_how ya_code ya_coming ya_going ya_type ya_headers ya_header ya_queued ya_otherEnded ya_ended ya_finishing ya_queue ya_prefix ya_length ya_got ya_high ya_whole ya_has ya_bytes ya_frame ya_payloads ya_table ya_out ya_nodeType ya_valueNode ya_valueNumber ya_value ya_from ya_limit ya_inside ya_sizes := by
  obtain ⟨c1, c2⟩ := xr_c8 h8
  unfold wY_begin_212
  refine br_t (by decide) ?_
  unfold wY_begin_224
  rw [c2]
  refine br_f (by decide) (br_t rfl (nm_r hw ⟨c1, br_f hl ?_⟩))
  unfold wY_begin_270
  refine ⟨rfl, rfl, br_t rfl ?_⟩
  unfold wY_begin_312
  refine br_t (by decide) ?_
  unfold wY_begin_326
  refine br_t (by decide) ?_
  unfold wY_begin_336
  exact br_t rfl H
theorem yb_dE {post : SY → Prop} (hc0 : 0 < c) (hc : c < 256) (h1 : 1 ≤ st) (h8 : st < 8) (hz : z.2 ≤ 1200)
    (H : post (yf_down, yf_heads, yf_paid, yf_payload, yf_wants, yf_name, yf_first, 0, yf_enters, yf_most, yf_many, nI (ou_L z [1, 2, 0, st, c]).2, yf_last, yf_nodes, yf_values, yf_skipped, yf_pos, yf_there, yf_number, yf_at, ya_kind, ya_repeated, upd ya_how st 2, upd ya_code st (nI c), ya_coming, ya_going, ya_type, ya_headers, ya_header, upd ya_queued st 0, ya_otherEnded, ya_ended, ya_finishing, ya_queue, ya_prefix, ya_length, ya_got, ya_high, ya_whole, ya_has, ya_bytes, ya_frame, ya_payloads, ya_table, an_g (ou_L z [1, 2, 0, st, c]).1, ya_nodeType, ya_valueNode, ya_valueNumber, ya_value, ya_from, ya_limit, ya_inside, ya_sizes)) : wY_begin_312 post x1 (nI st) (nI c) yf_down yf_heads yf_paid yf_payload yf_wants yf_name yf_first yf_counts yf_enters yf_most yf_many (nI z.2) yf_last yf_nodes yf_values yf_skipped yf_pos yf_there yf_number yf_at ya_kind ya_repeated ya_how ya_code ya_coming ya_going ya_type ya_headers ya_header ya_queued ya_otherEnded ya_ended ya_finishing ya_queue ya_prefix ya_length ya_got ya_high ya_whole ya_has ya_bytes ya_frame ya_payloads ya_table (an_g z.1) ya_nodeType ya_valueNode ya_valueNumber ya_value ya_from ya_limit ya_inside ya_sizes := by
  unfold wY_begin_312
  refine pk_le c 0 (fun w => by omega) (fun _ => yo_errS (by omega) h8 hz ?_)
  dsimp only
  unfold wY_begin_326
  refine pk_le c 0 (fun w => by omega) (fun _ => ?_)
  unfold wY_begin_336
  exact br_t rfl H
theorem yb_d {post : SY → Prop} (h8 : st < 8) (hn : n < 256) (hw : upd ya_coming 0 (ya_coming 0 - nI n) = W) (hWs : W st = nI w) (hw5 : w ≤ 255) (hl : ya_how st = 1)
    (H5 : ¬ ya_otherEnded st = 0 → wY_begin_312 post (nI n) (nI st) (nI 5) yf_down yf_heads yf_paid yf_payload (0) yf_name (-1) (1) yf_enters yf_most yf_many yf_sent yf_last yf_nodes yf_values yf_skipped yf_pos yf_there yf_number yf_at ya_kind ya_repeated ya_how ya_code (W) ya_going ya_type ya_headers ya_header ya_queued ya_otherEnded ya_ended ya_finishing ya_queue ya_prefix ya_length ya_got ya_high ya_whole ya_has ya_bytes ya_frame ya_payloads ya_table ya_out ya_nodeType ya_valueNode ya_valueNumber ya_value ya_from ya_limit ya_inside ya_sizes)
    (H3 : ya_otherEnded st = 0 → w < n → wY_begin_312 post (nI n) (nI st) (nI 3) yf_down yf_heads yf_paid yf_payload (0) yf_name (-1) (1) yf_enters yf_most yf_many yf_sent yf_last yf_nodes yf_values yf_skipped yf_pos yf_there yf_number yf_at ya_kind ya_repeated ya_how ya_code (W) ya_going ya_type ya_headers ya_header ya_queued ya_otherEnded ya_ended ya_finishing ya_queue ya_prefix ya_length ya_got ya_high ya_whole ya_has ya_bytes ya_frame ya_payloads ya_table ya_out ya_nodeType ya_valueNode ya_valueNumber ya_value ya_from ya_limit ya_inside ya_sizes)
    (H0 : ya_otherEnded st = 0 → n ≤ w → post (yf_down, yf_heads, yf_paid, yf_payload, 0, yf_name, -1, 1, yf_enters, yf_most, yf_many, yf_sent, yf_last, yf_nodes, yf_values, yf_skipped, yf_pos, yf_there, yf_number, yf_at, ya_kind, ya_repeated, ya_how, ya_code, upd W st (nI (w - n)), ya_going, ya_type, ya_headers, ya_header, ya_queued, ya_otherEnded, ya_ended, ya_finishing, ya_queue, ya_prefix, ya_length, ya_got, ya_high, ya_whole, ya_has, ya_bytes, ya_frame, ya_payloads, ya_table, ya_out, ya_nodeType, ya_valueNode, ya_valueNumber, ya_value, ya_from, ya_limit, ya_inside, ya_sizes)) : wY_begin_212 post (nI n) (nI 0) (nI st) (nI 0) yf_down yf_heads yf_paid yf_payload yf_wants yf_name yf_first yf_counts yf_enters yf_most yf_many yf_sent yf_last yf_nodes yf_values yf_skipped yf_pos yf_there yf_number yf_at ya_kind ya_repeated ya_how ya_code ya_coming ya_going ya_type ya_headers ya_header ya_queued ya_otherEnded ya_ended ya_finishing ya_queue ya_prefix ya_length ya_got ya_high ya_whole ya_has ya_bytes ya_frame ya_payloads ya_table ya_out ya_nodeType ya_valueNode ya_valueNumber ya_value ya_from ya_limit ya_inside ya_sizes := by
  obtain ⟨c1, c2⟩ := xr_c8 h8
  unfold wY_begin_212
  refine br_t (by decide) ?_
  unfold wY_begin_224
  rw [c2]
  refine br_f (by decide) (br_t rfl (nm_r hw ⟨c1, br_t hl ?_⟩))
  unfold wY_begin_270
  rw [c2, hWs]
  refine ⟨rfl, rfl, br_f (by decide) ⟨c1, br_c (fun y => ⟨c1, pk_le n w (fun y2 => ?_) (fun y2 => H3 y y2)⟩) (fun y => H5 y)⟩⟩
  unfold wY_begin_312
  refine br_t (by decide) ?_
  unfold wY_begin_326
  refine br_t (by decide) ?_
  unfold wY_begin_336
  rw [c2, hWs, pk_sub y2]
  exact br_f (by decide) ⟨c1, c1, nm_e (H0 y y2)⟩
end
section
variable {K : Nat → Nat} {R : Nat → Bool} {z : (Nat → Nat) × Nat} {fAt n so fl st h p m M l : Nat} {wi wo ql hc Q tx : Nat → Nat} {f_down f_typeSeen yf_payload yf_wants yf_name yf_first yf_counts yf_enters yf_nodes yf_values yf_skipped yf_pos yf_there yf_number yf_at : Int32} {a_payload a_life a_theyEnded a_weEnded a_finishing a_codes a_headers a_entries a_kinds a_repeats a_messageCount a_nodeCount a_nodeTypes a_valueCount a_valueOwners a_values a_skippedCount a_reader a_chainNode a_chainEnd a_nodeSize a_nodePlace ya_type ya_otherEnded ya_prefix ya_length ya_got ya_high ya_has ya_frame ya_payloads ya_table ya_nodeType ya_valueNode ya_valueNumber ya_value ya_from ya_limit ya_inside ya_sizes : Nat → Int32}
/-- a frame that goes on -/
def bf_K (life : Nat → Int32) (n so st : Nat) (ct : Int32) : Prop :=
  n ≤ 63 ∧ (so ≤ 5 → st ≤ 7) ∧ (so = 0 → 1 ≤ st ∧ life st ≠ 0 ∧ (ct = 1 ∨ (ct = 0 ∧ life st = 2))) ∧ (1 ≤ so → so ≤ 4 → ct = 1) ∧ (5 ≤ so → ct = 0) ∧
  (so = 1 → 1 ≤ st) ∧ (2 ≤ so → so ≤ 4 → n = 1) ∧ (so = 2 → 1 ≤ st) ∧ (so = 2 ∨ so = 3 → 0 < st → life st ≠ 0) ∧ (so = 4 → st = 0)
theorem cr_S_wi {life th ot we fi co : Nat → Int32} {wi wi' wo ql : Nat → Nat} (hS : cr_S life th ot we fi co wi wo ql) (hW : ∀ i, i < 8 → wi' i ≤ 255) : cr_S life th ot we fi co wi' wo ql := by
  refine ⟨hS.1, fun i hi => ?_⟩
  obtain ⟨s1, s2, s3, s4, s5, s6, s7, s8, s9, s10⟩ := hS.2 i hi
  exact ⟨s1, s2, s3, s4, hW i hi, s6, s7, s8, s9, s10⟩
theorem cr_S_c0 {life th ot we fi co : Nat → Int32} {wi wo ql : Nat → Nat} {x : Int32} (hS : cr_S life th ot we fi co wi wo ql) : cr_S life th ot we fi (upd co 0 x) wi wo ql := by
  refine ⟨hS.1, fun i hi => ?_⟩
  obtain ⟨s1, s2, s3, s4, s5, s6, s7, s8, s9, s10⟩ := hS.2 i hi
  exact ⟨s1, s2, s3, s4, s5, s6, s7, s8, fun w w' => (pk_un (by omega)).trans (s9 w w'), s10⟩
theorem bf_z {c : Nat} (hO : ou_I z) (hc : c < 256) : ou_I (ou_L z [1, 5, 0, 0, c]) := by
  refine ou_L_I hO (fun b hb => ?_)
  simp only [List.mem_cons, List.not_mem_nil, or_false] at hb
  rcases hb with hb | hb | hb | hb | hb <;> omega
theorem bf_both {post : SX → Prop} (hd : f_down = 0) (hn : n < 256) (hso : so < 256) (hst : st < 256) (hS : cr_S a_life a_theyEnded ya_otherEnded a_weEnded a_finishing a_codes wi wo ql) (hO : ou_I z)
    (f0 : ya_frame 0 = nI n) (f1 : ya_frame 1 = nI so) (f3 : ya_frame 3 = nI st)
    (H : ∀ (wi' : Nat → Nat) (life' co' : Nat → Int32) (ql' : Nat → Nat) (z' : (Nat → Nat) × Nat) (dn' ct' : Int32), cr_S life' a_theyEnded ya_otherEnded a_weEnded a_finishing co' wi' wo ql' → ou_I z' →
      (∀ i, life' i = a_life i ∨ (a_life i ≠ 0 ∧ life' i = 2)) → (dn' = 0 ∨ dn' = 1) → (dn' = 0 → bf_K life' n so st ct') →
      (∀ (a : yr_Z) (t : Int32) (q : SY → Prop), (∀ (a : yr_Z) (t : Int32), q (dn', nI h, nI p, yf_payload, 0, yf_name, -1, ct', yf_enters, nI M, nI m, nI z'.2, nI (if l = 0 then 7 else l), a.1, a.2.1, a.2.2.1, a.2.2.2.1, t, a.2.2.2.2.1, a.2.2.2.2.2.1, a_kinds, a_repeats, life', co', an_f wi', an_f wo, ya_type, an_f hc, a_headers, an_f ql', ya_otherEnded, a_weEnded, a_finishing, an_g Q, ya_prefix, ya_length, ya_got, ya_high, a_messageCount, ya_has, an_g tx, ya_frame, ya_payloads, ya_table, an_g z'.1, a.2.2.2.2.2.2.1, a.2.2.2.2.2.2.2.1, a.2.2.2.2.2.2.2.2.1, a.2.2.2.2.2.2.2.2.2.1, a.2.2.2.2.2.2.2.2.2.2.1, a.2.2.2.2.2.2.2.2.2.2.2.1, a.2.2.2.2.2.2.2.2.2.2.2.2, ya_sizes)) → wpY_begin q (f_down, nI h, nI p, yf_payload, yf_wants, yf_name, yf_first, yf_counts, yf_enters, nI M, nI m, nI z.2, nI (if l = 0 then 7 else l), a.1, a.2.1, a.2.2.1, a.2.2.2.1, t, a.2.2.2.2.1, a.2.2.2.2.2.1, a_kinds, a_repeats, a_life, a_codes, an_f wi, an_f wo, ya_type, an_f hc, a_headers, an_f ql, ya_otherEnded, a_weEnded, a_finishing, an_g Q, ya_prefix, ya_length, ya_got, ya_high, a_messageCount, ya_has, an_g tx, ya_frame, ya_payloads, ya_table, an_g z.1, a.2.2.2.2.2.2.1, a.2.2.2.2.2.2.2.1, a.2.2.2.2.2.2.2.2.1, a.2.2.2.2.2.2.2.2.2.1, a.2.2.2.2.2.2.2.2.2.2.1, a.2.2.2.2.2.2.2.2.2.2.2.1, a.2.2.2.2.2.2.2.2.2.2.2.2, ya_sizes)) →
      post (nI fAt, nI n, nI so, nI fl, nI st, dn', nI m, nI M, f_typeSeen, nI l, nI z'.2, a_payload, life', a_theyEnded, a_weEnded, a_finishing, co', an_f wi', an_f wo, a_headers, an_f hc, a_entries, a_kinds, a_repeats, a_messageCount, an_f tx, a_nodeCount, a_nodeTypes, a_valueCount, a_valueOwners, a_values, a_skippedCount, a_reader, a_chainNode, a_chainEnd, an_f Q, an_f ql', an_f z'.1, a_nodeSize, a_nodePlace)) :
    wpX_beginFrame post (nI fAt, nI n, nI so, nI fl, nI st, f_down, nI m, nI M, f_typeSeen, nI l, nI z.2, a_payload, a_life, a_theyEnded, a_weEnded, a_finishing, a_codes, an_f wi, an_f wo, a_headers, an_f hc, a_entries, a_kinds, a_repeats, a_messageCount, an_f tx, a_nodeCount, a_nodeTypes, a_valueCount, a_valueOwners, a_values, a_skippedCount, a_reader, a_chainNode, a_chainEnd, an_f Q, an_f ql, an_f z.1, a_nodeSize, a_nodePlace) := by
  subst hd
  have hw0 := (hS.2 0 (by omega)).2.2.2.2.1
  have eq : upd (an_f ql) st 0 = an_f (pm_u ql st 0) := an_fu ql st 0
  unfold wpX_beginFrame
  dsimp only
  refine xh_fault hn hso hst hw0 ?_
  by_cases hcc : fb_c a_life n so st (wi 0) = 0
  · obtain ⟨k1, k2, k3, k4, k5, k6, k7, k8⟩ := fb_0 hcc
    rw [hcc]
    refine br_t rfl (pk_eq so 0 (fun e0 => ?_) (fun e0 => ?_))
    · subst e0
      obtain ⟨a1, a2, a3⟩ := k3 rfl
      have h8 : st < 8 := by
        have := k2 (by omega)
        omega
      obtain ⟨c1, c2⟩ := xr_c8 h8
      rw [c2]
      have hW : ∀ i, i < 8 → pm_u wi 0 (wi 0 - n) i ≤ 255 := by
        intro i hi
        unfold pm_u
        split
        · omega
        · exact (hS.2 i hi).2.2.2.2.1
      have hS' := cr_S_wi hS hW
      have eW : upd (an_f wi) 0 (an_f wi 0 - nI n) = an_f (pm_u wi 0 (wi 0 - n)) := by rw [an_fa, pk_sub a3, an_fu]
      have hYb : ∀ (a : yr_Z) (t : Int32) (q : SY → Prop), wY_begin_212 q (nI n) (nI 0) (nI st) (nI 0) (0) (nI h) (nI p) yf_payload yf_wants yf_name yf_first (1) yf_enters (nI M) (nI m) (nI z.2) (nI (if l = 0 then 7 else l)) (a.1) (a.2.1) (a.2.2.1) (a.2.2.2.1) (t) (a.2.2.2.2.1) (a.2.2.2.2.2.1) (a_kinds) (a_repeats) (a_life) (a_codes) (an_f wi) (an_f wo) ya_type (an_f hc) (a_headers) (an_f ql) ya_otherEnded (a_weEnded) (a_finishing) (an_g Q) ya_prefix ya_length ya_got ya_high (a_messageCount) ya_has (an_g tx) ya_frame ya_payloads ya_table (an_g z.1) (a.2.2.2.2.2.2.1) (a.2.2.2.2.2.2.2.1) (a.2.2.2.2.2.2.2.2.1) (a.2.2.2.2.2.2.2.2.2.1) (a.2.2.2.2.2.2.2.2.2.2.1) (a.2.2.2.2.2.2.2.2.2.2.2.1) (a.2.2.2.2.2.2.2.2.2.2.2.2) ya_sizes → wpY_begin q (0, nI h, nI p, yf_payload, yf_wants, yf_name, yf_first, yf_counts, yf_enters, nI M, nI m, nI z.2, nI (if l = 0 then 7 else l), a.1, a.2.1, a.2.2.1, a.2.2.2.1, t, a.2.2.2.2.1, a.2.2.2.2.2.1, a_kinds, a_repeats, a_life, a_codes, an_f wi, an_f wo, ya_type, an_f hc, a_headers, an_f ql, ya_otherEnded, a_weEnded, a_finishing, an_g Q, ya_prefix, ya_length, ya_got, ya_high, a_messageCount, ya_has, an_g tx, ya_frame, ya_payloads, ya_table, an_g z.1, a.2.2.2.2.2.2.1, a.2.2.2.2.2.2.2.1, a.2.2.2.2.2.2.2.2.1, a.2.2.2.2.2.2.2.2.2.1, a.2.2.2.2.2.2.2.2.2.2.1, a.2.2.2.2.2.2.2.2.2.2.2.1, a.2.2.2.2.2.2.2.2.2.2.2.2, ya_sizes) := by
        intro a t q hq
        refine yh_begin hn hso hst hw0 f0 f1 f3 ?_
        rw [hcc, if_pos (by omega)]
        exact hq
      refine nm_r eW ⟨c1, ?_⟩
      clear hW
      generalize pm_u wi 0 (wi 0 - n) = W at hS' eW ⊢
      have hW5 := (hS'.2 st h8).2.2.2.2.1
      refine br_c (fun y2 => ?_) (fun y2 => ⟨c1, ?_⟩)
      · refine H W a_life a_codes ql z 0 0 hS' hO (fun i => Or.inl rfl) (Or.inl rfl) (fun _ => ⟨k1, k2, fun _ => ⟨a1, a2, Or.inr ⟨rfl, y2⟩⟩, fun w => by omega, fun _ => rfl, k4, k5, k6, k7, k8⟩) (fun a t q hq => hYb a t q ?_)
        exact yb_d2 h8 eW (by rw [y2]; decide) (hq a t)
      · have y1 : a_life st = 1 := by
          rcases (hS.2 st h8).1 with e | e | e
          · exact absurd e a2
          · exact e
          · exact absurd e y2
        have hot : ya_otherEnded st = a_theyEnded st := (hS.2 st h8).2.2.2.2.2.2.2.1 y2
        have hl2 := cr_l2 (life := a_life) (s := st) a2
        have hBK : ∀ ct, ct = 0 → bf_K (upd a_life st 2) n 0 st ct := fun ct hct =>
          ⟨k1, k2, fun _ => ⟨a1, by rw [pk_us]; decide, Or.inr ⟨hct, pk_us⟩⟩, fun w => by omega, fun _ => hct, k4, k5, k6, fun w => by omega, k8⟩
        refine br_c (fun y3 => ⟨c1, pk_le n (W st) (fun y4 => ⟨c1, c1, nm_r (e' := an_f (pm_u W st (W st - n))) (by rw [an_fa, pk_sub y4, an_fu]) ?_⟩) (fun y4 => xo_failS (c := 3) h8 hO.1 ?_)⟩) (fun y3 => xo_failS (c := 5) h8 hO.1 ?_)
        · refine H (pm_u W st (W st - n)) a_life a_codes ql z 0 1 (cr_S_wi hS' (fun i hi => ?_)) hO (fun i => Or.inl rfl) (Or.inl rfl) (fun _ => ⟨k1, k2, fun _ => ⟨a1, a2, Or.inl rfl⟩, fun w => by omega, fun w => by omega, k4, k5, k6, k7, k8⟩) (fun a t q hq => hYb a t q ?_)
          · unfold pm_u
            split
            · omega
            · exact (hS'.2 i hi).2.2.2.2.1
          · refine yb_d (w := W st) h8 hn eW rfl hW5 y1 (fun w => absurd (hot.trans y3) w) (fun _ w => by omega) (fun _ _ => ?_)
            rw [an_fu]
            exact hq a t
        · rw [eq]
          refine H W (upd a_life st 2) (upd a_codes st (nI 3)) (pm_u ql st 0) (ou_L z [1, 2, 0, st, 3]) 0 0 (cr_S_shut (by omega) hS') (td_z hO h8 (by omega)) hl2 (Or.inl rfl) (fun _ => hBK 0 rfl) (fun a t q hq => hYb a t q ?_)
          refine yb_d (w := W st) h8 hn eW rfl hW5 y1 (fun w => absurd (hot.trans y3) w) (fun _ _ => yb_dE (by omega) (by omega) a1 h8 hO.1 ?_) (fun _ w => by omega)
          rw [eq]
          exact hq a t
        · rw [eq]
          refine H W (upd a_life st 2) (upd a_codes st (nI 5)) (pm_u ql st 0) (ou_L z [1, 2, 0, st, 5]) 0 0 (cr_S_shut (by omega) hS') (td_z hO h8 (by omega)) hl2 (Or.inl rfl) (fun _ => hBK 0 rfl) (fun a t q hq => hYb a t q ?_)
          refine yb_d (w := W st) h8 hn eW rfl hW5 y1 (fun _ => yb_dE (by omega) (by omega) a1 h8 hO.1 ?_) (fun w => absurd (hot.symm.trans w) y3) (fun w => absurd (hot.symm.trans w) y3)
          rw [eq]
          exact hq a t
    · refine H wi a_life a_codes ql z 0 (if so < 5 then 1 else 0) hS hO (fun i => Or.inl rfl) (Or.inl rfl) (fun _ => ⟨k1, k2, fun w => absurd w e0, fun _ w => if_pos (by omega), fun w => if_neg (by omega), k4, k5, k6, k7, k8⟩) (fun a t q hq => ?_)
      refine yh_begin hn hso hst hw0 f0 f1 f3 ?_
      rw [hcc]
      exact yb_oth hso e0 (hq a t)
  · have hle := fb_le (n := n) (so := so) (st := st) (life := a_life) (w0 := wi 0)
    have hne : ¬ nI (fb_c a_life n so st (wi 0)) = 0 := by
      intro e
      have := (nI_eq (a := fb_c a_life n so st (wi 0)) (b := 0) (by omega) (by omega)).mp e
      omega
    refine br_f hne (xo_failC hO.1 ?_)
    refine H wi a_life (upd a_codes 0 (nI (fb_c a_life n so st (wi 0)))) ql (ou_L z [1, 5, 0, 0, fb_c a_life n so st (wi 0)]) 1 (if so < 5 then 1 else 0) (cr_S_c0 hS) (bf_z hO (by omega)) (fun i => Or.inl rfl) (Or.inr rfl) (fun w => absurd w (by decide)) (fun a t q hq => ?_)
    exact yh_begin hn hso hst hw0 f0 f1 f3 (yb_err (by omega) (by omega) hO.1 (hq a t))
end
