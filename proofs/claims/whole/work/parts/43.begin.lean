/-! T5: the head of a frame -/
section
variable {f_frameAt f_frameLength f_frameSort f_frameFlags f_frameStream f_down f_entryCount f_most f_typeSeen f_lastSender f_sentLength : Int32} {a_payload a_life a_theyEnded a_weEnded a_finishing a_codes a_windowIn a_windowOut a_headers a_headerCount a_entries a_kinds a_repeats a_messageCount a_text a_nodeCount a_nodeTypes a_valueCount a_valueOwners a_values a_skippedCount a_reader a_chainNode a_chainEnd a_queue a_queueLength a_sent a_nodeSize a_nodePlace : Nat → Int32} {yf_down yf_heads yf_paid yf_payload yf_wants yf_name yf_first yf_counts yf_enters yf_most yf_many yf_sent yf_last yf_nodes yf_values yf_skipped yf_pos yf_there yf_number yf_at : Int32} {ya_kind ya_repeated ya_how ya_code ya_coming ya_going ya_type ya_headers ya_header ya_queued ya_otherEnded ya_ended ya_finishing ya_queue ya_prefix ya_length ya_got ya_high ya_whole ya_has ya_bytes ya_frame ya_payloads ya_table ya_out ya_nodeType ya_valueNode ya_valueNumber ya_value ya_from ya_limit ya_inside ya_sizes : Nat → Int32} {n so st : Nat} {wi : Nat → Nat} {z : (Nat → Nat) × Nat}
/-- a stream behind is no longer idle -/
def fb_q (life : Nat → Int32) : Nat → Nat → Bool
  | 0, _ => false
  | f + 1, t => if life t = 0 then fb_q life f (t + 1) else true
/-- the error of the connection, or 0 -/
def fb_c (life : Nat → Int32) (n so st w0 : Nat) : Nat :=
  if 63 < n then 1 else if 5 < so then 0 else if 7 < st then 2 else
  if so = 0 then (if st = 0 then 2 else if life st = 0 then 2 else if w0 < n then 3 else 0)
  else if so = 1 then (if st = 0 then 2 else if life st = 0 ∧ fb_q life (7 - st) (st + 1) = true then 2 else 0)
  else if so = 5 then 0 else if n ≠ 1 then 1 else if so = 4 then (if 0 < st then 2 else 0) else (if 0 < st ∧ life st = 0 then 2 else if st = 0 ∧ so = 2 then 2 else 0)
theorem xh_pass {post : Int32 → Prop} : ∀ f t m, t + f = 8 → f < m → post (if fb_q a_life f t = true then 1 else 0) → wX_isPassed_4 post f_frameAt f_frameLength f_frameSort f_frameFlags f_frameStream f_down f_entryCount f_most f_typeSeen f_lastSender f_sentLength a_payload a_life a_theyEnded a_weEnded a_finishing a_codes a_windowIn a_windowOut a_headers a_headerCount a_entries a_kinds a_repeats a_messageCount a_text a_nodeCount a_nodeTypes a_valueCount a_valueOwners a_values a_skippedCount a_reader a_chainNode a_chainEnd a_queue a_queueLength a_sent a_nodeSize a_nodePlace m (nI t)
  | _, _, 0, _, h, _ => absurd h (by omega)
  | 0, t, m + 1, ht, _, H => by
    rw [wX_isPassed_4]
    exact pk_le 8 t (fun _ => H) (fun w => absurd w (by omega))
  | f + 1, t, m + 1, ht, hm, H => by
    rw [wX_isPassed_4]
    refine pk_le 8 t (fun w => absurd w (by omega)) (fun _ => ⟨vp_in_nI (by omega) (by omega), ?_⟩)
    rw [nI_clamp (by omega)]
    refine br_c (fun y => nm_r (nI_1 t) (xh_pass f (t + 1) m (by omega) (by omega) ?_)) (fun y => ?_)
    · rw [fb_q, if_pos y] at H; exact H
    · rw [fb_q, if_neg y, if_pos rfl] at H; exact H
theorem yh_pass {post : Int32 → Prop} (hs : st < 8) : ∀ f t m, t + f = 8 → f < m → post (if ya_how st = 0 ∧ fb_q ya_how f t = true then 1 else 0) → wY_idleBelow_4 post (nI st) yf_down yf_heads yf_paid yf_payload yf_wants yf_name yf_first yf_counts yf_enters yf_most yf_many yf_sent yf_last yf_nodes yf_values yf_skipped yf_pos yf_there yf_number yf_at ya_kind ya_repeated ya_how ya_code ya_coming ya_going ya_type ya_headers ya_header ya_queued ya_otherEnded ya_ended ya_finishing ya_queue ya_prefix ya_length ya_got ya_high ya_whole ya_has ya_bytes ya_frame ya_payloads ya_table ya_out ya_nodeType ya_valueNode ya_valueNumber ya_value ya_from ya_limit ya_inside ya_sizes m (nI t)
  | _, _, 0, _, h, _ => absurd h (by omega)
  | 0, t, m + 1, ht, _, H => by
    rw [wY_idleBelow_4]
    rw [if_neg (fun w => absurd w.2 Bool.false_ne_true)] at H
    exact pk_le 8 t (fun _ => H) (fun w => absurd w (by omega))
  | f + 1, t, m + 1, ht, hm, H => by
    rw [wY_idleBelow_4]
    refine pk_le 8 t (fun w => absurd w (by omega)) (fun _ => ⟨vp_in_nI (by omega) (by omega), ?_⟩)
    rw [nI_clamp (by omega), nI_clamp (by omega)]
    refine br_c (fun y => nm_r (nI_1 t) (yh_pass hs f (t + 1) m (by omega) (by omega) ?_)) (fun y => ⟨vp_in_nI hs (by omega), br_c (fun y2 => ?_) (fun y2 => ?_)⟩)
    · rw [fb_q, if_pos y] at H; exact H
    · rw [fb_q, if_neg y, if_pos ⟨y2, rfl⟩] at H; exact H
    · rw [if_neg (fun w => y2 w.1)] at H; exact H
theorem xh_52 {post : Int32 → Prop} {x : Int32} (hn : n ≤ 63) (hso : so ≤ 5) (hs : st ≤ 7) (hw : wi 0 ≤ 255) (hx : (x = 0 ∧ ¬ (0 < st ∧ a_life st = 0)) ∨ (x = 1 ∧ 0 < st ∧ a_life st = 0))
    (H : post (nI (fb_c a_life n so st (wi 0)))) : wX_headFault_52 post (nI st) x f_frameAt (nI n) (nI so) f_frameFlags (nI st) f_down f_entryCount f_most f_typeSeen f_lastSender f_sentLength a_payload a_life a_theyEnded a_weEnded a_finishing a_codes (an_f wi) a_windowOut a_headers a_headerCount a_entries a_kinds a_repeats a_messageCount a_text a_nodeCount a_nodeTypes a_valueCount a_valueOwners a_values a_skippedCount a_reader a_chainNode a_chainEnd a_queue a_queueLength a_sent a_nodeSize a_nodePlace := by
  rw [fb_c, if_neg (by omega), if_neg (by omega), if_neg (by omega)] at H
  unfold wX_headFault_52
  refine pk_eq so 0 (fun e0 => ?_) (fun e0 => ?_)
  · rw [if_pos e0] at H
    refine pk_eq st 0 (fun f0 => ?_) (fun f0 => ?_)
    · rw [if_pos f0] at H; exact H
    · rw [if_neg f0] at H
      rcases hx with ⟨hx, y⟩ | ⟨hx, _, y⟩
      · rw [if_neg (fun w => y ⟨by omega, w⟩)] at H
        refine br_t hx (pk_le n (wi 0) (fun w => ?_) (fun w => ?_))
        · rw [if_neg (by omega)] at H; exact H
        · rw [if_pos w] at H; exact H
      · rw [if_pos y] at H
        exact br_f (by rw [hx]; decide) H
  · rw [if_neg e0] at H
    refine pk_eq so 1 (fun e1 => ?_) (fun e1 => ?_)
    · rw [if_pos e1] at H
      refine pk_eq st 0 (fun f0 => ?_) (fun f0 => ?_)
      · rw [if_pos f0] at H; exact H
      · rw [if_neg f0] at H
        rcases hx with ⟨hx, y⟩ | ⟨hx, _, y⟩
        · rw [if_neg (fun w => y ⟨by omega, w.1⟩)] at H
          exact br_t hx H
        · refine br_f (by rw [hx]; decide) ?_
          unfold wpX_isPassed
          refine nm_r (nI_1 st) ⟨9, xh_pass (7 - st) (st + 1) 9 (by omega) (by omega) ?_⟩
          by_cases hq : fb_q a_life (7 - st) (st + 1) = true
          · rw [if_pos ⟨y, hq⟩] at H
            rw [if_pos hq]
            exact br_f (by decide) H
          · rw [if_neg (fun w => hq w.2)] at H
            rw [if_neg hq]
            exact br_t rfl H
    · rw [if_neg e1] at H
      refine pk_eq so 5 (fun e5 => ?_) (fun e5 => ?_)
      · rw [if_pos e5] at H; exact H
      · rw [if_neg e5] at H
        refine pk_eq n 1 (fun en => ?_) (fun en => ?_)
        · rw [if_neg (by omega)] at H
          refine pk_eq so 4 (fun e4 => ?_) (fun e4 => ?_)
          · rw [if_pos e4] at H
            refine pk_le st 0 (fun w => ?_) (fun w => ?_)
            · rw [if_neg (by omega)] at H; exact H
            · rw [if_pos w] at H; exact H
          · rw [if_neg e4] at H
            rcases hx with ⟨hx, y⟩ | ⟨hx, y1, y⟩
            · rw [if_neg y] at H
              refine br_t hx (pk_eq st 0 (fun w => pk_eq so 2 (fun w2 => ?_) (fun w2 => ?_)) (fun w => ?_))
              · rw [if_pos ⟨w, w2⟩] at H; exact H
              · rw [if_neg (fun q => w2 q.2)] at H; exact H
              · rw [if_neg (fun q => w q.1)] at H; exact H
            · rw [if_pos ⟨y1, y⟩] at H
              exact br_f (by rw [hx]; decide) H
        · rw [if_pos en] at H; exact H
theorem xh_fault {post : Int32 → Prop} (hn : n < 256) (hso : so < 256) (hs : st < 256) (hw : wi 0 ≤ 255)
    (H : post (nI (fb_c a_life n so st (wi 0)))) : wpX_headFault post (f_frameAt, nI n, nI so, f_frameFlags, nI st, f_down, f_entryCount, f_most, f_typeSeen, f_lastSender, f_sentLength, a_payload, a_life, a_theyEnded, a_weEnded, a_finishing, a_codes, an_f wi, a_windowOut, a_headers, a_headerCount, a_entries, a_kinds, a_repeats, a_messageCount, a_text, a_nodeCount, a_nodeTypes, a_valueCount, a_valueOwners, a_values, a_skippedCount, a_reader, a_chainNode, a_chainEnd, a_queue, a_queueLength, a_sent, a_nodeSize, a_nodePlace) := by
  unfold wpX_headFault
  refine pk_le n 63 (fun w1 => pk_le so 5 (fun w2 => pk_le st 7 (fun w3 => pk_le st 0 (fun w4 => ?_) (fun w4 => ?_)) (fun w3 => ?_)) (fun w2 => ?_)) (fun w1 => ?_)
  · unfold wX_headFault_51
    exact xh_52 w1 w2 w3 hw (Or.inl ⟨rfl, fun q => by omega⟩) H
  · refine ⟨vp_in_nI (by omega) (by omega), ?_⟩
    rw [nI_clamp (by omega)]
    refine br_c (fun y => ?_) (fun y => ?_)
    · exact xh_52 w1 w2 w3 hw (Or.inr ⟨rfl, w4, y⟩) H
    · unfold wX_headFault_51
      exact xh_52 w1 w2 w3 hw (Or.inl ⟨rfl, fun q => y q.2⟩) H
  · rw [fb_c, if_neg (by omega), if_neg (by omega), if_pos w3] at H; exact H
  · rw [fb_c, if_neg (by omega), if_pos w2] at H; exact H
  · rw [fb_c, if_pos w1] at H; exact H
theorem yh_58 {post : SY → Prop} {x ct : Int32} (hct : ct = 0 ∨ ct = 1) (hn : n < 256) (hso : so < 256) (hs : st < 256) (hw : wi 0 ≤ 255) (hx : (x = 0 ∧ ¬ (0 < st ∧ st < 8 ∧ ya_how st = 0)) ∨ (x = 1 ∧ 0 < st ∧ ya_how st = 0))
    (H : wY_begin_212 post (nI n) (nI so) (nI st) (nI (fb_c ya_how n so st (wi 0))) yf_down yf_heads yf_paid yf_payload yf_wants yf_name yf_first (ct) yf_enters yf_most yf_many yf_sent yf_last yf_nodes yf_values yf_skipped yf_pos yf_there yf_number yf_at ya_kind ya_repeated ya_how ya_code (an_f wi) ya_going ya_type ya_headers ya_header ya_queued ya_otherEnded ya_ended ya_finishing ya_queue ya_prefix ya_length ya_got ya_high ya_whole ya_has ya_bytes ya_frame ya_payloads ya_table ya_out ya_nodeType ya_valueNode ya_valueNumber ya_value ya_from ya_limit ya_inside ya_sizes) : wY_begin_58 post (nI n) (nI so) (nI st) x ct yf_down yf_heads yf_paid yf_payload yf_wants yf_name yf_first yf_counts yf_enters yf_most yf_many yf_sent yf_last yf_nodes yf_values yf_skipped yf_pos yf_there yf_number yf_at ya_kind ya_repeated ya_how ya_code (an_f wi) ya_going ya_type ya_headers ya_header ya_queued ya_otherEnded ya_ended ya_finishing ya_queue ya_prefix ya_length ya_got ya_high ya_whole ya_has ya_bytes ya_frame ya_payloads ya_table ya_out ya_nodeType ya_valueNode ya_valueNumber ya_value ya_from ya_limit ya_inside ya_sizes := by
  unfold wY_begin_58
  refine ⟨?_, ?_, ?_⟩
  · rcases hct with e | e <;> rw [e] <;> rfl
  · rcases hct with e | e <;> rw [e] <;> rfl
  refine pk_le n 63 (fun w1 => pk_le so 5 (fun w2 => pk_le st 7 (fun w3 => ?_) (fun w3 => ?_)) (fun w2 => ?_)) (fun w1 => ?_)
  · rw [fb_c, if_neg (by omega), if_neg (by omega), if_neg (by omega)] at H
    refine pk_eq so 0 (fun e0 => ?_) (fun e0 => ?_)
    · rw [if_pos e0] at H
      refine pk_eq st 0 (fun f0 => ?_) (fun f0 => ?_)
      · rw [if_pos f0] at H; exact H
      · rw [if_neg f0] at H
        rcases hx with ⟨hx, y⟩ | ⟨hx, _, y⟩
        · rw [if_neg (fun w => y ⟨by omega, by omega, w⟩)] at H
          refine br_t hx (pk_le n (wi 0) (fun w => ?_) (fun w => ?_))
          · rw [if_neg (by omega)] at H; exact H
          · rw [if_pos w] at H; exact H
        · rw [if_pos y] at H
          exact br_f (by rw [hx]; decide) H
    · rw [if_neg e0] at H
      refine pk_eq so 1 (fun e1 => ?_) (fun e1 => ?_)
      · rw [if_pos e1] at H
        refine pk_eq st 0 (fun f0 => ?_) (fun f0 => ?_)
        · rw [if_pos f0] at H; exact H
        · rw [if_neg f0] at H
          unfold wpY_idleBelow
          refine nm_r (nI_1 st) ⟨9, yh_pass (by omega) (7 - st) (st + 1) 9 (by omega) (by omega) ?_⟩
          by_cases hq : ya_how st = 0 ∧ fb_q ya_how (7 - st) (st + 1) = true
          · rw [if_pos hq] at H
            rw [if_pos hq]
            exact br_f (by decide) H
          · rw [if_neg hq] at H
            rw [if_neg hq]
            exact br_t rfl H
      · rw [if_neg e1] at H
        refine pk_le 5 so (fun e5 => ?_) (fun e5 => ?_)
        · rw [if_pos (by omega)] at H; exact H
        · rw [if_neg (by omega)] at H
          refine pk_eq n 1 (fun en => ?_) (fun en => ?_)
          · rw [if_neg (by omega)] at H
            have h196 : (so = 4 → st = 0 → wY_begin_209 post (nI n) (nI so) (nI st) yf_down yf_heads yf_paid yf_payload yf_wants yf_name yf_first (ct) yf_enters yf_most yf_many yf_sent yf_last yf_nodes yf_values yf_skipped yf_pos yf_there yf_number yf_at ya_kind ya_repeated ya_how ya_code (an_f wi) ya_going ya_type ya_headers ya_header ya_queued ya_otherEnded ya_ended ya_finishing ya_queue ya_prefix ya_length ya_got ya_high ya_whole ya_has ya_bytes ya_frame ya_payloads ya_table ya_out ya_nodeType ya_valueNode ya_valueNumber ya_value ya_from ya_limit ya_inside ya_sizes) → (so = 4 → 0 < st → wY_begin_205 post (nI n) (nI so) (nI st) yf_down yf_heads yf_paid yf_payload yf_wants yf_name yf_first (ct) yf_enters yf_most yf_many yf_sent yf_last yf_nodes yf_values yf_skipped yf_pos yf_there yf_number yf_at ya_kind ya_repeated ya_how ya_code (an_f wi) ya_going ya_type ya_headers ya_header ya_queued ya_otherEnded ya_ended ya_finishing ya_queue ya_prefix ya_length ya_got ya_high ya_whole ya_has ya_bytes ya_frame ya_payloads ya_table ya_out ya_nodeType ya_valueNode ya_valueNumber ya_value ya_from ya_limit ya_inside ya_sizes) →
                (so ≠ 4 → wY_begin_209 post (nI n) (nI so) (nI st) yf_down yf_heads yf_paid yf_payload yf_wants yf_name yf_first (ct) yf_enters yf_most yf_many yf_sent yf_last yf_nodes yf_values yf_skipped yf_pos yf_there yf_number yf_at ya_kind ya_repeated ya_how ya_code (an_f wi) ya_going ya_type ya_headers ya_header ya_queued ya_otherEnded ya_ended ya_finishing ya_queue ya_prefix ya_length ya_got ya_high ya_whole ya_has ya_bytes ya_frame ya_payloads ya_table ya_out ya_nodeType ya_valueNode ya_valueNumber ya_value ya_from ya_limit ya_inside ya_sizes) → wY_begin_196 post (nI n) (nI so) (nI st) yf_down yf_heads yf_paid yf_payload yf_wants yf_name yf_first (ct) yf_enters yf_most yf_many yf_sent yf_last yf_nodes yf_values yf_skipped yf_pos yf_there yf_number yf_at ya_kind ya_repeated ya_how ya_code (an_f wi) ya_going ya_type ya_headers ya_header ya_queued ya_otherEnded ya_ended ya_finishing ya_queue ya_prefix ya_length ya_got ya_high ya_whole ya_has ya_bytes ya_frame ya_payloads ya_table ya_out ya_nodeType ya_valueNode ya_valueNumber ya_value ya_from ya_limit ya_inside ya_sizes := by
              intro k1 k2 k3
              unfold wY_begin_196
              exact pk_eq so 4 (fun w => pk_le st 0 (fun w' => k1 w (by omega)) (fun w' => k2 w w')) (fun w => k3 w)
            refine pk_eq so 2 (fun e2 => pk_eq st 0 (fun f0 => ?_) (fun f0 => ?_)) (fun e2 => ?_)
            · rw [if_neg (by omega), if_neg (by omega), if_pos ⟨f0, e2⟩] at H; exact H
            · rw [if_neg (by omega)] at H
              unfold wY_begin_186
              refine pk_le 4 so (fun w => by omega) (fun _ => ?_)
              rcases hx with ⟨hx, y⟩ | ⟨hx, y1, y⟩
              · rw [if_neg (fun w => y ⟨w.1, by omega, w.2⟩), if_neg (fun w => f0 w.1)] at H
                exact br_t hx (h196 (fun w => by omega) (fun w => by omega) (fun _ => H))
              · rw [if_pos ⟨y1, y⟩] at H
                exact br_f (by rw [hx]; decide) H
            · unfold wY_begin_186
              refine pk_le 4 so (fun w => ?_) (fun w => ?_)
              · rw [if_pos (by omega)] at H
                refine h196 (fun _ f0 => ?_) (fun _ f0 => ?_) (fun w' => by omega)
                · rw [if_neg (by omega)] at H; exact H
                · rw [if_pos f0] at H; exact H
              · rw [if_neg (by omega)] at H
                rcases hx with ⟨hx, y⟩ | ⟨hx, y1, y⟩
                · rw [if_neg (fun w => y ⟨w.1, by omega, w.2⟩), if_neg (fun w => e2 w.2)] at H
                  exact br_t hx (h196 (fun w => by omega) (fun w => by omega) (fun _ => H))
                · rw [if_pos ⟨y1, y⟩] at H
                  exact br_f (by rw [hx]; decide) H
          · rw [if_pos en] at H; exact H
  · rw [fb_c, if_neg (by omega), if_neg (by omega), if_pos w3] at H; exact H
  · rw [fb_c, if_neg (by omega), if_pos w2] at H; exact H
  · rw [fb_c, if_pos w1] at H; exact H
theorem yh_begin {post : SY → Prop} (hn : n < 256) (hso : so < 256) (hs : st < 256) (hw : wi 0 ≤ 255) (f0 : ya_frame 0 = nI n) (f1 : ya_frame 1 = nI so) (f3 : ya_frame 3 = nI st)
    (H : wY_begin_212 post (nI n) (nI so) (nI st) (nI (fb_c ya_how n so st (wi 0))) yf_down yf_heads yf_paid yf_payload yf_wants yf_name yf_first (if so < 5 then 1 else 0) yf_enters yf_most yf_many yf_sent yf_last yf_nodes yf_values yf_skipped yf_pos yf_there yf_number yf_at ya_kind ya_repeated ya_how ya_code (an_f wi) ya_going ya_type ya_headers ya_header ya_queued ya_otherEnded ya_ended ya_finishing ya_queue ya_prefix ya_length ya_got ya_high ya_whole ya_has ya_bytes ya_frame ya_payloads ya_table ya_out ya_nodeType ya_valueNode ya_valueNumber ya_value ya_from ya_limit ya_inside ya_sizes) : wpY_begin post (yf_down, yf_heads, yf_paid, yf_payload, yf_wants, yf_name, yf_first, yf_counts, yf_enters, yf_most, yf_many, yf_sent, yf_last, yf_nodes, yf_values, yf_skipped, yf_pos, yf_there, yf_number, yf_at, ya_kind, ya_repeated, ya_how, ya_code, an_f wi, ya_going, ya_type, ya_headers, ya_header, ya_queued, ya_otherEnded, ya_ended, ya_finishing, ya_queue, ya_prefix, ya_length, ya_got, ya_high, ya_whole, ya_has, ya_bytes, ya_frame, ya_payloads, ya_table, ya_out, ya_nodeType, ya_valueNode, ya_valueNumber, ya_value, ya_from, ya_limit, ya_inside, ya_sizes) := by
  have h45 : ∀ x : Int32, (x = 0 ∧ ¬ (0 < st ∧ st < 8 ∧ ya_how st = 0)) ∨ (x = 1 ∧ 0 < st ∧ ya_how st = 0) → wY_begin_45 post (nI n) (nI so) (nI st) x yf_down yf_heads yf_paid yf_payload yf_wants yf_name yf_first yf_counts yf_enters yf_most yf_many yf_sent yf_last yf_nodes yf_values yf_skipped yf_pos yf_there yf_number yf_at ya_kind ya_repeated ya_how ya_code (an_f wi) ya_going ya_type ya_headers ya_header ya_queued ya_otherEnded ya_ended ya_finishing ya_queue ya_prefix ya_length ya_got ya_high ya_whole ya_has ya_bytes ya_frame ya_payloads ya_table ya_out ya_nodeType ya_valueNode ya_valueNumber ya_value ya_from ya_limit ya_inside ya_sizes := by
    intro x hx
    unfold wY_begin_45
    refine pk_le 5 so (fun w => ?_) (fun w => ?_)
    · rw [if_neg (by omega)] at H
      exact yh_58 (Or.inl rfl) hn hso hs hw hx H
    · rw [if_pos w] at H
      exact yh_58 (Or.inr rfl) hn hso hs hw hx H
  unfold wpY_begin
  refine nm_r f0 (nm_r f1 (nm_r f3 (pk_le st 0 (fun w => ?_) (fun w => pk_le 8 st (fun w2 => ?_) (fun w2 => ⟨vp_in_nI w2 (by omega), ?_⟩)))))
  · exact h45 0 (Or.inl ⟨rfl, fun q => by omega⟩)
  · exact h45 0 (Or.inl ⟨rfl, fun q => by omega⟩)
  · rw [nI_clamp (by omega)]
    exact br_c (fun y => h45 1 (Or.inr ⟨rfl, w, y⟩)) (fun y => h45 0 (Or.inl ⟨rfl, fun q => y q.2.2⟩))
end
