/-! S: what is sent -/
section
def sd_n (ql wo : Nat → Nat) (s : Nat) : Nat :=
  if wo 0 < (if wo s < (if ql s < 16 then ql s else 16) then wo s else (if ql s < 16 then ql s else 16)) then wo 0 else (if wo s < (if ql s < 16 then ql s else 16) then wo s else (if ql s < 16 then ql s else 16))
theorem sd_n_le (ql wo : Nat → Nat) (s : Nat) : sd_n ql wo s ≤ ql s ∧ sd_n ql wo s ≤ 16 ∧ sd_n ql wo s ≤ wo s ∧ sd_n ql wo s ≤ wo 0 := by
  unfold sd_n
  split <;> split <;> split <;> omega
/-- whether it is the last -/
def sd_l (fi : Nat → Int32) (ql wo : Nat → Nat) (s : Nat) : Nat := if fi s = 0 then 0 else if sd_n ql wo s = ql s then 1 else 0
def sd_Q (Q : Nat → Nat) (s n k : Nat) : Nat → Nat := fun j => if 500 * s ≤ j ∧ j < 500 * s + (k - n) then Q (j + n) else Q j
theorem sd_Q_0 (Q : Nat → Nat) (s n : Nat) : sd_Q Q s n n = Q := by
  funext j
  unfold sd_Q
  rw [if_neg (by omega)]
theorem sd_Q_s {Q : Nat → Nat} {s n k : Nat} (h : n ≤ k) : pm_u (sd_Q Q s n k) (500 * s + k - n) (sd_Q Q s n k (500 * s + k)) = sd_Q Q s n (k + 1) := by
  funext j
  unfold pm_u sd_Q
  rw [if_neg (show ¬ (500 * s ≤ 500 * s + k ∧ 500 * s + k < 500 * s + (k - n)) by omega)]
  by_cases g : j = 500 * s + k - n
  · rw [if_pos g, if_pos (by omega)]
    exact congrArg Q (by omega)
  · rw [if_neg g]
    by_cases g2 : 500 * s ≤ j ∧ j < 500 * s + (k - n)
    · rw [if_pos g2, if_pos (by omega)]
    · rw [if_neg g2, if_neg (by omega)]
def sd_ql (ql : Nat → Nat) (s n : Nat) : Nat → Nat := pm_u ql s (ql s - n)
def sd_wo (wo : Nat → Nat) (s n : Nat) : Nat → Nat := pm_u (pm_u wo s (wo s - n)) 0 (pm_u wo s (wo s - n) 0 - n)
def sd_bs (Q : Nat → Nat) (s k : Nat) : List Nat := (List.range k).map (fun i => Q (500 * s + i))
theorem sd_bs_s (Q : Nat → Nat) (s k : Nat) : sd_bs Q s (k + 1) = sd_bs Q s k ++ [Q (500 * s + k)] := by
  unfold sd_bs
  rw [List.range_succ, List.map_append]; rfl
def sd_we (we : Nat → Int32) (s l : Nat) : Nat → Int32 := if l = 0 then we else upd we s 1
def sd_li (life th : Nat → Int32) (s l : Nat) : Nat → Int32 := if l = 0 ∨ th s = 0 then life else upd life s 2
variable {f_frameAt f_frameLength f_frameSort f_frameFlags f_frameStream f_down f_entryCount f_most f_typeSeen f_lastSender f_sentLength : Int32} {a_payload a_life a_theyEnded a_weEnded a_finishing a_codes a_windowIn a_windowOut a_headers a_headerCount a_entries a_kinds a_repeats a_messageCount a_text a_nodeCount a_nodeTypes a_valueCount a_valueOwners a_values a_skippedCount a_reader a_chainNode a_chainEnd a_queue a_queueLength a_sent a_nodeSize a_nodePlace : Nat → Int32} {yf_down yf_heads yf_paid yf_payload yf_wants yf_name yf_first yf_counts yf_enters yf_most yf_many yf_sent yf_last yf_nodes yf_values yf_skipped yf_pos yf_there yf_number yf_at : Int32} {ya_kind ya_repeated ya_how ya_code ya_coming ya_going ya_type ya_headers ya_header ya_queued ya_otherEnded ya_ended ya_finishing ya_queue ya_prefix ya_length ya_got ya_high ya_whole ya_has ya_bytes ya_frame ya_payloads ya_table ya_out ya_nodeType ya_valueNode ya_valueNumber ya_value ya_from ya_limit ya_inside ya_sizes : Nat → Int32} {s n l : Nat} {z : (Nat → Nat) × Nat} {Q ql wo : Nat → Nat}
theorem sd_i5 {k : Nat} (hs : s < 8) (hk : k < 500) : nI s * 500 + nI k = nI (500 * s + k) ∧ 500 * nI s + nI k = nI (500 * s + k) ∧ vp_in (nI (500 * s + k)) 4000 ∧ (nI (500 * s + k)).toNatClampNeg = 500 * s + k := by
  refine ⟨?_, ?_, vp_in_nI (by omega) (by omega), nI_clamp (by omega)⟩
  · rw [show (500 : Int32) = nI 500 from rfl, pk_mul, nI_add, Nat.mul_comm]
  · rw [show (500 : Int32) = nI 500 from rfl, pk_mul, nI_add]
theorem sd_wo_e (hs : 0 < s) (hn : n ≤ wo s) (hn0 : n ≤ wo 0) :
    upd (upd (an_f wo) s (an_f wo s - nI n)) 0 (upd (an_f wo) s (an_f wo s - nI n) 0 - nI n) = an_f (sd_wo wo s n) := by
  rw [an_fa, pk_sub hn, an_fu, an_fa]
  have e : pm_u wo s (wo s - n) 0 = wo 0 := pm_un (by omega)
  rw [e, pk_sub hn0]
  show upd (an_f (pm_u wo s (wo s - n))) 0 (nI (wo 0 - n)) = _
  rw [an_fu]
  unfold sd_wo
  rw [e]
theorem xo_sd153 (hs0 : 0 < s) (hs : s < 8) (hq : ql s ≤ 500) (hn : n ≤ ql s) (hw : n ≤ wo s) (hw0 : n ≤ wo 0) (hl : l ≤ 1) {post : SX → Prop}
    (H : post (f_frameAt, f_frameLength, f_frameSort, f_frameFlags, f_frameStream, f_down, f_entryCount, f_most, f_typeSeen, nI s, f_sentLength, a_payload, sd_li a_life a_theyEnded s l, a_theyEnded, sd_we a_weEnded s l, a_finishing, a_codes, a_windowIn, an_f (sd_wo wo s n), a_headers, a_headerCount, a_entries, a_kinds, a_repeats, a_messageCount, a_text, a_nodeCount, a_nodeTypes, a_valueCount, a_valueOwners, a_values, a_skippedCount, a_reader, a_chainNode, a_chainEnd, an_f (sd_Q Q s n (ql s)), an_f (sd_ql ql s n), a_sent, a_nodeSize, a_nodePlace)) : ∀ r k, k + r = ql s → n ≤ k →
    wX_sendData_153 post (nI s) (nI n) (nI l) f_frameAt f_frameLength f_frameSort f_frameFlags f_frameStream f_down f_entryCount f_most f_typeSeen f_lastSender f_sentLength (r + 1) (nI k) a_payload a_life a_theyEnded a_weEnded a_finishing a_codes a_windowIn (an_f wo) a_headers a_headerCount a_entries a_kinds a_repeats a_messageCount a_text a_nodeCount a_nodeTypes a_valueCount a_valueOwners a_values a_skippedCount a_reader a_chainNode a_chainEnd (an_f (sd_Q Q s n k)) (an_f ql) a_sent a_nodeSize a_nodePlace
  | 0, k, hk, hnk => by
    rw [wX_sendData_153]
    obtain ⟨g1, g2⟩ := xr_c8 hs
    rw [g2]
    have hk' : k = ql s := by omega
    subst hk'
    refine ⟨g1, ?_⟩
    refine pk_le (ql s) (ql s) (fun _ => ?_) (fun g => absurd g (by omega)) rfl rfl (by omega) (by omega)
    refine ⟨g1, g1, nm_r (by rw [an_fa, pk_sub hn, an_fu]) ⟨g1, g1, nm_e (nm_r (sd_wo_e hs0 hw hw0) ?_)⟩⟩
    refine pk_eq l 0 (fun g => ?_) (fun g => ?_)
    · unfold sd_li sd_we at H
      rw [if_pos (Or.inl g), if_pos g] at H
      exact H
    · refine ⟨g1, nm_r (e' := upd a_weEnded s 1) rfl ⟨g1, br_c (fun y => ?_) (fun y => ⟨g1, nm_e ?_⟩)⟩⟩
      · unfold sd_li sd_we at H
        rw [if_pos (Or.inr y), if_neg g] at H
        exact H
      · unfold sd_li sd_we at H
        rw [if_neg (fun w => by rcases w with w | w; exact g w; exact y w), if_neg g] at H
        exact H
  | r + 1, k, hk, hnk => by
    rw [wX_sendData_153]
    obtain ⟨g1, g2⟩ := xr_c8 hs
    rw [g2]
    obtain ⟨i1, i2, i3, i4⟩ := sd_i5 (s := s) (k := k) hs (by omega)
    obtain ⟨j1, j2, j3, j4⟩ := sd_i5 (s := s) (k := k - n) hs (by omega)
    refine ⟨g1, ?_⟩
    refine pk_le (ql s) k (fun g => absurd g (by omega)) (fun g => ?_) rfl rfl (by omega) (by omega)
    rw [i1]
    have e : nI (500 * s + k) - nI n = nI (500 * s + (k - n)) := by
      rw [pk_sub (by omega)]; exact congrArg nI (by omega)
    rw [e, i4, j4]
    refine ⟨i3, j3, nm_r (e' := an_f (sd_Q Q s n (k + 1))) ?_ (nm_r (nI_1 _) (xo_sd153 hs0 hs hq hn hw hw0 hl H r (k + 1) (by omega) (by omega)))⟩
    rw [an_fa, an_fu, ← sd_Q_s hnk]
    exact congrArg (fun i => an_f (pm_u (sd_Q Q s n k) i (sd_Q Q s n k (500 * s + k)))) (by omega)
theorem yo_sd133 (hs0 : 0 < s) (hs : s < 8) (hq : ql s ≤ 500) (hn : n ≤ ql s) (hw : n ≤ wo s) (hw0 : n ≤ wo 0) (hl : l ≤ 1)
    (hco : l = 1 → ya_otherEnded s ≠ 0 → ya_code s = 0 ∧ n = ql s) {post : SY → Prop}
    (H : post (yf_down, yf_heads, yf_paid, yf_payload, yf_wants, yf_name, yf_first, yf_counts, yf_enters, yf_most, yf_many, yf_sent, yf_last, yf_nodes, yf_values, yf_skipped, yf_pos, yf_there, yf_number, yf_at, ya_kind, ya_repeated, sd_li ya_how ya_otherEnded s l, ya_code, ya_coming, an_f (sd_wo wo s n), ya_type, ya_headers, ya_header, an_f (sd_ql ql s n), ya_otherEnded, sd_we ya_ended s l, ya_finishing, an_g (sd_Q Q s n (ql s)), ya_prefix, ya_length, ya_got, ya_high, ya_whole, ya_has, ya_bytes, ya_frame, ya_payloads, ya_table, ya_out, ya_nodeType, ya_valueNode, ya_valueNumber, ya_value, ya_from, ya_limit, ya_inside, ya_sizes)) : ∀ r k, k + r = ql s → n ≤ k →
    wY_send_133 post (nI s) (nI n) (nI l) yf_down yf_heads yf_paid yf_payload yf_wants yf_name yf_first yf_counts yf_enters yf_most yf_many yf_sent yf_last yf_nodes yf_values yf_skipped yf_pos yf_there yf_number yf_at (r + 1) (nI k) ya_kind ya_repeated ya_how ya_code ya_coming (an_f wo) ya_type ya_headers ya_header (an_f ql) ya_otherEnded ya_ended ya_finishing (an_g (sd_Q Q s n k)) ya_prefix ya_length ya_got ya_high ya_whole ya_has ya_bytes ya_frame ya_payloads ya_table ya_out ya_nodeType ya_valueNode ya_valueNumber ya_value ya_from ya_limit ya_inside ya_sizes
  | 0, k, hk, hnk => by
    rw [wY_send_133]
    obtain ⟨g1, g2⟩ := xr_c8 hs
    rw [g2]
    have hk' : k = ql s := by omega
    subst hk'
    refine ⟨g1, ?_⟩
    refine pk_le (ql s) (ql s) (fun _ => ?_) (fun g => absurd g (by omega)) rfl rfl (by omega) (by omega)
    refine ⟨g1, g1, nm_r (by rw [an_fa, pk_sub hn, an_fu]) ⟨g1, g1, nm_e (nm_r (sd_wo_e hs0 hw hw0) ?_)⟩⟩
    refine pk_eq l 0 (fun g => ?_) (fun g => ?_)
    · unfold sd_li sd_we at H
      rw [if_pos (Or.inl g), if_pos g] at H
      exact H
    · refine ⟨g1, nm_r (e' := upd ya_ended s 1) rfl ⟨g1, br_c (fun y => ?_) (fun y => ?_)⟩⟩
      · unfold sd_li sd_we at H
        rw [if_pos (Or.inr y), if_neg g] at H
        exact H
      · unfold sd_li sd_we at H
        rw [if_neg (fun w => by rcases w with w | w; exact g w; exact y w), if_neg g] at H
        obtain ⟨c1, c2⟩ := hco (by omega) y
        refine yo_shut hs ?_
        rw [xr_ui c1, xr_ui (show an_f (pm_u ql s (ql s - n)) s = 0 by rw [an_fa, pm_us, c2, Nat.sub_self]; rfl)]
        exact H
  | r + 1, k, hk, hnk => by
    rw [wY_send_133]
    obtain ⟨g1, g2⟩ := xr_c8 hs
    rw [g2]
    obtain ⟨i1, i2, i3, i4⟩ := sd_i5 (s := s) (k := k) hs (by omega)
    obtain ⟨j1, j2, j3, j4⟩ := sd_i5 (s := s) (k := k - n) hs (by omega)
    refine ⟨g1, ?_⟩
    refine pk_le (ql s) k (fun g => absurd g (by omega)) (fun g => ?_) rfl rfl (by omega) (by omega)
    rw [i2]
    have e : nI (500 * s + k) - nI n = nI (500 * s + (k - n)) := by
      rw [pk_sub (by omega)]; exact congrArg nI (by omega)
    rw [e, i4, j4]
    refine ⟨i3, j3, nm_r (e' := an_g (sd_Q Q s n (k + 1))) ?_ (nm_r (nI_1 _) (yo_sd133 hs0 hs hq hn hw hw0 hl hco H r (k + 1) (by omega) (by omega)))⟩
    rw [an_ga, an_b2, an_gu, ← sd_Q_s hnk]
    exact congrArg (fun i => an_g (pm_u (sd_Q Q s n k) i (sd_Q Q s n k (500 * s + k)))) (by omega)
end
section
variable {f_frameAt f_frameLength f_frameSort f_frameFlags f_frameStream f_down f_entryCount f_most f_typeSeen f_lastSender f_sentLength : Int32} {a_payload a_life a_theyEnded a_weEnded a_finishing a_codes a_windowIn a_windowOut a_headers a_headerCount a_entries a_kinds a_repeats a_messageCount a_text a_nodeCount a_nodeTypes a_valueCount a_valueOwners a_values a_skippedCount a_reader a_chainNode a_chainEnd a_queue a_queueLength a_sent a_nodeSize a_nodePlace : Nat → Int32} {yf_down yf_heads yf_paid yf_payload yf_wants yf_name yf_first yf_counts yf_enters yf_most yf_many yf_sent yf_last yf_nodes yf_values yf_skipped yf_pos yf_there yf_number yf_at : Int32} {ya_kind ya_repeated ya_how ya_code ya_coming ya_going ya_type ya_headers ya_header ya_queued ya_otherEnded ya_ended ya_finishing ya_queue ya_prefix ya_length ya_got ya_high ya_whole ya_has ya_bytes ya_frame ya_payloads ya_table ya_out ya_nodeType ya_valueNode ya_valueNumber ya_value ya_from ya_limit ya_inside ya_sizes : Nat → Int32} {s n l : Nat} {z : (Nat → Nat) × Nat} {Q ql wo : Nat → Nat}
theorem xo_sd121 (hs : s < 8) (hn : n ≤ 16) (hz : z.2 ≤ 1200) {post : SX → Prop}
    (H : ∃ m, wX_sendData_153 post (nI s) (nI n) (nI l) f_frameAt f_frameLength f_frameSort f_frameFlags f_frameStream f_down f_entryCount f_most f_typeSeen f_lastSender (nI (ou_L z (sd_bs Q s n)).2) m (nI n) a_payload a_life a_theyEnded a_weEnded a_finishing a_codes a_windowIn a_windowOut a_headers a_headerCount a_entries a_kinds a_repeats a_messageCount a_text a_nodeCount a_nodeTypes a_valueCount a_valueOwners a_values a_skippedCount a_reader a_chainNode a_chainEnd (an_f Q) a_queueLength (an_f (ou_L z (sd_bs Q s n)).1) a_nodeSize a_nodePlace) : ∀ r k, k + r = n →
    wX_sendData_121 post (nI s) (nI n) (nI l) (r + 1) (nI k) f_frameAt f_frameLength f_frameSort f_frameFlags f_frameStream f_down f_entryCount f_most f_typeSeen f_lastSender (nI (ou_L z (sd_bs Q s k)).2) a_payload a_life a_theyEnded a_weEnded a_finishing a_codes a_windowIn a_windowOut a_headers a_headerCount a_entries a_kinds a_repeats a_messageCount a_text a_nodeCount a_nodeTypes a_valueCount a_valueOwners a_values a_skippedCount a_reader a_chainNode a_chainEnd (an_f Q) a_queueLength (an_f (ou_L z (sd_bs Q s k)).1) a_nodeSize a_nodePlace
  | 0, k, hk => by
    have hk' : k = n := by omega
    subst hk'
    rw [wX_sendData_121]
    exact pk_le k k (fun _ => H) (fun g => absurd g (by omega))
  | r + 1, k, hk => by
    rw [wX_sendData_121]
    obtain ⟨i1, i2, i3, i4⟩ := sd_i5 (s := s) (k := k) hs (by omega)
    refine pk_le n k (fun g => absurd g (by omega)) (fun g => ?_)
    rw [i1, i4]
    refine ⟨i3, xo_put (b := Q (500 * s + k)) (ou_L_le _ hz) (nm_r (nI_1 _) ?_)⟩
    rw [← ou_L_1, ← ou_L_app, ← sd_bs_s]
    exact xo_sd121 hs hn hz H r (k + 1) (by omega)
theorem yo_sd101 (hs : s < 8) (hn : n ≤ 16) (hz : z.2 ≤ 1200) {post : SY → Prop}
    (H : ∃ m, wY_send_133 post (nI s) (nI n) (nI l) yf_down yf_heads yf_paid yf_payload yf_wants yf_name yf_first yf_counts yf_enters yf_most yf_many (nI (ou_L z (sd_bs Q s n)).2) yf_last yf_nodes yf_values yf_skipped yf_pos yf_there yf_number yf_at m (nI n) ya_kind ya_repeated ya_how ya_code ya_coming ya_going ya_type ya_headers ya_header ya_queued ya_otherEnded ya_ended ya_finishing (an_g Q) ya_prefix ya_length ya_got ya_high ya_whole ya_has ya_bytes ya_frame ya_payloads ya_table (an_g (ou_L z (sd_bs Q s n)).1) ya_nodeType ya_valueNode ya_valueNumber ya_value ya_from ya_limit ya_inside ya_sizes) : ∀ r k, k + r = n →
    wY_send_101 post (nI s) (nI n) (nI l) (r + 1) (nI k) yf_down yf_heads yf_paid yf_payload yf_wants yf_name yf_first yf_counts yf_enters yf_most yf_many (nI (ou_L z (sd_bs Q s k)).2) yf_last yf_nodes yf_values yf_skipped yf_pos yf_there yf_number yf_at ya_kind ya_repeated ya_how ya_code ya_coming ya_going ya_type ya_headers ya_header ya_queued ya_otherEnded ya_ended ya_finishing (an_g Q) ya_prefix ya_length ya_got ya_high ya_whole ya_has ya_bytes ya_frame ya_payloads ya_table (an_g (ou_L z (sd_bs Q s k)).1) ya_nodeType ya_valueNode ya_valueNumber ya_value ya_from ya_limit ya_inside ya_sizes
  | 0, k, hk => by
    have hk' : k = n := by omega
    subst hk'
    rw [wY_send_101]
    exact pk_le k k (fun _ => H) (fun g => absurd g (by omega))
  | r + 1, k, hk => by
    rw [wY_send_101]
    obtain ⟨i1, i2, i3, i4⟩ := sd_i5 (s := s) (k := k) hs (by omega)
    refine pk_le n k (fun g => absurd g (by omega)) (fun g => ?_)
    rw [i2, i4]
    refine ⟨i3, yo_put (b := Q (500 * s + k)) (an_bb _) (ou_L_le _ hz) (nm_r (nI_1 _) ?_)⟩
    rw [← ou_L_1, ← ou_L_app, ← sd_bs_s]
    exact yo_sd101 hs hn hz H r (k + 1) (by omega)
/-- the bytes of one frame of data -/
def sd_z (z : (Nat → Nat) × Nat) (Q : Nat → Nat) (s n l : Nat) : (Nat → Nat) × Nat := ou_L (ou_L z [n, 0, l, s]) (sd_bs Q s n)
theorem xo_sendData (hs0 : 0 < s) (hs : s < 8) (hq : ql s ≤ 500) (hw : wo s ≤ 255) (hw0 : wo 0 ≤ 255) (hz : z.2 ≤ 1200) {post : SX → Prop}
    (hn : n = sd_n ql wo s) (hl : l = sd_l a_finishing ql wo s)
    (H : post (f_frameAt, f_frameLength, f_frameSort, f_frameFlags, f_frameStream, f_down, f_entryCount, f_most, f_typeSeen, nI s, nI (sd_z z Q s n l).2, a_payload, sd_li a_life a_theyEnded s l, a_theyEnded, sd_we a_weEnded s l, a_finishing, a_codes, a_windowIn, an_f (sd_wo wo s n), a_headers, a_headerCount, a_entries, a_kinds, a_repeats, a_messageCount, a_text, a_nodeCount, a_nodeTypes, a_valueCount, a_valueOwners, a_values, a_skippedCount, a_reader, a_chainNode, a_chainEnd, an_f (sd_Q Q s n (ql s)), an_f (sd_ql ql s n), an_f (sd_z z Q s n l).1, a_nodeSize, a_nodePlace)) :
    wpX_sendData post (f_frameAt, f_frameLength, f_frameSort, f_frameFlags, f_frameStream, f_down, f_entryCount, f_most, f_typeSeen, f_lastSender, nI z.2, a_payload, a_life, a_theyEnded, a_weEnded, a_finishing, a_codes, a_windowIn, an_f wo, a_headers, a_headerCount, a_entries, a_kinds, a_repeats, a_messageCount, a_text, a_nodeCount, a_nodeTypes, a_valueCount, a_valueOwners, a_values, a_skippedCount, a_reader, a_chainNode, a_chainEnd, an_f Q, an_f ql, an_f z.1, a_nodeSize, a_nodePlace) (nI s) := by
  obtain ⟨g1, g2⟩ := xr_c8 hs
  obtain ⟨n1, n2, n3, n4⟩ := sd_n_le ql wo s
  have hl1 : l ≤ 1 := by
    rw [hl]; unfold sd_l
    split
    · omega
    · split <;> omega
  have h89 : wX_sendData_89 post (nI s) (nI n) (nI l) f_frameAt f_frameLength f_frameSort f_frameFlags f_frameStream f_down f_entryCount f_most f_typeSeen f_lastSender (nI z.2) a_payload a_life a_theyEnded a_weEnded a_finishing a_codes a_windowIn (an_f wo) a_headers a_headerCount a_entries a_kinds a_repeats a_messageCount a_text a_nodeCount a_nodeTypes a_valueCount a_valueOwners a_values a_skippedCount a_reader a_chainNode a_chainEnd (an_f Q) (an_f ql) (an_f z.1) a_nodeSize a_nodePlace := by
    have h110 : wX_sendData_110 post (nI s) (nI n) (nI l) (nI l) f_frameAt f_frameLength f_frameSort f_frameFlags f_frameStream f_down f_entryCount f_most f_typeSeen f_lastSender (nI (ou_1 (ou_1 z n) 0).2) a_payload a_life a_theyEnded a_weEnded a_finishing a_codes a_windowIn (an_f wo) a_headers a_headerCount a_entries a_kinds a_repeats a_messageCount a_text a_nodeCount a_nodeTypes a_valueCount a_valueOwners a_values a_skippedCount a_reader a_chainNode a_chainEnd (an_f Q) (an_f ql) (an_f (ou_1 (ou_1 z n) 0).1) a_nodeSize a_nodePlace := by
      unfold wX_sendData_110
      refine xo_put (ou_1_le (ou_1_le hz)) (xo_put (ou_1_le (ou_1_le (ou_1_le hz))) ?_)
      refine ⟨n + 1, xo_sd121 (z := ou_L z [n, 0, l, s]) hs (by omega) (ou_L_le _ hz) ?_ n 0 (by omega)⟩
      refine ⟨ql s - n + 1, ?_⟩
      have := xo_sd153 (f_lastSender := f_lastSender) (n := n) (l := l) (Q := Q) hs0 hs hq (by omega) (by omega) (by omega) hl1 H (ql s - n) n (by omega) (Nat.le_refl _)
      rw [sd_Q_0] at this
      exact this
    unfold wX_sendData_89
    refine xo_put hz (xo_put (b := 0) (ou_1_le hz) ?_)
    refine pk_eq l 0 (fun y => ?_) (fun y => ?_)
    · rw [y] at h110 ⊢; exact h110
    · have : l = 1 := by omega
      rw [this] at h110 ⊢; exact h110
  have h64 : wX_sendData_64 post (nI s) (nI n) f_frameAt f_frameLength f_frameSort f_frameFlags f_frameStream f_down f_entryCount f_most f_typeSeen f_lastSender (nI z.2) a_payload a_life a_theyEnded a_weEnded a_finishing a_codes a_windowIn (an_f wo) a_headers a_headerCount a_entries a_kinds a_repeats a_messageCount a_text a_nodeCount a_nodeTypes a_valueCount a_valueOwners a_values a_skippedCount a_reader a_chainNode a_chainEnd (an_f Q) (an_f ql) (an_f z.1) a_nodeSize a_nodePlace := by
    unfold wX_sendData_64
    rw [g2]
    refine ⟨g1, br_c (fun y => ?_) (fun y => ⟨g1, ?_⟩)⟩
    · unfold wX_sendData_88
      have : l = 0 := by rw [hl]; unfold sd_l; rw [if_pos y]
      rw [this] at h89; exact h89
    · refine pk_eq n (ql s) (fun w => ?_) (fun w => ?_)
      · have : l = 1 := by rw [hl]; unfold sd_l; rw [if_neg y, if_pos (by omega)]
        rw [this] at h89; exact h89
      · unfold wX_sendData_88
        have : l = 0 := by rw [hl]; unfold sd_l; rw [if_neg y, if_neg (by omega)]
        rw [this] at h89; exact h89
  have h43 : ∀ b, n = (if wo 0 < b then wo 0 else b) → b < 2 ^ 31 → wX_sendData_43 post (nI s) (nI b) f_frameAt f_frameLength f_frameSort f_frameFlags f_frameStream f_down f_entryCount f_most f_typeSeen f_lastSender (nI z.2) a_payload a_life a_theyEnded a_weEnded a_finishing a_codes a_windowIn (an_f wo) a_headers a_headerCount a_entries a_kinds a_repeats a_messageCount a_text a_nodeCount a_nodeTypes a_valueCount a_valueOwners a_values a_skippedCount a_reader a_chainNode a_chainEnd (an_f Q) (an_f ql) (an_f z.1) a_nodeSize a_nodePlace := by
    intro b hb hb31
    unfold wX_sendData_43
    refine pk_le b (wo 0) (fun y => ?_) (fun y => ?_) rfl rfl hb31 (by omega)
    · rw [if_neg (by omega)] at hb
      rw [← hb]; exact h64
    · rw [if_pos y] at hb
      rw [an_fa, ← hb]; exact h64
  have h22 : ∀ b, n = (if wo 0 < (if wo s < b then wo s else b) then wo 0 else (if wo s < b then wo s else b)) → b < 2 ^ 31 → wX_sendData_22 post (nI s) (nI b) f_frameAt f_frameLength f_frameSort f_frameFlags f_frameStream f_down f_entryCount f_most f_typeSeen f_lastSender (nI z.2) a_payload a_life a_theyEnded a_weEnded a_finishing a_codes a_windowIn (an_f wo) a_headers a_headerCount a_entries a_kinds a_repeats a_messageCount a_text a_nodeCount a_nodeTypes a_valueCount a_valueOwners a_values a_skippedCount a_reader a_chainNode a_chainEnd (an_f Q) (an_f ql) (an_f z.1) a_nodeSize a_nodePlace := by
    intro b hb hb31
    unfold wX_sendData_22
    rw [g2]
    refine ⟨g1, pk_le b (wo s) (fun y => ?_) (fun y => ⟨g1, ?_⟩) rfl rfl hb31 (by omega)⟩
    · rw [if_neg (show ¬ wo s < b by omega)] at hb
      exact h43 b hb hb31
    · rw [if_pos y] at hb
      exact h43 (wo s) hb (by omega)
  unfold wpX_sendData
  rw [g2]
  refine ⟨g1, pk_le 16 (ql s) (fun y => ?_) (fun y => ⟨g1, ?_⟩) rfl rfl (by omega) (by omega)⟩
  · refine h22 16 ?_ (by omega)
    rw [hn]; unfold sd_n
    rw [if_neg (show ¬ ql s < 16 by omega)]
  · refine h22 (ql s) ?_ (by omega)
    rw [hn]; unfold sd_n
    rw [if_pos y]
theorem yo_send (hs0 : 0 < s) (hs : s < 8) (hq : ql s ≤ 500) (hw : wo s ≤ 255) (hw0 : wo 0 ≤ 255) (hz : z.2 ≤ 1200) {post : SY → Prop}
    (hn : n = sd_n ql wo s) (hl : l = sd_l ya_finishing ql wo s) (hco : l = 1 → ya_otherEnded s ≠ 0 → ya_code s = 0 ∧ n = ql s)
    (H : post (yf_down, yf_heads, yf_paid, yf_payload, yf_wants, yf_name, yf_first, yf_counts, yf_enters, yf_most, yf_many, nI (sd_z z Q s n l).2, yf_last, yf_nodes, yf_values, yf_skipped, yf_pos, yf_there, yf_number, yf_at, ya_kind, ya_repeated, sd_li ya_how ya_otherEnded s l, ya_code, ya_coming, an_f (sd_wo wo s n), ya_type, ya_headers, ya_header, an_f (sd_ql ql s n), ya_otherEnded, sd_we ya_ended s l, ya_finishing, an_g (sd_Q Q s n (ql s)), ya_prefix, ya_length, ya_got, ya_high, ya_whole, ya_has, ya_bytes, ya_frame, ya_payloads, ya_table, an_g (sd_z z Q s n l).1, ya_nodeType, ya_valueNode, ya_valueNumber, ya_value, ya_from, ya_limit, ya_inside, ya_sizes)) :
    wpY_send post (yf_down, yf_heads, yf_paid, yf_payload, yf_wants, yf_name, yf_first, yf_counts, yf_enters, yf_most, yf_many, nI z.2, yf_last, yf_nodes, yf_values, yf_skipped, yf_pos, yf_there, yf_number, yf_at, ya_kind, ya_repeated, ya_how, ya_code, ya_coming, an_f wo, ya_type, ya_headers, ya_header, an_f ql, ya_otherEnded, ya_ended, ya_finishing, an_g Q, ya_prefix, ya_length, ya_got, ya_high, ya_whole, ya_has, ya_bytes, ya_frame, ya_payloads, ya_table, an_g z.1, ya_nodeType, ya_valueNode, ya_valueNumber, ya_value, ya_from, ya_limit, ya_inside, ya_sizes) (nI s) := by
  obtain ⟨g1, g2⟩ := xr_c8 hs
  obtain ⟨n1, n2, n3, n4⟩ := sd_n_le ql wo s
  have hl1 : l ≤ 1 := by
    rw [hl]; unfold sd_l
    split
    · omega
    · split <;> omega
  have h94 : wY_send_94 post (nI s) (nI n) (nI l) (nI l) (nI 0) (nI n) yf_down yf_heads yf_paid yf_payload yf_wants yf_name yf_first yf_counts yf_enters yf_most yf_many (nI z.2) yf_last yf_nodes yf_values yf_skipped yf_pos yf_there yf_number yf_at ya_kind ya_repeated ya_how ya_code ya_coming (an_f wo) ya_type ya_headers ya_header (an_f ql) ya_otherEnded ya_ended ya_finishing (an_g Q) ya_prefix ya_length ya_got ya_high ya_whole ya_has ya_bytes ya_frame ya_payloads ya_table (an_g z.1) ya_nodeType ya_valueNode ya_valueNumber ya_value ya_from ya_limit ya_inside ya_sizes := by
    unfold wY_send_94
    refine yo_frame hz ?_
    refine ⟨n + 1, yo_sd101 (z := ou_L z [n, 0, l, s]) hs (by omega) (ou_L_le _ hz) ?_ n 0 (by omega)⟩
    refine ⟨ql s - n + 1, ?_⟩
    have := yo_sd133 (n := n) (l := l) (Q := Q) hs0 hs hq (by omega) (by omega) (by omega) hl1 hco H (ql s - n) n (by omega) (Nat.le_refl _)
    rw [sd_Q_0] at this
    exact this
  have h81 : wY_send_81 post (nI s) (nI n) (nI l) yf_down yf_heads yf_paid yf_payload yf_wants yf_name yf_first yf_counts yf_enters yf_most yf_many (nI z.2) yf_last yf_nodes yf_values yf_skipped yf_pos yf_there yf_number yf_at ya_kind ya_repeated ya_how ya_code ya_coming (an_f wo) ya_type ya_headers ya_header (an_f ql) ya_otherEnded ya_ended ya_finishing (an_g Q) ya_prefix ya_length ya_got ya_high ya_whole ya_has ya_bytes ya_frame ya_payloads ya_table (an_g z.1) ya_nodeType ya_valueNode ya_valueNumber ya_value ya_from ya_limit ya_inside ya_sizes := by
    unfold wY_send_81
    refine pk_eq l 0 (fun y => ?_) (fun y => ?_)
    · rw [y] at h94 ⊢; exact h94
    · have : l = 1 := by omega
      rw [this] at h94 ⊢; exact h94
  have h57 : wY_send_57 post (nI s) (nI n) yf_down yf_heads yf_paid yf_payload yf_wants yf_name yf_first yf_counts yf_enters yf_most yf_many (nI z.2) yf_last yf_nodes yf_values yf_skipped yf_pos yf_there yf_number yf_at ya_kind ya_repeated ya_how ya_code ya_coming (an_f wo) ya_type ya_headers ya_header (an_f ql) ya_otherEnded ya_ended ya_finishing (an_g Q) ya_prefix ya_length ya_got ya_high ya_whole ya_has ya_bytes ya_frame ya_payloads ya_table (an_g z.1) ya_nodeType ya_valueNode ya_valueNumber ya_value ya_from ya_limit ya_inside ya_sizes := by
    unfold wY_send_57
    rw [g2]
    refine ⟨g1, br_c (fun y => ?_) (fun y => ⟨g1, ?_⟩)⟩
    · unfold wY_send_80
      have : l = 0 := by rw [hl]; unfold sd_l; rw [if_pos y]
      rw [this] at h81; exact h81
    · refine pk_eq n (ql s) (fun w => ?_) (fun w => ?_)
      · have : l = 1 := by rw [hl]; unfold sd_l; rw [if_neg y, if_pos (by omega)]
        rw [this] at h81; exact h81
      · unfold wY_send_80
        have : l = 0 := by rw [hl]; unfold sd_l; rw [if_neg y, if_neg (by omega)]
        rw [this] at h81; exact h81
  have h40 : ∀ b, n = (if wo 0 < b then wo 0 else b) → b < 2 ^ 31 → wY_send_40 post (nI s) (nI b) yf_down yf_heads yf_paid yf_payload yf_wants yf_name yf_first yf_counts yf_enters yf_most yf_many (nI z.2) yf_last yf_nodes yf_values yf_skipped yf_pos yf_there yf_number yf_at ya_kind ya_repeated ya_how ya_code ya_coming (an_f wo) ya_type ya_headers ya_header (an_f ql) ya_otherEnded ya_ended ya_finishing (an_g Q) ya_prefix ya_length ya_got ya_high ya_whole ya_has ya_bytes ya_frame ya_payloads ya_table (an_g z.1) ya_nodeType ya_valueNode ya_valueNumber ya_value ya_from ya_limit ya_inside ya_sizes := by
    intro b hb hb31
    unfold wY_send_40
    refine pk_le b (wo 0) (fun y => ?_) (fun y => nm_r (e' := nI n) ?_ h57) rfl rfl hb31 (by omega)
    · rw [if_neg (by omega)] at hb
      rw [← hb]; exact h57
    · rw [if_pos y] at hb
      rw [hb]; rfl
  have h22 : ∀ b, n = (if wo 0 < (if wo s < b then wo s else b) then wo 0 else (if wo s < b then wo s else b)) → b < 2 ^ 31 → wY_send_22 post (nI s) (nI b) yf_down yf_heads yf_paid yf_payload yf_wants yf_name yf_first yf_counts yf_enters yf_most yf_many (nI z.2) yf_last yf_nodes yf_values yf_skipped yf_pos yf_there yf_number yf_at ya_kind ya_repeated ya_how ya_code ya_coming (an_f wo) ya_type ya_headers ya_header (an_f ql) ya_otherEnded ya_ended ya_finishing (an_g Q) ya_prefix ya_length ya_got ya_high ya_whole ya_has ya_bytes ya_frame ya_payloads ya_table (an_g z.1) ya_nodeType ya_valueNode ya_valueNumber ya_value ya_from ya_limit ya_inside ya_sizes := by
    intro b hb hb31
    unfold wY_send_22
    rw [g2]
    refine ⟨g1, pk_le b (wo s) (fun y => ?_) (fun y => ⟨g1, nm_r (e' := nI (wo s)) rfl ?_⟩) rfl rfl hb31 (by omega)⟩
    · rw [if_neg (show ¬ wo s < b by omega)] at hb
      exact h40 b hb hb31
    · rw [if_pos y] at hb
      exact h40 (wo s) hb (by omega)
  unfold wpY_send
  rw [g2]
  refine ⟨g1, pk_le 16 (ql s) (fun y => ?_) (fun y => ⟨g1, ?_⟩) rfl rfl (by omega) (by omega)⟩
  · refine h22 16 ?_ (by omega)
    rw [hn]; unfold sd_n
    rw [if_neg (show ¬ ql s < 16 by omega)]
  · refine h22 (ql s) ?_ (by omega)
    rw [hn]; unfold sd_n
    rw [if_pos y]
end
