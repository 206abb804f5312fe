/-! S: what is sent -/
section
def sd_n (ql wo : Nat → Nat) (s : Nat) : Nat :=
  if wo 0 < (if wo s < (if ql s < 16 then ql s else 16) then wo s else (if ql s < 16 then ql s else 16)) then wo 0 else (if wo s < (if ql s < 16 then ql s else 16) then wo s else (if ql s < 16 then ql s else 16))
theorem sd_n_le (ql wo : Nat → Nat) (s : Nat) : sd_n ql wo s ≤ ql s ∧ sd_n ql wo s ≤ 16 ∧ sd_n ql wo s ≤ wo s ∧ sd_n ql wo s ≤ wo 0 := by
  unfold sd_n
  split <;> split <;> split <;> omega
/-- whether it is the last -/
def sd_l (fi : Nat → Int32) (ql wo : Nat → Nat) (s : Nat) : Nat := if fi s = 0 then 0 else if sd_n ql wo s = ql s then 1 else 0
def sd_Q (Q : Nat → Nat) (s n k : Nat) : Nat → Nat := fun j => if 500 * s ≤ j ∧ j < 500 * s + (k - n) then Q (j + n) else Q j
theorem sd_Q_0 (Q : Nat → Nat) (s n : Nat) : sd_Q Q s n n = Q := by
  funext j
  unfold sd_Q
  rw [if_neg (by omega)]
theorem sd_Q_s {Q : Nat → Nat} {s n k : Nat} (h : n ≤ k) : pm_u (sd_Q Q s n k) (500 * s + k - n) (sd_Q Q s n k (500 * s + k)) = sd_Q Q s n (k + 1) := by
  funext j
  unfold pm_u sd_Q
  rw [if_neg (show ¬ (500 * s ≤ 500 * s + k ∧ 500 * s + k < 500 * s + (k - n)) by omega)]
  by_cases g : j = 500 * s + k - n
  · rw [if_pos g, if_pos (by omega)]
    exact congrArg Q (by omega)
  · rw [if_neg g]
    by_cases g2 : 500 * s ≤ j ∧ j < 500 * s + (k - n)
    · rw [if_pos g2, if_pos (by omega)]
    · rw [if_neg g2, if_neg (by omega)]
def sd_ql (ql : Nat → Nat) (s n : Nat) : Nat → Nat := pm_u ql s (ql s - n)
def sd_wo (wo : Nat → Nat) (s n : Nat) : Nat → Nat := pm_u (pm_u wo s (wo s - n)) 0 (pm_u wo s (wo s - n) 0 - n)
def sd_bs (Q : Nat → Nat) (s k : Nat) : List Nat := (List.range k).map (fun i => Q (500 * s + i))
theorem sd_bs_s (Q : Nat → Nat) (s k : Nat) : sd_bs Q s (k + 1) = sd_bs Q s k ++ [Q (500 * s + k)] := by
  unfold sd_bs
  rw [List.range_succ, List.map_append]; rfl
def sd_we (we : Nat → Int32) (s l : Nat) : Nat → Int32 := if l = 0 then we else upd we s 1
def sd_li (life th : Nat → Int32) (s l : Nat) : Nat → Int32 := if l = 0 ∨ th s = 0 then life else upd life s 2
variable {f_frameAt f_frameLength f_frameSort f_frameFlags f_frameStream f_down f_entryCount f_most f_typeSeen f_lastSender f_sentLength : Int32} {a_payload a_life a_theyEnded a_weEnded a_finishing a_codes a_windowIn a_windowOut a_headers a_headerCount a_entries a_kinds a_repeats a_messageCount a_text a_nodeCount a_nodeTypes a_valueCount a_valueOwners a_values a_skippedCount a_reader a_chainNode a_chainEnd a_queue a_queueLength a_sent a_nodeSize a_nodePlace : Nat → Int32} {yf_down yf_heads yf_paid yf_payload yf_wants yf_name yf_first yf_counts yf_enters yf_most yf_many yf_sent yf_last yf_nodes yf_values yf_skipped yf_pos yf_there yf_number yf_at : Int32} {ya_kind ya_repeated ya_how ya_code ya_coming ya_going ya_type ya_headers ya_header ya_queued ya_otherEnded ya_ended ya_finishing ya_queue ya_prefix ya_length ya_got ya_high ya_whole ya_has ya_bytes ya_frame ya_payloads ya_table ya_out ya_nodeType ya_valueNode ya_valueNumber ya_value ya_from ya_limit ya_inside ya_sizes : Nat → Int32} {s n l : Nat} {z : (Nat → Nat) × Nat} {Q ql wo : Nat → Nat}
theorem sd_i5 {k : Nat} (hs : s < 8) (hk : k < 500) : nI s * 500 + nI k = nI (500 * s + k) ∧ 500 * nI s + nI k = nI (500 * s + k) ∧ vp_in (nI (500 * s + k)) 4000 ∧ (nI (500 * s + k)).toNatClampNeg = 500 * s + k := by
  refine ⟨?_, ?_, vp_in_nI (by omega) (by omega), nI_clamp (by omega)⟩
  · rw [show (500 : Int32) = nI 500 from rfl, pk_mul, nI_add, Nat.mul_comm]
  · rw [show (500 : Int32) = nI 500 from rfl, pk_mul, nI_add]
theorem sd_wo_e (hs : 0 < s) (hn : n ≤ wo s) (hn0 : n ≤ wo 0) :
    upd (upd (an_f wo) s (an_f wo s - nI n)) 0 (upd (an_f wo) s (an_f wo s - nI n) 0 - nI n) = an_f (sd_wo wo s n) := by
  rw [an_fa, pk_sub hn, an_fu, an_fa]
  have e : pm_u wo s (wo s - n) 0 = wo 0 := pm_un (by omega)
  rw [e, pk_sub hn0]
  show upd (an_f (pm_u wo s (wo s - n))) 0 (nI (wo 0 - n)) = _
  rw [an_fu]
  unfold sd_wo
  rw [e]
theorem xo_sd153 (hs0 : 0 < s) (hs : s < 8) (hq : ql s ≤ 500) (hn : n ≤ ql s) (hw : n ≤ wo s) (hw0 : n ≤ wo 0) (hl : l ≤ 1) {post : SX → Prop}
    (H : post (f_frameAt, f_frameLength, f_frameSort, f_frameFlags, f_frameStream, f_down, f_entryCount, f_most, f_typeSeen, nI s, f_sentLength, a_payload, sd_li a_life a_theyEnded s l, a_theyEnded, sd_we a_weEnded s l, a_finishing, a_codes, a_windowIn, an_f (sd_wo wo s n), a_headers, a_headerCount, a_entries, a_kinds, a_repeats, a_messageCount, a_text, a_nodeCount, a_nodeTypes, a_valueCount, a_valueOwners, a_values, a_skippedCount, a_reader, a_chainNode, a_chainEnd, an_f (sd_Q Q s n (ql s)), an_f (sd_ql ql s n), a_sent, a_nodeSize, a_nodePlace)) : ∀ r k, k + r = ql s → n ≤ k →
    wX_sendData_153 post (nI s) (nI n) (nI l) f_frameAt f_frameLength f_frameSort f_frameFlags f_frameStream f_down f_entryCount f_most f_typeSeen f_lastSender f_sentLength (r + 1) (nI k) a_payload a_life a_theyEnded a_weEnded a_finishing a_codes a_windowIn (an_f wo) a_headers a_headerCount a_entries a_kinds a_repeats a_messageCount a_text a_nodeCount a_nodeTypes a_valueCount a_valueOwners a_values a_skippedCount a_reader a_chainNode a_chainEnd (an_f (sd_Q Q s n k)) (an_f ql) a_sent a_nodeSize a_nodePlace
  | 0, k, hk, hnk => by
    rw [wX_sendData_153]
    obtain ⟨g1, g2⟩ := xr_c8 hs
    rw [g2]
    have hk' : k = ql s := by omega
    subst hk'
    refine ⟨g1, ?_⟩
    refine pk_le (ql s) (ql s) (fun _ => ?_) (fun g => absurd g (by omega)) rfl rfl (by omega) (by omega)
    refine ⟨g1, g1, nm_r (by rw [an_fa, pk_sub hn, an_fu]) ⟨g1, g1, nm_e (nm_r (sd_wo_e hs0 hw hw0) ?_)⟩⟩
    refine pk_eq l 0 (fun g => ?_) (fun g => ?_)
    · unfold sd_li sd_we at H
      rw [if_pos (Or.inl g), if_pos g] at H
      exact H
    · refine ⟨g1, nm_r (e' := upd a_weEnded s 1) rfl ⟨g1, br_c (fun y => ?_) (fun y => ⟨g1, nm_e ?_⟩)⟩⟩
      · unfold sd_li sd_we at H
        rw [if_pos (Or.inr y), if_neg g] at H
        exact H
      · unfold sd_li sd_we at H
        rw [if_neg (fun w => by rcases w with w | w; exact g w; exact y w), if_neg g] at H
        exact H
  | r + 1, k, hk, hnk => by
    rw [wX_sendData_153]
    obtain ⟨g1, g2⟩ := xr_c8 hs
    rw [g2]
    obtain ⟨i1, i2, i3, i4⟩ := sd_i5 (s := s) (k := k) hs (by omega)
    obtain ⟨j1, j2, j3, j4⟩ := sd_i5 (s := s) (k := k - n) hs (by omega)
    refine ⟨g1, ?_⟩
    refine pk_le (ql s) k (fun g => absurd g (by omega)) (fun g => ?_) rfl rfl (by omega) (by omega)
    rw [i1]
    have e : nI (500 * s + k) - nI n = nI (500 * s + (k - n)) := by
      rw [pk_sub (by omega)]; exact congrArg nI (by omega)
    rw [e, i4, j4]
    refine ⟨i3, j3, nm_r (e' := an_f (sd_Q Q s n (k + 1))) ?_ (nm_r (nI_1 _) (xo_sd153 hs0 hs hq hn hw hw0 hl H r (k + 1) (by omega) (by omega)))⟩
    rw [an_fa, an_fu, ← sd_Q_s hnk]
    exact congrArg (fun i => an_f (pm_u (sd_Q Q s n k) i (sd_Q Q s n k (500 * s + k)))) (by omega)
theorem yo_sd133 (hs0 : 0 < s) (hs : s < 8) (hq : ql s ≤ 500) (hn : n ≤ ql s) (hw : n ≤ wo s) (hw0 : n ≤ wo 0) (hl : l ≤ 1)
    (hco : l = 1 → ya_otherEnded s ≠ 0 → ya_code s = 0 ∧ n = ql s) {post : SY → Prop}
    (H : post (yf_down, yf_heads, yf_paid, yf_payload, yf_wants, yf_name, yf_first, yf_counts, yf_enters, yf_most, yf_many, yf_sent, yf_last, yf_nodes, yf_values, yf_skipped, yf_pos, yf_there, yf_number, yf_at, ya_kind, ya_repeated, sd_li ya_how ya_otherEnded s l, ya_code, ya_coming, an_f (sd_wo wo s n), ya_type, ya_headers, ya_header, an_f (sd_ql ql s n), ya_otherEnded, sd_we ya_ended s l, ya_finishing, an_g (sd_Q Q s n (ql s)), ya_prefix, ya_length, ya_got, ya_high, ya_whole, ya_has, ya_bytes, ya_frame, ya_payloads, ya_table, ya_out, ya_nodeType, ya_valueNode, ya_valueNumber, ya_value, ya_from, ya_limit, ya_inside, ya_sizes)) : ∀ r k, k + r = ql s → n ≤ k →
    wY_send_133 post (nI s) (nI n) (nI l) yf_down yf_heads yf_paid yf_payload yf_wants yf_name yf_first yf_counts yf_enters yf_most yf_many yf_sent yf_last yf_nodes yf_values yf_skipped yf_pos yf_there yf_number yf_at (r + 1) (nI k) ya_kind ya_repeated ya_how ya_code ya_coming (an_f wo) ya_type ya_headers ya_header (an_f ql) ya_otherEnded ya_ended ya_finishing (an_g (sd_Q Q s n k)) ya_prefix ya_length ya_got ya_high ya_whole ya_has ya_bytes ya_frame ya_payloads ya_table ya_out ya_nodeType ya_valueNode ya_valueNumber ya_value ya_from ya_limit ya_inside ya_sizes
  | 0, k, hk, hnk => by
    rw [wY_send_133]
    obtain ⟨g1, g2⟩ := xr_c8 hs
    rw [g2]
    have hk' : k = ql s := by omega
    subst hk'
    refine ⟨g1, ?_⟩
    refine pk_le (ql s) (ql s) (fun _ => ?_) (fun g => absurd g (by omega)) rfl rfl (by omega) (by omega)
    refine ⟨g1, g1, nm_r (by rw [an_fa, pk_sub hn, an_fu]) ⟨g1, g1, nm_e (nm_r (sd_wo_e hs0 hw hw0) ?_)⟩⟩
    refine pk_eq l 0 (fun g => ?_) (fun g => ?_)
    · unfold sd_li sd_we at H
      rw [if_pos (Or.inl g), if_pos g] at H
      exact H
    · refine ⟨g1, nm_r (e' := upd ya_ended s 1) rfl ⟨g1, br_c (fun y => ?_) (fun y => ?_)⟩⟩
      · unfold sd_li sd_we at H
        rw [if_pos (Or.inr y), if_neg g] at H
        exact H
      · unfold sd_li sd_we at H
        rw [if_neg (fun w => by rcases w with w | w; exact g w; exact y w), if_neg g] at H
        obtain ⟨c1, c2⟩ := hco (by omega) y
        refine yo_shut hs ?_
        rw [xr_ui c1, xr_ui (show an_f (pm_u ql s (ql s - n)) s = 0 by rw [an_fa, pm_us, c2, Nat.sub_self]; rfl)]
        exact H
  | r + 1, k, hk, hnk => by
    rw [wY_send_133]
    obtain ⟨g1, g2⟩ := xr_c8 hs
    rw [g2]
    obtain ⟨i1, i2, i3, i4⟩ := sd_i5 (s := s) (k := k) hs (by omega)
    obtain ⟨j1, j2, j3, j4⟩ := sd_i5 (s := s) (k := k - n) hs (by omega)
    refine ⟨g1, ?_⟩
    refine pk_le (ql s) k (fun g => absurd g (by omega)) (fun g => ?_) rfl rfl (by omega) (by omega)
    rw [i2]
    have e : nI (500 * s + k) - nI n = nI (500 * s + (k - n)) := by
      rw [pk_sub (by omega)]; exact congrArg nI (by omega)
    rw [e, i4, j4]
    refine ⟨i3, j3, nm_r (e' := an_g (sd_Q Q s n (k + 1))) ?_ (nm_r (nI_1 _) (yo_sd133 hs0 hs hq hn hw hw0 hl hco H r (k + 1) (by omega) (by omega)))⟩
    rw [an_ga, an_b2, an_gu, ← sd_Q_s hnk]
    exact congrArg (fun i => an_g (pm_u (sd_Q Q s n k) i (sd_Q Q s n k (500 * s + k)))) (by omega)
end
