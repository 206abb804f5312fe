/-! X: the beginning -/
section
variable {f_frameAt f_frameLength f_frameSort f_frameFlags f_frameStream f_down f_entryCount f_most f_typeSeen f_lastSender f_sentLength : Int32} {a_payload a_life a_theyEnded a_weEnded a_finishing a_codes a_windowIn a_windowOut a_headers a_headerCount a_entries a_kinds a_repeats a_messageCount a_text a_nodeCount a_nodeTypes a_valueCount a_valueOwners a_values a_skippedCount a_reader a_chainNode a_chainEnd a_queue a_queueLength a_sent a_nodeSize a_nodePlace : Nat → Int32} {yf_down yf_heads yf_paid yf_payload yf_wants yf_name yf_first yf_counts yf_enters yf_most yf_many yf_sent yf_last yf_nodes yf_values yf_skipped yf_pos yf_there yf_number yf_at : Int32} {ya_kind ya_repeated ya_how ya_code ya_coming ya_going ya_type ya_headers ya_header ya_queued ya_otherEnded ya_ended ya_finishing ya_queue ya_prefix ya_length ya_got ya_high ya_whole ya_has ya_bytes ya_frame ya_payloads ya_table ya_out ya_nodeType ya_valueNode ya_valueNumber ya_value ya_from ya_limit ya_inside ya_sizes : Nat → Int32}
def fi_k (i : Nat) : Nat → Int32 := fun j => if j < i then -1 else 0
theorem fi_ks (i : Nat) : upd (fi_k i) i (-1) = fi_k (i + 1) := by
  funext j
  rw [pm_upd_eq]
  unfold fi_k
  by_cases g : j = i
  · rw [if_pos g, if_pos (by omega)]
  · rw [if_neg g]
    by_cases g2 : j < i
    · rw [if_pos g2, if_pos (by omega)]
    · rw [if_neg g2, if_neg (by omega)]
theorem fi_x {post : SX → Prop} (H : post (f_frameAt, f_frameLength, f_frameSort, f_frameFlags, f_frameStream, f_down, f_entryCount, f_most, f_typeSeen, f_lastSender, f_sentLength, a_payload, a_life, a_theyEnded, a_weEnded, a_finishing, a_codes, a_windowIn, a_windowOut, a_headers, a_headerCount, a_entries, fi_k 64, a_repeats, a_messageCount, a_text, a_nodeCount, a_nodeTypes, a_valueCount, a_valueOwners, a_values, a_skippedCount, a_reader, a_chainNode, a_chainEnd, a_queue, a_queueLength, a_sent, a_nodeSize, a_nodePlace)) : ∀ r i, i + r = 64 →
    wX_init_266 post f_frameAt f_frameLength f_frameSort f_frameFlags f_frameStream f_down f_entryCount f_most f_typeSeen f_lastSender f_sentLength (r + 1) (nI i) a_payload a_life a_theyEnded a_weEnded a_finishing a_codes a_windowIn a_windowOut a_headers a_headerCount a_entries (fi_k i) a_repeats a_messageCount a_text a_nodeCount a_nodeTypes a_valueCount a_valueOwners a_values a_skippedCount a_reader a_chainNode a_chainEnd a_queue a_queueLength a_sent a_nodeSize a_nodePlace
  | 0, i, hi => by
    have : i = 64 := by omega
    subst this
    rw [wX_init_266]
    exact br_t (by decide) H
  | r + 1, i, hi => by
    rw [wX_init_266]
    refine pk_le 64 i (fun y => absurd y (by omega)) (fun y => ⟨vp_in_nI y (by omega), nm_r (e' := fi_k (i + 1)) (by rw [nI_clamp (by omega), fi_ks]) (nm_r (nI_1 _) (fi_x H r (i + 1) (by omega)))⟩)
theorem fi_y {post : SY → Prop} (H : post (yf_down, yf_heads, yf_paid, yf_payload, yf_wants, yf_name, yf_first, yf_counts, yf_enters, yf_most, yf_many, yf_sent, yf_last, yf_nodes, yf_values, yf_skipped, yf_pos, yf_there, yf_number, yf_at, fi_k 64, ya_repeated, ya_how, ya_code, upd ya_coming 0 100, upd ya_going 0 100, ya_type, ya_headers, ya_header, ya_queued, ya_otherEnded, ya_ended, ya_finishing, ya_queue, ya_prefix, ya_length, ya_got, ya_high, ya_whole, ya_has, ya_bytes, ya_frame, ya_payloads, ya_table, ya_out, ya_nodeType, ya_valueNode, ya_valueNumber, ya_value, ya_from, ya_limit, ya_inside, ya_sizes)) : ∀ r i, i + r = 64 →
    wY_init_282 post yf_down yf_heads yf_paid yf_payload yf_wants yf_name yf_first yf_counts yf_enters yf_most yf_many yf_sent yf_last yf_nodes yf_values yf_skipped yf_pos yf_there yf_number yf_at (r + 1) (nI i) (fi_k i) ya_repeated ya_how ya_code ya_coming ya_going ya_type ya_headers ya_header ya_queued ya_otherEnded ya_ended ya_finishing ya_queue ya_prefix ya_length ya_got ya_high ya_whole ya_has ya_bytes ya_frame ya_payloads ya_table ya_out ya_nodeType ya_valueNode ya_valueNumber ya_value ya_from ya_limit ya_inside ya_sizes
  | 0, i, hi => by
    have : i = 64 := by omega
    subst this
    rw [wY_init_282]
    exact br_t (by decide) (nm_e (nm_e H))
  | r + 1, i, hi => by
    rw [wY_init_282]
    refine pk_le 64 i (fun y => absurd y (by omega)) (fun y => ⟨vp_in_nI y (by omega), nm_r (e' := fi_k (i + 1)) (by rw [nI_clamp (by omega), fi_ks]) (nm_r (nI_1 _) (fi_y H r (i + 1) (by omega)))⟩)
def fi_w : Nat → Nat := fun j => if j = 0 then 100 else 0
theorem fi_we : upd (fun _ => (0 : Int32)) 0 100 = an_f fi_w := by
  funext j
  show (if j = 0 then (100 : Int32) else 0) = nI (if j = 0 then 100 else 0)
  split <;> rfl
theorem fi_wl (s : Nat) : fi_w s ≤ 255 := by
  unfold fi_w
  split <;> omega
theorem fi_01 : ¬ (0 : Int32) = 1 := by decide
theorem i_vc0 : wpX_init (fun u => wpY_init (fun v => i_Rel 0 u v)) := by
  have h0 : fi_k 0 = fun _ => 0 := by
    funext j; unfold fi_k; rw [if_neg (by omega)]
  unfold wpX_init
  refine nm_r fi_we (nm_r fi_we ⟨65, ?_⟩)
  have := fi_x (post := fun u => wpY_init (fun v => i_Rel 0 u v)) (f_frameAt := 0) (f_frameLength := 0) (f_frameSort := 0) (f_frameFlags := 0) (f_frameStream := 0) (f_down := 0) (f_entryCount := 0) (f_most := 16) (f_typeSeen := 0) (f_lastSender := 0) (f_sentLength := 0)
    (a_payload := fun _ => 0) (a_life := fun _ => 0) (a_theyEnded := fun _ => 0) (a_weEnded := fun _ => 0) (a_finishing := fun _ => 0) (a_codes := fun _ => 0) (a_windowIn := an_f fi_w) (a_windowOut := an_f fi_w) (a_headers := fun _ => 0) (a_headerCount := fun _ => 0) (a_entries := fun _ => 0) (a_repeats := fun _ => 0) (a_messageCount := fun _ => 0) (a_text := fun _ => 0) (a_nodeCount := fun _ => 0) (a_nodeTypes := fun _ => 0) (a_valueCount := fun _ => 0) (a_valueOwners := fun _ => 0) (a_values := fun _ => 0) (a_skippedCount := fun _ => 0) (a_reader := fun _ => 0) (a_chainNode := fun _ => 0) (a_chainEnd := fun _ => 0) (a_queue := fun _ => 0) (a_queueLength := fun _ => 0) (a_sent := fun _ => 0) (a_nodeSize := fun _ => 0) (a_nodePlace := fun _ => 0) ?_ 64 0 rfl
  · rw [h0] at this; exact this
  unfold wpY_init
  refine ⟨65, ?_⟩
  have := fi_y (post := fun v => i_Rel 0 (0, 0, 0, 0, 0, 0, 0, 16, 0, 0, 0, (fun _ => 0), (fun _ => 0), (fun _ => 0), (fun _ => 0), (fun _ => 0), (fun _ => 0), an_f fi_w, an_f fi_w, (fun _ => 0), (fun _ => 0), (fun _ => 0), fi_k 64, (fun _ => 0), (fun _ => 0), (fun _ => 0), (fun _ => 0), (fun _ => 0), (fun _ => 0), (fun _ => 0), (fun _ => 0), (fun _ => 0), (fun _ => 0), (fun _ => 0), (fun _ => 0), (fun _ => 0), (fun _ => 0), (fun _ => 0), (fun _ => 0), (fun _ => 0)) v)
    (yf_down := 0) (yf_heads := 0) (yf_paid := 0) (yf_payload := 0) (yf_wants := 0) (yf_name := 0) (yf_first := 0) (yf_counts := 0) (yf_enters := 0) (yf_most := 16) (yf_many := 0) (yf_sent := 0) (yf_last := 7) (yf_nodes := 0) (yf_values := 0) (yf_skipped := 0) (yf_pos := 0) (yf_there := 0) (yf_number := 0) (yf_at := 0)
    (ya_repeated := fun _ => 0) (ya_how := fun _ => 0) (ya_code := fun _ => 0) (ya_coming := fun _ => 0) (ya_going := fun _ => 0) (ya_type := fun _ => 0) (ya_headers := fun _ => 0) (ya_header := fun _ => 0) (ya_queued := fun _ => 0) (ya_otherEnded := fun _ => 0) (ya_ended := fun _ => 0) (ya_finishing := fun _ => 0) (ya_queue := fun _ => 0) (ya_prefix := fun _ => 0) (ya_length := fun _ => 0) (ya_got := fun _ => 0) (ya_high := fun _ => 0) (ya_whole := fun _ => 0) (ya_has := fun _ => 0) (ya_bytes := fun _ => 0) (ya_frame := fun _ => 0) (ya_payloads := fun _ => 0) (ya_table := fun _ => 0) (ya_out := fun _ => 0) (ya_nodeType := fun _ => 0) (ya_valueNode := fun _ => 0) (ya_valueNumber := fun _ => 0) (ya_value := fun _ => 0) (ya_from := fun _ => 0) (ya_limit := fun _ => 0) (ya_inside := fun _ => 0) (ya_sizes := fun _ => 0) ?_ 64 0 rfl
  · rw [h0] at this; exact this
  rw [fi_we]
  refine ⟨((fun _ => 0, fun _ => false, (fun _ => 0, 0)), (0, 0, 0, 0, 0, 0, 0, 0, 16, 0), (fi_w, fi_w, fun _ => 0, fun _ => 0, fun _ => 0, fun _ => 0), (0, 0, 0, 0, 0, 0, 0, 0, 0, 0, 0, 0, 0, 0, 0),
    (fun _ => 0, fun _ => 0, fun _ => 0, fun _ => 0, fun _ => 0, fun _ => 0, fun _ => 0, fun _ => 0, fi_k 64, fun _ => 0, fun _ => 0), (fun _ => 0, fun _ => 0, fun _ => 0, fun _ => 0, fun _ => 0, fun _ => 0, fun _ => 0, fun _ => 0, fun _ => 0, fun _ => 0, fun _ => 0),
    (fun _ => 0, fun _ => 0, fun _ => 0, fun _ => 0, fun _ => 0, fun _ => 0, fun _ => 0, fun _ => 0, fun _ => 0), (fun _ => 0, fun _ => 0, fun _ => 0, fun _ => 0, fun _ => 0, fun _ => 0, fun _ => 0, fun _ => 0, fun _ => 0)), rfl, rfl, Or.inl rfl, Nat.zero_le _, fun s _ => Nat.zero_le _, ⟨Nat.zero_le _, fun j => by show 0 < 256; omega⟩, fun j => by show 0 < 256; omega, fun j => by show 0 < 256; omega, ?_, ?_, ?_, ?_, ?_, ?_⟩
  · exact ⟨rfl, fun s hs => ⟨Or.inl rfl, Or.inl rfl, Or.inl rfl, Or.inl rfl, fi_wl s, fi_wl s, Nat.zero_le _, fun _ => rfl, fun _ _ => rfl, fun w => absurd w fi_01⟩⟩
  · exact fun _ s _ _ w => absurd w.1 fi_01
  · exact ⟨Nat.zero_le _, Nat.le_refl _, fun j hj => absurd hj (Nat.not_lt_zero _)⟩
  · exact ⟨fun _ => Nat.zero_le _, fun j hj => by show (if j < 64 then (-1 : Int32) else 0) = nI 0 + (-1); rw [if_pos hj]; decide, fun j _ => rfl⟩
  · exact fun _ => ⟨by omega, by omega, by omega, by omega, rfl, rfl, rfl, rfl, Or.inl ⟨by omega, rfl⟩⟩
  · exact fun s _ _ => ⟨0, 0, 0, by omega, rfl, rfl, by omega, rfl, by omega, rfl, fun _ => ⟨rfl, rfl⟩, fun w => absurd w (by omega), fun w => w.elim (fun x => absurd x fi_01) (fun x => absurd x fi_01), fun w => absurd w fi_01, fun w => absurd w (by omega)⟩
end
