/-! S3: what closeEnds does -/
section
variable {f_frameAt f_frameLength f_frameSort f_frameFlags f_frameStream f_down f_entryCount f_most f_typeSeen f_lastSender f_sentLength : Int32} {a_payload a_life a_theyEnded a_weEnded a_finishing a_codes a_windowIn a_windowOut a_headers a_headerCount a_entries a_kinds a_repeats a_messageCount a_text a_nodeCount a_nodeTypes a_valueCount a_valueOwners a_values a_skippedCount a_reader a_chainNode a_chainEnd a_queue a_queueLength a_sent a_nodeSize a_nodePlace : Nat → Int32} {s t : Nat} {K : Nat → Nat} {R : Nat → Bool} {L : Nat} {dep : Nat → Nat} {c : pm_C}
theorem xw_mid {x3 x5 : Int32} {post : Int32 → SX → Prop} (hs : s < 8) (I : pm_CI K R L dep c) (hL : L ≤ 200)
    (h2 : a_reader (11 * s + 2) = nI t) (h3 : a_reader (11 * s + 3) = x3) (h5 : a_reader (11 * s + 5) = x5) (hne : ¬ (x3 = 0 ∧ x5 = 0)) (h8 : a_reader (11 * s + 8) = nI (pm_row c)) (h10 : a_reader (11 * s + 10) = nI (pm_at c))
    (hce : a_chainEnd (4 * s + pm_at c) = nI (pm_lim c (pm_at c))) (hr5 : pm_row c ≠ 0 → x5 ≠ 0) (ht : t ≤ pm_end c)
    (H0 : t < pm_end c → post 0 (f_frameAt, f_frameLength, f_frameSort, f_frameFlags, f_frameStream, f_down, f_entryCount, f_most, f_typeSeen, f_lastSender, f_sentLength, a_payload, a_life, a_theyEnded, a_weEnded, a_finishing, a_codes, a_windowIn, a_windowOut, a_headers, a_headerCount, a_entries, a_kinds, a_repeats, a_messageCount, a_text, a_nodeCount, a_nodeTypes, a_valueCount, a_valueOwners, a_values, a_skippedCount, a_reader, a_chainNode, a_chainEnd, a_queue, a_queueLength, a_sent, a_nodeSize, a_nodePlace)) (H14 : t = pm_end c → post 14 (f_frameAt, f_frameLength, f_frameSort, f_frameFlags, f_frameStream, f_down, f_entryCount, f_most, f_typeSeen, f_lastSender, f_sentLength, a_payload, a_life, a_theyEnded, a_weEnded, a_finishing, a_codes, a_windowIn, a_windowOut, a_headers, a_headerCount, a_entries, a_kinds, a_repeats, a_messageCount, a_text, a_nodeCount, a_nodeTypes, a_valueCount, a_valueOwners, a_values, a_skippedCount, a_reader, a_chainNode, a_chainEnd, a_queue, a_queueLength, a_sent, a_nodeSize, a_nodePlace)) : wpX_closeEnds post (f_frameAt, f_frameLength, f_frameSort, f_frameFlags, f_frameStream, f_down, f_entryCount, f_most, f_typeSeen, f_lastSender, f_sentLength, a_payload, a_life, a_theyEnded, a_weEnded, a_finishing, a_codes, a_windowIn, a_windowOut, a_headers, a_headerCount, a_entries, a_kinds, a_repeats, a_messageCount, a_text, a_nodeCount, a_nodeTypes, a_valueCount, a_valueOwners, a_values, a_skippedCount, a_reader, a_chainNode, a_chainEnd, a_queue, a_queueLength, a_sent, a_nodeSize, a_nodePlace) (nI s) := by
  have h3' := I.2.1
  have hll := pm_lim_le I (pm_at c) (Nat.le_refl _)
  have hel := pm_end_le I
  have i2 := xr_ix (s := s) (k := 2) hs (by omega)
  have i5 := xr_ix (s := s) (k := 5) hs (by omega)
  have i8 := xr_ix (s := s) (k := 8) hs (by omega)
  have e2 : a_reader (nI (11 * s) + 2).toNatClampNeg = nI t := (congrArg a_reader i2.2.2).trans h2
  have e5 : a_reader (nI (11 * s) + 5).toNatClampNeg = x5 := (congrArg a_reader i5.2.2).trans h5
  have e8 : a_reader (nI (11 * s) + 8).toNatClampNeg = nI (pm_row c) := (congrArg a_reader i8.2.2).trans h8
  unfold wpX_closeEnds
  dsimp only
  refine nm_r i2.1 ⟨i8.2.1, ?_⟩
  rw [e8, e2, e5]
  by_cases hr : pm_row c = 0
  · have he : pm_end c = pm_lim c (pm_at c) := by unfold pm_end; exact if_pos hr
    rw [hr]
    refine br_t rfl ⟨1, ?_⟩
    exact xw_clS (k := 0) (n := 0) hs (by omega) h3' (by omega) h2 h3 h5 h10 hce (by omega) (fun y => H0 (by omega)) (fun y _ => H14 (by omega)) (fun _ y1 y2 _ => absurd ⟨y1, y2⟩ hne) (fun b _ y1 y2 _ => absurd ⟨y1, y2⟩ hne)
  · have he : pm_end c = pm_row c := by unfold pm_end; exact if_neg hr
    have hrl := (I.2.2.2.2.2.2.2 hr).1
    refine br_f (fun y => ?_) ⟨i2.2.1, i8.2.1, ?_⟩
    · have := (nI_eq (a := pm_row c) (b := 0) (by omega) (by omega)).mp y
      omega
    refine pk_eq t (pm_row c) (fun y => ⟨i5.2.1, br_f (hr5 hr) (H14 (by omega))⟩) (fun y => ⟨1, ?_⟩)
    exact xw_clS (k := 0) (n := 0) hs (by omega) h3' (by omega) h2 h3 h5 h10 hce (by omega) (fun y => H0 (by omega)) (fun y2 _ => absurd y2 (by omega)) (fun _ y1 y2 _ => absurd ⟨y1, y2⟩ hne) (fun b _ y1 y2 _ => absurd ⟨y1, y2⟩ hne)
/-- behind an element -/
theorem xw_cle {post : Int32 → SX → Prop} (hs : s < 8) (I : pm_CI K R L dep c) (hL : L ≤ 200) (hr : pm_row c = 0) (hp : pm_pos c = t)
    (h2 : a_reader (11 * s + 2) = nI t) (h3 : a_reader (11 * s + 3) = 0) (h5 : a_reader (11 * s + 5) = 0) (h10 : a_reader (11 * s + 10) = nI (pm_at c))
    (hch : ∀ i, i ≤ pm_at c → a_chainEnd (4 * s + i) = nI (pm_lim c i))
    (H1 : t ≠ L → post 0 (f_frameAt, f_frameLength, f_frameSort, f_frameFlags, f_frameStream, f_down, f_entryCount, f_most, f_typeSeen, f_lastSender, f_sentLength, a_payload, a_life, a_theyEnded, a_weEnded, a_finishing, a_codes, a_windowIn, a_windowOut, a_headers, a_headerCount, a_entries, a_kinds, a_repeats, a_messageCount, a_text, a_nodeCount, a_nodeTypes, a_valueCount, a_valueOwners, a_values, a_skippedCount, upd a_reader (11 * s + 10) (nI (pm_pop (pm_lim c) t (pm_at c))), a_chainNode, a_chainEnd, a_queue, a_queueLength, a_sent, a_nodeSize, a_nodePlace))
    (H2 : t = L → post 0 (f_frameAt, f_frameLength, f_frameSort, f_frameFlags, f_frameStream, f_down, f_entryCount, f_most, f_typeSeen, f_lastSender, f_sentLength, a_payload, a_life, a_theyEnded, a_weEnded, a_finishing, a_codes, a_windowIn, a_windowOut, a_headers, a_headerCount, a_entries, a_kinds, a_repeats, upd a_messageCount s (a_messageCount s + 1), a_text, a_nodeCount, a_nodeTypes, a_valueCount, a_valueOwners, a_values, a_skippedCount, upd (upd a_reader (11 * s + 10) (nI 0)) (11 * s) 0, a_chainNode, a_chainEnd, a_queue, a_queueLength, a_sent, a_nodeSize, a_nodePlace)) :
    ∃ n, wX_closeEnds_58 post (nI s) (nI (11 * s)) f_frameAt f_frameLength f_frameSort f_frameFlags f_frameStream f_down f_entryCount f_most f_typeSeen f_lastSender f_sentLength n (nI 0) a_payload a_life a_theyEnded a_weEnded a_finishing a_codes a_windowIn a_windowOut a_headers a_headerCount a_entries a_kinds a_repeats a_messageCount a_text a_nodeCount a_nodeTypes a_valueCount a_valueOwners a_values a_skippedCount a_reader a_chainNode a_chainEnd a_queue a_queueLength a_sent a_nodeSize a_nodePlace := by
  have h3' := I.2.1
  have hl0 := I.2.2.2.1
  have hpe := I.2.2.2.2.2.2.1
  have he : pm_end c = pm_lim c (pm_at c) := by unfold pm_end; exact if_pos hr
  have hle := pm_lim_le I
  have hll := hle (pm_at c) (Nat.le_refl _)
  rw [← hl0] at H1 H2
  refine ⟨pm_at c + 1, xw_clE hs (by omega) (by omega) (pm_at c) a_reader 0 (by omega) h2 h3 h5 h10 (fun i hi => ⟨hch i hi, ?_, fun y => I.2.2.2.2.2.1 i y⟩) (by omega) H1 H2⟩
  rw [hl0]; exact hle i hi
theorem xw_el {post : Int32 → SX → Prop} (hs : s < 8) (I : pm_CI K R L dep c) (hL : L ≤ 200) (hr : pm_row c = 0) (hp : pm_pos c = t)
    (h2 : a_reader (11 * s + 2) = nI t) (h3 : a_reader (11 * s + 3) = 0) (h5 : a_reader (11 * s + 5) = 0) (h8 : a_reader (11 * s + 8) = 0) (h10 : a_reader (11 * s + 10) = nI (pm_at c))
    (hch : ∀ i, i ≤ pm_at c → a_chainEnd (4 * s + i) = nI (pm_lim c i))
    (H1 : t ≠ L → post 0 (f_frameAt, f_frameLength, f_frameSort, f_frameFlags, f_frameStream, f_down, f_entryCount, f_most, f_typeSeen, f_lastSender, f_sentLength, a_payload, a_life, a_theyEnded, a_weEnded, a_finishing, a_codes, a_windowIn, a_windowOut, a_headers, a_headerCount, a_entries, a_kinds, a_repeats, a_messageCount, a_text, a_nodeCount, a_nodeTypes, a_valueCount, a_valueOwners, a_values, a_skippedCount, upd a_reader (11 * s + 10) (nI (pm_pop (pm_lim c) t (pm_at c))), a_chainNode, a_chainEnd, a_queue, a_queueLength, a_sent, a_nodeSize, a_nodePlace))
    (H2 : t = L → post 0 (f_frameAt, f_frameLength, f_frameSort, f_frameFlags, f_frameStream, f_down, f_entryCount, f_most, f_typeSeen, f_lastSender, f_sentLength, a_payload, a_life, a_theyEnded, a_weEnded, a_finishing, a_codes, a_windowIn, a_windowOut, a_headers, a_headerCount, a_entries, a_kinds, a_repeats, upd a_messageCount s (a_messageCount s + 1), a_text, a_nodeCount, a_nodeTypes, a_valueCount, a_valueOwners, a_values, a_skippedCount, upd (upd a_reader (11 * s + 10) (nI 0)) (11 * s) 0, a_chainNode, a_chainEnd, a_queue, a_queueLength, a_sent, a_nodeSize, a_nodePlace)) :
    wpX_closeEnds post (f_frameAt, f_frameLength, f_frameSort, f_frameFlags, f_frameStream, f_down, f_entryCount, f_most, f_typeSeen, f_lastSender, f_sentLength, a_payload, a_life, a_theyEnded, a_weEnded, a_finishing, a_codes, a_windowIn, a_windowOut, a_headers, a_headerCount, a_entries, a_kinds, a_repeats, a_messageCount, a_text, a_nodeCount, a_nodeTypes, a_valueCount, a_valueOwners, a_values, a_skippedCount, a_reader, a_chainNode, a_chainEnd, a_queue, a_queueLength, a_sent, a_nodeSize, a_nodePlace) (nI s) := by
  have i8 := xr_ix (s := s) (k := 8) hs (by omega)
  have e8 : a_reader (nI (11 * s) + 8).toNatClampNeg = 0 := (congrArg a_reader i8.2.2).trans h8
  unfold wpX_closeEnds
  dsimp only
  refine nm_r i8.1 ⟨i8.2.1, ?_⟩
  rw [e8]
  exact br_t rfl (xw_cle hs I hL hr hp h2 h3 h5 h10 hch H1 H2)
/-- behind a single of a row -/
theorem xw_rw {f : Nat} {x3 : Int32} {post : Int32 → SX → Prop} (hs : s < 8) (I : pm_CI K R L dep c) (hL : L ≤ 200) (hr : pm_row c ≠ 0) (hp : pm_pos c = t)
    (h2 : a_reader (11 * s + 2) = nI t) (h3 : a_reader (11 * s + 3) = x3) (hx3 : x3 ≠ 0) (h5 : a_reader (11 * s + 5) = 0) (h7 : a_reader (11 * s + 7) = nI f) (hf : 1 ≤ f) (hf' : f < 64) (h8 : a_reader (11 * s + 8) = nI (pm_row c)) (h10 : a_reader (11 * s + 10) = nI (pm_at c))
    (hch : ∀ i, i ≤ pm_at c → a_chainEnd (4 * s + i) = nI (pm_lim c i))
    (H0 : t < pm_row c → post 0 (f_frameAt, f_frameLength, f_frameSort, f_frameFlags, f_frameStream, f_down, f_entryCount, f_most, f_typeSeen, f_lastSender, f_sentLength, a_payload, a_life, a_theyEnded, a_weEnded, a_finishing, a_codes, a_windowIn, a_windowOut, a_headers, a_headerCount, a_entries, a_kinds, a_repeats, a_messageCount, a_text, a_nodeCount, a_nodeTypes, a_valueCount, a_valueOwners, a_values, a_skippedCount, a_reader, a_chainNode, a_chainEnd, a_queue, a_queueLength, a_sent, a_nodeSize, a_nodePlace))
    (H1 : t = pm_row c → t ≠ L → post 0 (f_frameAt, f_frameLength, f_frameSort, f_frameFlags, f_frameStream, f_down, f_entryCount, f_most, f_typeSeen, f_lastSender, f_sentLength, a_payload, a_life, a_theyEnded, a_weEnded, a_finishing, a_codes, a_windowIn, a_windowOut, a_headers, a_headerCount, a_entries, a_kinds, a_repeats, a_messageCount, a_text, a_nodeCount, a_nodeTypes, a_valueCount, a_valueOwners, a_values, a_skippedCount, upd (xr_bE s a_reader) (11 * s + 10) (nI (pm_pop (pm_lim c) t (pm_at c))), a_chainNode, a_chainEnd, a_queue, a_queueLength, a_sent, a_nodeSize, a_nodePlace))
    (H2 : t = pm_row c → t = L → post 0 (f_frameAt, f_frameLength, f_frameSort, f_frameFlags, f_frameStream, f_down, f_entryCount, f_most, f_typeSeen, f_lastSender, f_sentLength, a_payload, a_life, a_theyEnded, a_weEnded, a_finishing, a_codes, a_windowIn, a_windowOut, a_headers, a_headerCount, a_entries, a_kinds, a_repeats, upd a_messageCount s (a_messageCount s + 1), a_text, a_nodeCount, a_nodeTypes, a_valueCount, a_valueOwners, a_values, a_skippedCount, upd (upd (xr_bE s a_reader) (11 * s + 10) (nI 0)) (11 * s) 0, a_chainNode, a_chainEnd, a_queue, a_queueLength, a_sent, a_nodeSize, a_nodePlace)) :
    wpX_closeEnds post (f_frameAt, f_frameLength, f_frameSort, f_frameFlags, f_frameStream, f_down, f_entryCount, f_most, f_typeSeen, f_lastSender, f_sentLength, a_payload, a_life, a_theyEnded, a_weEnded, a_finishing, a_codes, a_windowIn, a_windowOut, a_headers, a_headerCount, a_entries, a_kinds, a_repeats, a_messageCount, a_text, a_nodeCount, a_nodeTypes, a_valueCount, a_valueOwners, a_values, a_skippedCount, a_reader, a_chainNode, a_chainEnd, a_queue, a_queueLength, a_sent, a_nodeSize, a_nodePlace) (nI s) := by
  have h3' := I.2.1
  have hll := pm_lim_le I (pm_at c) (Nat.le_refl _)
  have he : pm_end c = pm_row c := by unfold pm_end; exact if_neg hr
  have hpe := I.2.2.2.2.2.2.1
  have hrl := (I.2.2.2.2.2.2.2 hr).1
  have i2 := xr_ix (s := s) (k := 2) hs (by omega)
  have i5 := xr_ix (s := s) (k := 5) hs (by omega)
  have i8 := xr_ix (s := s) (k := 8) hs (by omega)
  have e2 : a_reader (nI (11 * s) + 2).toNatClampNeg = nI t := (congrArg a_reader i2.2.2).trans h2
  have e5 : a_reader (nI (11 * s) + 5).toNatClampNeg = 0 := (congrArg a_reader i5.2.2).trans h5
  have e8 : a_reader (nI (11 * s) + 8).toNatClampNeg = nI (pm_row c) := (congrArg a_reader i8.2.2).trans h8
  unfold wpX_closeEnds
  dsimp only
  refine nm_r i2.1 ⟨i8.2.1, ?_⟩
  rw [e8, e2, e5]
  refine br_f (fun y => ?_) ⟨i2.2.1, i8.2.1, ?_⟩
  · have := (nI_eq (a := pm_row c) (b := 0) (by omega) (by omega)).mp y
    omega
  refine pk_eq t (pm_row c) (fun y => ⟨i5.2.1, br_t rfl ?_⟩) (fun y => ⟨1, ?_⟩)
  · refine xw_eE (f := f) (t := t) (p := 0) hs h7 hf' h2 (fun z => absurd z (by omega)) ?_
    rw [if_neg (by omega)]
    refine xw_cle (a_reader := xr_bE s a_reader) (c := pm_row0 c) hs (pm_CI_row0 I hr (by omega)) hL rfl hp ?_ ?_ ?_ ?_ hch (H1 y) (H2 y)
    · rw [xr_bE_k, if_neg (by omega), if_neg (by omega)]; exact h2
    · rw [xr_bE_k, if_neg (by omega), if_pos (by omega)]
    · rw [xr_bE_k, if_neg (by omega), if_pos (by omega)]
    · rw [xr_bE_k, if_neg (by omega), if_neg (by omega)]; exact h10
  · exact xw_clS (k := 0) (n := 0) hs (by omega) h3' (by omega) h2 h3 h5 h10 (hch _ (Nat.le_refl _)) (by omega) (fun y => H0 (by omega)) (fun y2 _ => absurd y2 (by omega)) (fun _ y1 _ _ => absurd y1 hx3) (fun b _ y1 _ _ => absurd y1 hx3)
end
