/-! R: numbers that end -/
section
variable {f_frameAt f_frameLength f_frameSort f_frameFlags f_frameStream f_down f_entryCount f_most f_typeSeen f_lastSender f_sentLength : Int32} {a_payload a_life a_theyEnded a_weEnded a_finishing a_codes a_windowIn a_windowOut a_headers a_headerCount a_entries a_kinds a_repeats a_messageCount a_text a_nodeCount a_nodeTypes a_valueCount a_valueOwners a_values a_skippedCount a_reader a_chainNode a_chainEnd a_queue a_queueLength a_sent a_nodeSize a_nodePlace : Nat → Int32} {s : Nat} {K : Nat → Nat} {R : Nat → Bool} {L : Nat} {dep : Nat → Nat} {c : pm_C}
theorem xw_num {f t : Nat} {x : Int32} {post : Int32 → SX → Prop} (hs : s < 8) (I : pm_CI K R L dep c) (hK : cr_K a_kinds a_repeats K R) (hD : cr_XD K s a_nodeCount a_nodeTypes a_valueCount a_valueOwners a_values (pm_d c)) (hL : L ≤ 200)
    (h2 : a_reader (11 * s + 2) = nI t) (h4 : a_reader (11 * s + 4) = x) (h7 : a_reader (11 * s + 7) = nI (if f = 0 then 0 else pm_fj c f)) (h8 : a_reader (11 * s + 8) = nI (pm_row c))
    (h9 : f = 0 → pm_row c = 0 ∧ a_reader (11 * s + 9) = nI (pm_pos c) ∧ pm_pos c ≤ t) (h10 : a_reader (11 * s + 10) = nI (pm_at c)) (hcn : a_chainNode (4 * s + pm_at c) = nI (pm_nd c))
    (hf : f ≠ 0 → f ≤ 15 ∧ 1 ≤ K (pm_fj c f) ∧ K (pm_fj c f) ≤ 3)
    (H0 : f = 0 → post 0 (f_frameAt, f_frameLength, f_frameSort, f_frameFlags, f_frameStream, f_down, f_entryCount, f_most, f_typeSeen, f_lastSender, f_sentLength, a_payload, a_life, a_theyEnded, a_weEnded, a_finishing, a_codes, a_windowIn, a_windowOut, a_headers, a_headerCount, a_entries, a_kinds, a_repeats, a_messageCount, a_text, a_nodeCount, a_nodeTypes, a_valueCount, a_valueOwners, a_values, upd a_skippedCount s (a_skippedCount s + nI (t - pm_pos c)), xr_bE s a_reader, a_chainNode, a_chainEnd, a_queue, a_queueLength, a_sent, a_nodeSize, a_nodePlace))
    (H5 : f ≠ 0 → pm_pl R (pm_d c) (pm_nd c) f = 48 → post 15 (f_frameAt, f_frameLength, f_frameSort, f_frameFlags, f_frameStream, f_down, f_entryCount, f_most, f_typeSeen, f_lastSender, f_sentLength, a_payload, a_life, a_theyEnded, a_weEnded, a_finishing, a_codes, a_windowIn, a_windowOut, a_headers, a_headerCount, a_entries, a_kinds, a_repeats, a_messageCount, a_text, a_nodeCount, a_nodeTypes, a_valueCount, a_valueOwners, a_values, a_skippedCount, if pm_row c = 0 then xr_bE s a_reader else xr_bN s (a_reader (11 * s + 3)) a_reader, a_chainNode, a_chainEnd, a_queue, a_queueLength, a_sent, a_nodeSize, a_nodePlace))
    (H1 : ∀ vc vo va, f ≠ 0 → pm_pl R (pm_d c) (pm_nd c) f ≠ 48 → cr_XD K s a_nodeCount a_nodeTypes vc vo va (pm_kp R (pm_d c) (pm_nd c) f (pm_val K (pm_fj c f) x) 0) → xr_O 1 s a_valueCount vc → xr_O 48 s a_valueOwners vo → xr_O 48 s a_values va →
      post 0 (f_frameAt, f_frameLength, f_frameSort, f_frameFlags, f_frameStream, f_down, f_entryCount, f_most, f_typeSeen, f_lastSender, f_sentLength, a_payload, a_life, a_theyEnded, a_weEnded, a_finishing, a_codes, a_windowIn, a_windowOut, a_headers, a_headerCount, a_entries, a_kinds, a_repeats, a_messageCount, a_text, a_nodeCount, a_nodeTypes, vc, vo, va, a_skippedCount, if pm_row c = 0 then xr_bE s a_reader else xr_bN s (a_reader (11 * s + 3)) a_reader, a_chainNode, a_chainEnd, a_queue, a_queueLength, a_sent, a_nodeSize, a_nodePlace)) :
    wpX_endNumber post (f_frameAt, f_frameLength, f_frameSort, f_frameFlags, f_frameStream, f_down, f_entryCount, f_most, f_typeSeen, f_lastSender, f_sentLength, a_payload, a_life, a_theyEnded, a_weEnded, a_finishing, a_codes, a_windowIn, a_windowOut, a_headers, a_headerCount, a_entries, a_kinds, a_repeats, a_messageCount, a_text, a_nodeCount, a_nodeTypes, a_valueCount, a_valueOwners, a_values, a_skippedCount, a_reader, a_chainNode, a_chainEnd, a_queue, a_queueLength, a_sent, a_nodeSize, a_nodePlace) (nI s) := by
  have h3 := I.2.1
  have hin := I.2.2.2.2.1 (pm_at c) (Nat.le_refl _)
  have hnd : pm_nd c < pm_nn (pm_d c) := hin.1
  have hnn := I.1.2.1
  have hty := (I.1.2.2.2.2.1 _ hnd).1
  have hrow : pm_row c ≤ 200 := by
    have h1 := pm_lim_le I (pm_at c) (Nat.le_refl _)
    by_cases y : pm_row c = 0
    · omega
    · have := (I.2.2.2.2.2.2.2 y).1
      omega
  have i3 := xr_ix (s := s) (k := 3) hs (by omega)
  have i4 := xr_ix (s := s) (k := 4) hs (by omega)
  have i7 := xr_ix (s := s) (k := 7) hs (by omega)
  have i8 := xr_ix (s := s) (k := 8) hs (by omega)
  have e3 : a_reader (nI (11 * s) + 3).toNatClampNeg = a_reader (11 * s + 3) := congrArg a_reader i3.2.2
  have e4 : a_reader (nI (11 * s) + 4).toNatClampNeg = x := (congrArg a_reader i4.2.2).trans h4
  have e7 : a_reader (nI (11 * s) + 7).toNatClampNeg = nI (if f = 0 then 0 else pm_fj c f) := (congrArg a_reader i7.2.2).trans h7
  have e8 : a_reader (nI (11 * s) + 8).toNatClampNeg = nI (pm_row c) := (congrArg a_reader i8.2.2).trans h8
  have hj : f ≠ 0 → 1 ≤ pm_fj c f ∧ pm_fj c f < 64 := by
    intro y
    have := (hf y).1
    show 1 ≤ 16 * pm_nt (pm_d c) (pm_nd c) + f ∧ 16 * pm_nt (pm_d c) (pm_nd c) + f < 64
    omega
  -- the end, with what was kept
  have h78 : ∀ (vc vo va : Nat → Int32) (y : Int32), f ≠ 0 → post y (f_frameAt, f_frameLength, f_frameSort, f_frameFlags, f_frameStream, f_down, f_entryCount, f_most, f_typeSeen, f_lastSender, f_sentLength, a_payload, a_life, a_theyEnded, a_weEnded, a_finishing, a_codes, a_windowIn, a_windowOut, a_headers, a_headerCount, a_entries, a_kinds, a_repeats, a_messageCount, a_text, a_nodeCount, a_nodeTypes, vc, vo, va, a_skippedCount, if pm_row c = 0 then xr_bE s a_reader else xr_bN s (a_reader (11 * s + 3)) a_reader, a_chainNode, a_chainEnd, a_queue, a_queueLength, a_sent, a_nodeSize, a_nodePlace) →
      wX_endNumber_78 post (nI s) (nI (11 * s)) y f_frameAt f_frameLength f_frameSort f_frameFlags f_frameStream f_down f_entryCount f_most f_typeSeen f_lastSender f_sentLength a_payload a_life a_theyEnded a_weEnded a_finishing a_codes a_windowIn a_windowOut a_headers a_headerCount a_entries a_kinds a_repeats a_messageCount a_text a_nodeCount a_nodeTypes (vc) (vo) (va) a_skippedCount a_reader a_chainNode a_chainEnd a_queue a_queueLength a_sent a_nodeSize a_nodePlace := by
    intro vc vo va y hf0 H
    unfold wX_endNumber_78
    rw [e8, e3]
    refine ⟨i8.2.1, pk_eq (pm_row c) 0 (fun w => ?_) (fun w => ⟨i3.2.1, ?_⟩)⟩
    · rw [if_pos w] at H
      have := xw_eE (a_valueCount := vc) (a_valueOwners := vo) (a_values := va) (f := pm_fj c f) (t := t) (p := 0) (post := fun u => match u with | (f_frameAt, f_frameLength, f_frameSort, f_frameFlags, f_frameStream, f_down, f_entryCount, f_most, f_typeSeen, f_lastSender, f_sentLength, a_payload, a_life, a_theyEnded, a_weEnded, a_finishing, a_codes, a_windowIn, a_windowOut, a_headers, a_headerCount, a_entries, a_kinds, a_repeats, a_messageCount, a_text, a_nodeCount, a_nodeTypes, a_valueCount, a_valueOwners, a_values, a_skippedCount, a_reader, a_chainNode, a_chainEnd, a_queue, a_queueLength, a_sent, a_nodeSize, a_nodePlace) => post y (f_frameAt, f_frameLength, f_frameSort, f_frameFlags, f_frameStream, f_down, f_entryCount, f_most, f_typeSeen, f_lastSender, f_sentLength, a_payload, a_life, a_theyEnded, a_weEnded, a_finishing, a_codes, a_windowIn, a_windowOut, a_headers, a_headerCount, a_entries, a_kinds, a_repeats, a_messageCount, a_text, a_nodeCount, a_nodeTypes, a_valueCount, a_valueOwners, a_values, a_skippedCount, a_reader, a_chainNode, a_chainEnd, a_queue, a_queueLength, a_sent, a_nodeSize, a_nodePlace)) hs (by rw [h7, if_neg hf0]) (hj hf0).2 h2 (fun z => absurd z (by have := (hj hf0).1; omega)) (by
        rw [if_neg (show ¬ pm_fj c f = 0 by have := (hj hf0).1; omega)]; exact H)
      exact this
    · rw [if_neg w] at H
      exact xw_bN hs H
  unfold wpX_endNumber
  dsimp only
  refine nm_r i4.1 ⟨i4.2.1, nm_r e4 ⟨i7.2.1, ?_⟩⟩
  rw [e7]
  by_cases hf0 : f = 0
  · rw [if_pos hf0]
    refine br_t rfl ?_
    obtain ⟨r0, r9, rp⟩ := h9 hf0
    unfold wX_endNumber_78
    rw [e8, r0]
    refine ⟨i8.2.1, br_t rfl ?_⟩
    refine xw_eE (f := 0) (t := t) (p := pm_pos c) hs (by rw [h7, if_pos hf0]) (by omega) h2 (fun _ => ⟨r9, rp⟩) ?_
    rw [if_pos rfl]
    exact H0 hf0
  · rw [if_neg hf0]
    obtain ⟨j1, j2⟩ := hj hf0
    obtain ⟨f1, f2, f3⟩ := hf hf0
    refine br_f (fun y => ?_) ⟨i7.2.1, vp_in_nI j2 (by omega), ?_⟩
    · have := (nI_eq (a := pm_fj c f) (b := 0) (by omega) (by omega)).mp y
      omega
    rw [nI_clamp (by omega), hK.2.1 _ j2]
    have yk := xr_k2 _ (hK.1 (pm_fj c f))
    have hkeep : ∀ xv, xv = pm_val K (pm_fj c f) x → wX_endNumber_73 post (nI s) (nI (11 * s)) xv (nI s) f_frameAt f_frameLength f_frameSort f_frameFlags f_frameStream f_down f_entryCount f_most f_typeSeen f_lastSender f_sentLength a_payload a_life a_theyEnded a_weEnded a_finishing a_codes a_windowIn a_windowOut a_headers a_headerCount a_entries a_kinds a_repeats a_messageCount a_text a_nodeCount a_nodeTypes a_valueCount a_valueOwners a_values a_skippedCount a_reader a_chainNode a_chainEnd a_queue a_queueLength a_sent a_nodeSize a_nodePlace := by
      intro xv hxv
      unfold wX_endNumber_73
      refine xw_keep (a := pm_nd c) (n := f) (b := pm_at c) (st := 0) (v := xv) hs I.1 hK hD hnd (by omega) f1 h3 (by rw [h7, if_neg hf0]; rfl) h10 hcn (by rw [if_neg (by show K (pm_fj c f) ≠ 4; omega)]) (fun h48 => ?_) (fun vc vo va h48 g1 g2 g3 g4 => ?_)
      · exact h78 a_valueCount a_valueOwners a_values 15 hf0 (H5 hf0 h48)
      · rw [hxv] at g1
        exact h78 vc vo va 0 hf0 (H1 vc vo va hf0 h48 g1 g2 g3 g4)
    refine br_c (fun w => ?_) (fun w => ?_)
    · unfold wX_endNumber_52
      refine br_f (by decide) (hkeep _ ?_)
      unfold pm_val
      rw [if_pos (yk.2.2.1.mp w)]
      rfl
    · unfold wX_endNumber_52
      refine br_t rfl (hkeep _ ?_)
      unfold pm_val
      rw [if_neg (fun z => w (yk.2.2.1.mpr z))]
end
