/-! S7: a byte with which a number ends -/
section
variable {f_frameAt f_frameLength f_frameSort f_frameFlags f_frameStream f_down f_entryCount f_most f_typeSeen f_lastSender f_sentLength : Int32} {a_payload a_life a_theyEnded a_weEnded a_finishing a_codes a_windowIn a_windowOut a_headers a_headerCount a_entries a_kinds a_repeats a_messageCount a_text a_nodeCount a_nodeTypes a_valueCount a_valueOwners a_values a_skippedCount a_reader a_chainNode a_chainEnd a_queue a_queueLength a_sent a_nodeSize a_nodePlace : Nat → Int32} {B B1 : Nat → Nat} {K : Nat → Nat} {R : Nat → Bool} {L t y : Nat} {dep : Nat → Nat} {c : pm_C} {s h f : Nat} {rd0 : Nat → Int32}
theorem xb_num {x : Int32} {rd2 : Nat → Int32} {g : (Nat → Nat) → Nat → Nat × pm_C} {post : Int32 → SX → Prop} (hs : s < 8) (hL : L ≤ 200) (I : pm_CI K R L dep c) (hK : cr_K a_kinds a_repeats K R)
    (hf : f ≠ 0 → f ≤ 15 ∧ 1 ≤ K (pm_fj c f) ∧ K (pm_fj c f) ≤ 3) (hrow : pm_row c ≠ 0 → f = pm_fld c ∧ h = if K (pm_fj c f) = 3 then 3 else 2)
    (r2 : rd2 (11 * s + 2) = nI (t + 1)) (r3 : rd2 (11 * s + 3) = nI h) (r4 : rd2 (11 * s + 4) = x) (r6 : f ≠ 0 → K (pm_fj c f) = 3 → rd2 (11 * s + 6) = nI 4) (r7 : rd2 (11 * s + 7) = nI (if f = 0 then 0 else pm_fj c f)) (r8 : rd2 (11 * s + 8) = nI (pm_row c)) (r9 : pm_row c = 0 → rd2 (11 * s + 9) = nI (pm_pos c)) (r10 : rd2 (11 * s + 10) = nI (pm_at c))
    (r0 : rd2 (11 * s) = rd0 (11 * s)) (rO : xr_O 11 s rd0 rd2) (rch : ∀ i, i ≤ pm_at c → a_chainNode (4 * s + i) = nI (pm_ins c i) ∧ a_chainEnd (4 * s + i) = nI (pm_lim c i))
    (hXD : cr_XD K s a_nodeCount a_nodeTypes a_valueCount a_valueOwners a_values (pm_d c)) (hsk : a_skippedCount s = nI (pm_sk c)) (hpt : pm_pos c ≤ t) (hte : t + 1 ≤ pm_end c)
    (hfrom : cr_from K R y L t B g) (hB : ∀ i, i < t → B1 i = B i) (hg : ∀ T B', t + 1 ≤ T → (∀ i, i < t + 1 → B' i = B1 i) → g B' T = pm_fin R c f (t + 1) (pm_val K (pm_fj c f) x) 0)
    (H : ∀ code mc' nc' nt' vc' vo' va' sk' rd' cn' ce', xr_fr s a_messageCount a_nodeCount a_nodeTypes a_valueCount a_valueOwners a_values a_skippedCount rd0 a_chainNode a_chainEnd mc' nc' nt' vc' vo' va' sk' rd' cn' ce' →
      xr_sp K R s y L (t + 1) B1 a_messageCount rd0 code mc' nc' nt' vc' vo' va' sk' rd' cn' ce' →
      post (if code = 0 then 0 else nI (10 + code)) (f_frameAt, f_frameLength, f_frameSort, f_frameFlags, f_frameStream, f_down, f_entryCount, f_most, f_typeSeen, f_lastSender, f_sentLength, a_payload, a_life, a_theyEnded, a_weEnded, a_finishing, a_codes, a_windowIn, a_windowOut, a_headers, a_headerCount, a_entries, a_kinds, a_repeats, mc', a_text, nc', nt', vc', vo', va', sk', rd', cn', ce', a_queue, a_queueLength, a_sent, a_nodeSize, a_nodePlace)) :
    wpX_endNumber (fun r u => match u with | (f_frameAt, f_frameLength, f_frameSort, f_frameFlags, f_frameStream, f_down, f_entryCount, f_most, f_typeSeen, f_lastSender, f_sentLength, a_payload, a_life, a_theyEnded, a_weEnded, a_finishing, a_codes, a_windowIn, a_windowOut, a_headers, a_headerCount, a_entries, a_kinds, a_repeats, a_messageCount, a_text, a_nodeCount, a_nodeTypes, a_valueCount, a_valueOwners, a_values, a_skippedCount, a_reader, a_chainNode, a_chainEnd, a_queue, a_queueLength, a_sent, a_nodeSize, a_nodePlace) => wX_readByte_212 post (nI s) r f_frameAt f_frameLength f_frameSort f_frameFlags f_frameStream f_down f_entryCount f_most f_typeSeen f_lastSender f_sentLength a_payload a_life a_theyEnded a_weEnded a_finishing a_codes a_windowIn a_windowOut a_headers a_headerCount a_entries a_kinds a_repeats a_messageCount a_text a_nodeCount a_nodeTypes a_valueCount a_valueOwners a_values a_skippedCount a_reader a_chainNode a_chainEnd a_queue a_queueLength a_sent a_nodeSize a_nodePlace) (f_frameAt, f_frameLength, f_frameSort, f_frameFlags, f_frameStream, f_down, f_entryCount, f_most, f_typeSeen, f_lastSender, f_sentLength, a_payload, a_life, a_theyEnded, a_weEnded, a_finishing, a_codes, a_windowIn, a_windowOut, a_headers, a_headerCount, a_entries, a_kinds, a_repeats, a_messageCount, a_text, a_nodeCount, a_nodeTypes, a_valueCount, a_valueOwners, a_values, a_skippedCount, rd2, a_chainNode, a_chainEnd, a_queue, a_queueLength, a_sent, a_nodeSize, a_nodePlace) (nI s) := by
  have hfok : pm_fok K L c f (pm_val K (pm_fj c f) x) 0 := by
    by_cases z : f = 0
    · exact Or.inl z
    · obtain ⟨f1, f2, f3⟩ := hf z
      exact Or.inr ⟨by omega, f1, by omega, by omega, fun z2 => by omega⟩
  have hcn := (rch _ (Nat.le_refl _)).1
  have bEO : xr_O 11 s rd0 (xr_bE s rd2) := xr_O_t rO (fun j hj => xr_bE_o hj)
  have bNO : xr_O 11 s rd0 (xr_bN s (rd2 (11 * s + 3)) rd2) := xr_O_t rO (fun j hj => xr_bN_o hj)
  have bN0 : xr_bN s (rd2 (11 * s + 3)) rd2 (11 * s) = rd0 (11 * s) := by
    have := xr_bN_k s (rd2 (11 * s + 3)) rd2 0
    rw [if_neg (by omega), if_neg (by omega)] at this
    exact this.trans r0
  have hfr : ∀ c', pm_fin R c f (t + 1) (pm_val K (pm_fj c f) x) 0 = (0, c') → cr_from K R y L (t + 1) B1 (fun _ _ => (0, c')) := by
    intro c' hc'
    refine cr_on hfrom hB (fun T B' hT hB' r hr' => ?_)
    rw [hg T B' hT hB', hc']; exact hr'
  refine xw_num (f := f) (t := t + 1) (x := x) hs I hK hXD hL r2 r4 r7 r8 (fun z => ?_) r10 hcn hf (fun z => ?_) (fun z z48 => ?_) (fun vc vo va z z48 g1 g2 g3 g4 => ?_)
  · have hr0 : pm_row c = 0 := by
      by_cases w : pm_row c = 0
      · exact w
      · have h1 := (hrow w).1
        have h2 := (I.2.2.2.2.2.2.2 w).2.1
        omega
    exact ⟨hr0, r9 hr0, by omega⟩
  · -- a skipped number
    have hr0 : pm_row c = 0 := by
      by_cases w : pm_row c = 0
      · exact w
      · have h1 := (hrow w).1
        have h2 := (I.2.2.2.2.2.2.2 w).2.1
        omega
    obtain ⟨c', hc'⟩ : ∃ c', pm_fin R c f (t + 1) (pm_val K (pm_fj c f) x) 0 = (0, c') := by
      unfold pm_fin
      rw [if_pos z]; exact ⟨_, rfl⟩
    obtain ⟨i1, i2, i3, i4, i5, i6, i7, i8, i9, i10⟩ := xb_fin (sk0 := a_skippedCount) (s := s) I hte hfok hc' hsk (by omega)
    obtain ⟨k1, k2⟩ := i9 z
    have hF := xb_fresh (t := t + 1) (rd := rd2) (cn := a_chainNode) (ce := a_chainEnd) (s := s) (c := c) (c' := c') i3 i6 i7 r2 r10 rch
    refine xt_el (c := c') (mc0 := a_messageCount) (rd0 := rd0) hs hL i1 (by omega) i2 hF (by rw [k1]; exact hXD) k2 (hfr c' hc') rfl (by rw [xb_0]; exact r0) (fun mc' rd' s1 s2 s3 => ?_)
    exact H 0 mc' a_nodeCount a_nodeTypes a_valueCount a_valueOwners a_values _ rd' a_chainNode a_chainEnd ⟨s2, xr_O_r, xr_O_r, xr_O_r, xr_O_r, xr_O_r, xr_O_1, xr_O_t bEO s3, xr_O_r, xr_O_r, rfl⟩ s1
  · -- too many
    have hc5 : pm_fin R c f (t + 1) (pm_val K (pm_fj c f) x) 0 = (5, c) := by
      unfold pm_fin
      rw [if_neg z, if_pos z48]
    unfold wX_readByte_212
    refine br_f (by decide) (H 5 a_messageCount a_nodeCount a_nodeTypes a_valueCount a_valueOwners a_values a_skippedCount _ a_chainNode a_chainEnd ⟨xr_O_r, xr_O_r, xr_O_r, xr_O_r, xr_O_r, xr_O_r, xr_O_r, ?_, xr_O_r, xr_O_r, rfl⟩ (Or.inl ⟨by omega, by omega, rfl, ?_, ?_⟩))
    · split
      · exact bEO
      · exact bNO
    · split
      · rw [xb_0]; exact r0
      · exact bN0
    · refine ⟨(5, c), hfrom (t + 1) B1 (by omega) hB _ ?_, rfl⟩
      rw [hg (t + 1) B1 (Nat.le_refl _) (fun _ _ => rfl), hc5]
      exact Or.inr ⟨show (5 : Nat) ≠ 0 by omega, rfl⟩
  · obtain ⟨c', hc'⟩ : ∃ c', pm_fin R c f (t + 1) (pm_val K (pm_fj c f) x) 0 = (0, c') := by
      unfold pm_fin
      rw [if_neg z, if_neg z48]; exact ⟨_, rfl⟩
    obtain ⟨i1, i2, i3, i4, i5, i6, i7, i8, i9, i10⟩ := xb_fin (sk0 := a_skippedCount) (s := s) I hte hfok hc' hsk (by omega)
    obtain ⟨k1, k2⟩ := i10 z
    by_cases hr : pm_row c = 0
    · rw [if_pos hr]
      have hF := xb_fresh (t := t + 1) (rd := rd2) (cn := a_chainNode) (ce := a_chainEnd) (s := s) (c := c) (c' := c') i3 i6 i7 r2 r10 rch
      refine xt_el (c := c') (mc0 := a_messageCount) (rd0 := rd0) hs hL i1 (by omega) i2 hF (by rw [k1]; exact g1) k2 (hfr c' hc') rfl (by rw [xb_0]; exact r0) (fun mc' rd' s1 s2 s3 => ?_)
      exact H 0 mc' a_nodeCount a_nodeTypes vc vo va a_skippedCount rd' a_chainNode a_chainEnd ⟨s2, xr_O_r, xr_O_r, g2, g3, g4, xr_O_r, xr_O_t bEO s3, xr_O_r, xr_O_r, rfl⟩ s1
    · rw [if_neg hr]
      obtain ⟨e1, e2⟩ := hrow hr
      have efj : pm_fj c' (pm_fld c') = pm_fj c f := by
        unfold pm_fj pm_nd
        rw [i8, i7, i3, i5, ← e1]
      have hk : ∀ j, j ≠ 5 → j ≠ 4 → j ≠ 3 → xr_bN s (rd2 (11 * s + 3)) rd2 (11 * s + j) = rd2 (11 * s + j) := by
        intro j n5 n4 n3
        rw [xr_bN_k, if_neg (fun w => w.elim n5 n4), if_neg n3]
      refine xt_row (c := c') (mc0 := a_messageCount) (rd0 := rd0) hs hL i1 (by omega) i2 (by rw [hk 2 (by omega) (by omega) (by omega)]; exact r2) ?_ ?_ ?_ (fun w => ?_) ?_ ?_ ?_ (by rw [i3, i6, i7]; exact rch) (by rw [k1]; exact g1) k2 (hfr c' hc') rfl bN0 (fun mc' rd' s1 s2 s3 => ?_)
      · rw [xr_bN_k, if_neg (by omega), if_pos rfl, r3, efj, e2]
      · rw [xr_bN_k, if_pos (Or.inr rfl)]
      · rw [xr_bN_k, if_pos (Or.inl rfl)]
      · rw [hk 6 (by omega) (by omega) (by omega)]
        rw [efj] at w; exact r6 z w
      · rw [hk 7 (by omega) (by omega) (by omega), r7, if_neg z, efj]
      · rw [hk 8 (by omega) (by omega) (by omega), r8, i4]
      · rw [hk 10 (by omega) (by omega) (by omega), r10, i3]
      · exact H 0 mc' a_nodeCount a_nodeTypes vc vo va a_skippedCount rd' a_chainNode a_chainEnd ⟨s2, xr_O_r, xr_O_r, g2, g3, g4, xr_O_r, xr_O_t bNO s3, xr_O_r, xr_O_r, rfl⟩ s1
end
