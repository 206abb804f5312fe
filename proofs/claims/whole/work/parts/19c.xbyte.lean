/-! S6: a byte of a body -/
section
variable {f_frameAt f_frameLength f_frameSort f_frameFlags f_frameStream f_down f_entryCount f_most f_typeSeen f_lastSender f_sentLength : Int32} {a_payload a_life a_theyEnded a_weEnded a_finishing a_codes a_windowIn a_windowOut a_headers a_headerCount a_entries a_kinds a_repeats a_messageCount a_text a_nodeCount a_nodeTypes a_valueCount a_valueOwners a_values a_skippedCount a_reader a_chainNode a_chainEnd a_queue a_queueLength a_sent a_nodeSize a_nodePlace : Nat → Int32} {B B1 : Nat → Nat} {K : Nat → Nat} {R : Nat → Bool} {L t y : Nat} {dep : Nat → Nat} {c : pm_C} {s h f q d w : Nat} {mc0 rd0 nc0 nt0 vc0 vo0 va0 sk0 cn0 ce0 : Nat → Int32}
/-- behind fin: the element is through -/
theorem xb_fin {v : Int32} {st : Nat} {c' : pm_C} (I : pm_CI K R L dep c) (hp : t ≤ pm_end c) (hf : pm_fok K L c f v st) (h : pm_fin R c f t v st = (0, c')) (hsk : sk0 s = nI (pm_sk c)) (hpt : pm_pos c ≤ t) :
    pm_CI K R L dep c' ∧ pm_pos c' = t ∧ pm_at c' = pm_at c ∧ pm_row c' = pm_row c ∧ pm_fld c' = pm_fld c ∧ pm_lim c' = pm_lim c ∧ pm_ins c' = pm_ins c ∧ pm_nt (pm_d c') = pm_nt (pm_d c) ∧
    (f = 0 → pm_d c' = pm_d c ∧ upd sk0 s (sk0 s + nI (t - pm_pos c)) s = nI (pm_sk c')) ∧ (f ≠ 0 → pm_d c' = pm_kp R (pm_d c) (pm_nd c) f v st ∧ sk0 s = nI (pm_sk c')) := by
  obtain ⟨i1, i2, i3, i4, i5, i6, i7, i8⟩ := pm_fin_I I hp hf h
  refine ⟨i1, i2, i3, i4, i5, i6, i7, i8, fun z => ?_, fun z => ?_⟩
  · unfold pm_fin at h
    rw [if_pos z] at h
    have e : _ = c' := congrArg Prod.snd h
    subst e
    refine ⟨rfl, ?_⟩
    rw [pm_upd_eq, if_pos rfl, hsk, nI_add]
  · unfold pm_fin at h
    rw [if_neg z] at h
    split at h
    · have : (5 : Nat) = 0 := congrArg Prod.fst h
      omega
    · have e : _ = c' := congrArg Prod.snd h
      subst e
      exact ⟨rfl, hsk⟩
/-- the registers of a cursor with the same chain -/
theorem xb_fresh {c' : pm_C} {rd cn ce : Nat → Int32} (ha : pm_at c' = pm_at c) (hl : pm_lim c' = pm_lim c) (hi : pm_ins c' = pm_ins c) (r2 : rd (11 * s + 2) = nI t) (r10 : rd (11 * s + 10) = nI (pm_at c))
    (rch : ∀ i, i ≤ pm_at c → cn (4 * s + i) = nI (pm_ins c i) ∧ ce (4 * s + i) = nI (pm_lim c i)) : xr_fresh s t c' (xr_bE s rd) cn ce := by
  refine ⟨?_, ?_, ?_, ?_, ?_, ?_, ?_, ?_⟩
  · rw [xr_bE_k, if_neg (by omega), if_neg (by omega)]; exact r2
  · rw [xr_bE_k, if_neg (by omega), if_pos (by omega)]
  · rw [xr_bE_k, if_neg (by omega), if_pos (by omega)]
  · rw [xr_bE_k, if_neg (by omega), if_pos (by omega)]
  · rw [xr_bE_k, if_neg (by omega), if_pos (by omega)]
  · rw [xr_bE_k, if_pos rfl]; exact r2
  · rw [xr_bE_k, if_neg (by omega), if_neg (by omega), ha]; exact r10
  · rw [ha, hl, hi]; exact rch
theorem xb_0 (f : Nat → Int32) (s : Nat) : xr_bE s f (11 * s) = f (11 * s) := by
  have := xr_bE_k s f 0
  rw [if_neg (by omega), if_neg (by omega)] at this
  exact this
theorem xb_u0 {f : Nat → Int32} {s i : Nat} {x : Int32} (hi : i ≠ 0) : upd f (11 * s + i) x (11 * s) = f (11 * s) := by
  rw [pm_upd_eq, if_neg (by omega)]
theorem xb_body {rd2 : Nat → Int32} {post : Int32 → SX → Prop} (hs : s < 8) (hL : L ≤ 200) (htL : t < L) (I : pm_CI K R L dep c) (hph : cr_ph K R t c 4 f q d w)
    (r2 : rd2 (11 * s + 2) = nI (t + 1)) (r3 : rd2 (11 * s + 3) = nI 4) (r6 : rd2 (11 * s + 6) = nI (q + w - (t + 1))) (r7 : rd2 (11 * s + 7) = nI (if f = 0 then 0 else pm_fj c f)) (r8 : rd2 (11 * s + 8) = nI (pm_row c)) (r9 : rd2 (11 * s + 9) = nI (pm_pos c)) (r10 : rd2 (11 * s + 10) = nI (pm_at c))
    (r0 : rd2 (11 * s) = rd0 (11 * s)) (rO : xr_O 11 s rd0 rd2) (rch : ∀ i, i ≤ pm_at c → a_chainNode (4 * s + i) = nI (pm_ins c i) ∧ a_chainEnd (4 * s + i) = nI (pm_lim c i))
    (hXD : cr_XD K s a_nodeCount a_nodeTypes a_valueCount a_valueOwners a_values (cr_D R c 4 f q w)) (hsk : a_skippedCount s = nI (pm_sk c))
    (hfrom : cr_from K R y L t B (fun B' T => pm_go B' K R T c 4 f q d w)) (hB : ∀ i, i < t → B1 i = B i)
    (H : ∀ code mc' nc' nt' vc' vo' va' sk' rd' cn' ce', xr_fr s a_messageCount a_nodeCount a_nodeTypes a_valueCount a_valueOwners a_values a_skippedCount rd0 a_chainNode a_chainEnd mc' nc' nt' vc' vo' va' sk' rd' cn' ce' →
      xr_sp K R s y L (t + 1) B1 a_messageCount rd0 code mc' nc' nt' vc' vo' va' sk' rd' cn' ce' →
      post (if code = 0 then 0 else nI (10 + code)) (f_frameAt, f_frameLength, f_frameSort, f_frameFlags, f_frameStream, f_down, f_entryCount, f_most, f_typeSeen, f_lastSender, f_sentLength, a_payload, a_life, a_theyEnded, a_weEnded, a_finishing, a_codes, a_windowIn, a_windowOut, a_headers, a_headerCount, a_entries, a_kinds, a_repeats, mc', a_text, nc', nt', vc', vo', va', sk', rd', cn', ce', a_queue, a_queueLength, a_sent, a_nodeSize, a_nodePlace)) :
    (t + 1 = q + w → wpX_endElement (fun u => match u with | (f_frameAt, f_frameLength, f_frameSort, f_frameFlags, f_frameStream, f_down, f_entryCount, f_most, f_typeSeen, f_lastSender, f_sentLength, a_payload, a_life, a_theyEnded, a_weEnded, a_finishing, a_codes, a_windowIn, a_windowOut, a_headers, a_headerCount, a_entries, a_kinds, a_repeats, a_messageCount, a_text, a_nodeCount, a_nodeTypes, a_valueCount, a_valueOwners, a_values, a_skippedCount, a_reader, a_chainNode, a_chainEnd, a_queue, a_queueLength, a_sent, a_nodeSize, a_nodePlace) => wX_readByte_212 post (nI s) 0 f_frameAt f_frameLength f_frameSort f_frameFlags f_frameStream f_down f_entryCount f_most f_typeSeen f_lastSender f_sentLength a_payload a_life a_theyEnded a_weEnded a_finishing a_codes a_windowIn a_windowOut a_headers a_headerCount a_entries a_kinds a_repeats a_messageCount a_text a_nodeCount a_nodeTypes a_valueCount a_valueOwners a_values a_skippedCount a_reader a_chainNode a_chainEnd a_queue a_queueLength a_sent a_nodeSize a_nodePlace) (f_frameAt, f_frameLength, f_frameSort, f_frameFlags, f_frameStream, f_down, f_entryCount, f_most, f_typeSeen, f_lastSender, f_sentLength, a_payload, a_life, a_theyEnded, a_weEnded, a_finishing, a_codes, a_windowIn, a_windowOut, a_headers, a_headerCount, a_entries, a_kinds, a_repeats, a_messageCount, a_text, a_nodeCount, a_nodeTypes, a_valueCount, a_valueOwners, a_values, a_skippedCount, rd2, a_chainNode, a_chainEnd, a_queue, a_queueLength, a_sent, a_nodeSize, a_nodePlace) (nI s)) ∧
    (t + 1 ≠ q + w → wX_readByte_212 post (nI s) 0 f_frameAt f_frameLength f_frameSort f_frameFlags f_frameStream f_down f_entryCount f_most f_typeSeen f_lastSender f_sentLength a_payload a_life a_theyEnded a_weEnded a_finishing a_codes a_windowIn a_windowOut a_headers a_headerCount a_entries a_kinds a_repeats a_messageCount a_text a_nodeCount a_nodeTypes a_valueCount a_valueOwners a_values a_skippedCount (rd2) a_chainNode a_chainEnd a_queue a_queueLength a_sent a_nodeSize a_nodePlace) := by
  have hph' := hph
  obtain ⟨p1, p2, p3⟩ := hph
  have p3 : q ≤ t ∧ t < q + w ∧ q + w ≤ pm_lim c (pm_at c) ∧ pm_row c = 0 ∧ pm_pos c < q ∧ (f ≠ 0 → K (pm_fj c f) = 4 ∧ pm_pl R (pm_d c) (pm_nd c) f ≠ 48) := by
    rcases p3 with ⟨e, _⟩ | ⟨e, _⟩ | ⟨e, _⟩ | ⟨e, _⟩ | ⟨e, a⟩
    · omega
    · omega
    · omega
    · omega
    · exact a
  obtain ⟨a1, a2, a3, a4, a5, a6⟩ := p3
  have he : pm_end c = pm_lim c (pm_at c) := by unfold pm_end; exact if_pos a4
  have hll := pm_lim_le I (pm_at c) (Nat.le_refl _)
  have hin := I.2.2.2.2.1 (pm_at c) (Nat.le_refl _)
  have hty := (I.1.2.2.2.2.1 _ hin.1).1
  have hj : (if f = 0 then 0 else pm_fj c f) < 64 := by
    split
    · omega
    · show 16 * pm_nt (pm_d c) (pm_ins c (pm_at c)) + f < 64; omega
  constructor
  · intro z
    refine xw_eE (f := if f = 0 then 0 else pm_fj c f) (t := t + 1) (p := pm_pos c) hs r7 hj r2 (fun _ => ⟨r9, by omega⟩) ?_
    have hiff : ((if f = 0 then 0 else pm_fj c f) = 0) ↔ f = 0 := by
      split
      · simp [*]
      · rename_i g
        constructor
        · intro g2
          have : 16 * pm_nt (pm_d c) (pm_ins c (pm_at c)) + f = 0 := g2
          omega
        · intro g2; exact absurd g2 g
    have hfok : pm_fok K L c f (nI w) q := by
      by_cases g : f = 0
      · exact Or.inl g
      · exact Or.inr ⟨by omega, p2, by rw [(a6 g).1]; omega, by rw [(a6 g).1]; omega, fun _ => ⟨w, rfl, by omega⟩⟩
    obtain ⟨c', hc'⟩ : ∃ c', pm_fin R c f (t + 1) (nI w) q = (0, c') := by
      unfold pm_fin
      by_cases g : f = 0
      · rw [if_pos g]; exact ⟨_, rfl⟩
      · rw [if_neg g, if_neg (a6 g).2]; exact ⟨_, rfl⟩
    obtain ⟨i1, i2, i3, i4, i5, i6, i7, i8, i9, i10⟩ := xb_fin (sk0 := a_skippedCount) (s := s) I (by omega) hfok hc' hsk (by omega)
    have hfr : cr_from K R y L (t + 1) B1 (fun _ _ => (0, c')) := by
      refine cr_on hfrom hB (fun T B' hT hB' r hr' => ?_)
      have e : pm_go B' K R T c 4 f q d w = (0, c') := by
        unfold pm_go pm_body
        rw [if_neg (by omega), if_neg (by omega), if_neg (by omega), if_neg (by omega)]
        by_cases g : f = 0
        · rw [if_pos g, if_neg (by omega), ← hc', ← z, g]
          unfold pm_fin
          rw [if_pos rfl, if_pos rfl]
        · rw [if_neg g, if_pos (a6 g).1, if_neg (a6 g).2, if_neg (by omega), ← z]
          exact hc'
      show pm_Rp B' K R T (pm_go B' K R T c 4 f q d w) r
      rw [e]; exact hr'
    have hF := xb_fresh (t := t + 1) (rd := rd2) (cn := a_chainNode) (ce := a_chainEnd) (s := s) (c := c) (c' := c') i3 i6 i7 r2 r10 rch
    have bEO : xr_O 11 s rd0 (xr_bE s rd2) := xr_O_t rO (fun j hj => xr_bE_o hj)
    by_cases g : f = 0
    · rw [if_pos (hiff.mpr g)]
      obtain ⟨k1, k2⟩ := i9 g
      refine xt_el (c := c') (mc0 := a_messageCount) (rd0 := rd0) hs hL i1 (by omega) i2 hF ?_ k2 hfr rfl (by rw [xb_0]; exact r0) (fun mc' rd' s1 s2 s3 => ?_)
      · rw [k1]; unfold cr_D at hXD; rw [if_neg (fun z => z.2 g)] at hXD; exact hXD
      · have := H 0 mc' a_nodeCount a_nodeTypes a_valueCount a_valueOwners a_values _ rd' a_chainNode a_chainEnd ⟨s2, xr_O_r, xr_O_r, xr_O_r, xr_O_r, xr_O_r, xr_O_1, xr_O_t bEO s3, xr_O_r, xr_O_r, rfl⟩ s1
        exact this
    · rw [if_neg (fun z => g (hiff.mp z))]
      obtain ⟨k1, k2⟩ := i10 g
      refine xt_el (c := c') (mc0 := a_messageCount) (rd0 := rd0) hs hL i1 (by omega) i2 hF ?_ k2 hfr rfl (by rw [xb_0]; exact r0) (fun mc' rd' s1 s2 s3 => ?_)
      · rw [k1]; unfold cr_D at hXD; rw [if_pos ⟨rfl, g⟩] at hXD; exact hXD
      · have := H 0 mc' a_nodeCount a_nodeTypes a_valueCount a_valueOwners a_values a_skippedCount rd' a_chainNode a_chainEnd ⟨s2, xr_O_r, xr_O_r, xr_O_r, xr_O_r, xr_O_r, xr_O_r, xr_O_t bEO s3, xr_O_r, xr_O_r, rfl⟩ s1
        exact this
  · intro z
    refine xt_mid (B := B1) (y := y) (dep := dep) (c := c) (h := 4) (f := f) (q := q) (d := 0) (w := w) (mc0 := a_messageCount) (rd0 := rd0) hs hL I (by omega) (fun _ => ⟨by omega, p2, Or.inr (Or.inr (Or.inr (Or.inr ⟨rfl, by omega, by omega, a3, a4, a5, a6⟩)))⟩) (by omega) (fun z2 => absurd z2 (by omega)) (Or.inl (by omega)) (by omega) (by omega) (fun z2 => absurd a4 z2) ⟨r2, r3, fun z2 => absurd z2 (by omega), fun z2 => absurd z2 (by omega), fun _ => r6, fun _ => r7, r8, fun _ => r9, r10, rch⟩ hXD hsk ?_ rfl r0 (fun code s1 => ?_)
    · refine cr_on hfrom hB (fun T B' hT hB' r hr' => ?_)
      have e : pm_go B' K R T c 4 f q d w = pm_go B' K R T c 4 f q 0 w := by
        rfl
      show pm_Rp B' K R T (pm_go B' K R T c 4 f q d w) r
      rw [e]; exact hr'
    · exact H code a_messageCount a_nodeCount a_nodeTypes a_valueCount a_valueOwners a_values a_skippedCount rd2 a_chainNode a_chainEnd ⟨xr_O_r, xr_O_r, xr_O_r, xr_O_r, xr_O_r, xr_O_r, xr_O_r, rO, xr_O_r, xr_O_r, rfl⟩ s1
end
