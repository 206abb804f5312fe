/-! S5: behind an element -/
section
variable {B : Nat → Nat} {K : Nat → Nat} {R : Nat → Bool} {L t y : Nat} {dep : Nat → Nat} {c : pm_C} {s : Nat} {mc rd0 nc nt vc vo va sk rd cn ce : Nat → Int32}
/-- the registers at an element's beginning -/
def xr_fresh (s t : Nat) (c : pm_C) (rd cn ce : Nat → Int32) : Prop :=
  rd (11 * s + 2) = nI t ∧ rd (11 * s + 3) = 0 ∧ rd (11 * s + 4) = 0 ∧ rd (11 * s + 5) = 0 ∧ rd (11 * s + 8) = 0 ∧ rd (11 * s + 9) = nI t ∧ rd (11 * s + 10) = nI (pm_at c) ∧
  (∀ i, i ≤ pm_at c → cn (4 * s + i) = nI (pm_ins c i) ∧ ce (4 * s + i) = nI (pm_lim c i))
theorem xt_f1 (I : pm_CI K R L dep c) (hr : pm_row c = 0) (hp : pm_pos c = t) (hF : xr_fresh s t c rd cn ce) (hXD : cr_XD K s nc nt vc vo va (pm_d c)) (hsk : sk s = nI (pm_sk c))
    (hfrom : cr_from K R y L t B (fun _ _ => (0, c))) (hr0 : rd (11 * s) = rd0 (11 * s)) (htL : t ≠ L) :
    xr_sp K R s y L t B mc rd0 0 mc nc nt vc vo va sk (upd rd (11 * s + 10) (nI (pm_pop (pm_lim c) t (pm_at c)))) cn ce := by
  obtain ⟨r2, r3, r4, r5, r8, r9, r10, rch⟩ := hF
  have hl0 := I.2.2.2.1
  have hne : pm_pos c ≠ pm_lim c 0 := by omega
  have I' := pm_CI_pop I hr
  have hlt := pm_pop_lt I hr hne
  have he : pm_end (pm_popC c) = pm_lim (pm_popC c) (pm_at (pm_popC c)) := by unfold pm_end; exact if_pos hr
  have hpp : pm_pos (pm_popC c) = t := hp
  have hel := pm_end_le I'
  have hpop := pm_pop_s (lim := pm_lim c) (p := pm_pos c) (pm_at c)
  have hph : cr_ph K R t (pm_popC c) 0 0 0 0 0 := ⟨by omega, by omega, Or.inl ⟨rfl, by omega, by omega, hr⟩⟩
  have hfr : cr_from K R y L t B (fun B' T => pm_go B' K R T (pm_popC c) 0 0 0 0 0) := by
    intro T B' hT hB' r hr'
    dsimp only at hr'
    unfold pm_go at hr'
    rw [if_pos rfl] at hr'
    have hw : pm_Rd B' K R T c r := pm_rd_T hr hne hr'
    exact hfrom T B' hT hB' r (Or.inl ⟨rfl, hw⟩)
  refine Or.inr (Or.inl ⟨rfl, rfl, ?_, ⟨dep, pm_popC c, 0, 0, 0, 0, 0, by omega, I', hph, ⟨?_, ?_, ?_, ?_, ?_, ?_, ?_, ?_, ?_, ?_⟩, ?_, hsk, hfr⟩, cr_at hfr (pm_go_9 hph) (by omega)⟩)
  · have := xr_u (f := rd) (s := s) (i := 10) (j := 0) (x := nI (pm_pop (pm_lim c) t (pm_at c)))
    rw [if_neg (by omega)] at this
    exact this.trans hr0
  · rw [xr_u, if_neg (by omega)]; exact r2
  · rw [xr_u, if_neg (by omega)]; exact r3
  · intro _
    rw [xr_u, if_neg (by omega), xr_u, if_neg (by omega)]
    exact ⟨r4, r5⟩
  · intro z; omega
  · intro z; omega
  · intro z; omega
  · rw [xr_u, if_neg (by omega), r8, show pm_row (pm_popC c) = 0 from hr]; rfl
  · intro _
    rw [xr_u, if_neg (by omega), r9, hpp]
  · rw [xr_u, if_pos rfl, ← hp]; rfl
  · intro i hi
    exact rch i (Nat.le_trans hi hpop.1)
  · unfold cr_D
    rw [if_neg (by omega)]
    exact hXD
theorem xt_f2 (I : pm_CI K R L dep c) (hr : pm_row c = 0) (hp : pm_pos c = t) (hXD : cr_XD K s nc nt vc vo va (pm_d c)) (hsk : sk s = nI (pm_sk c))
    (hfrom : cr_from K R y L t B (fun _ _ => (0, c))) (htL : t = L) :
    xr_sp K R s y L t B mc rd0 0 (upd mc s (mc s + 1)) nc nt vc vo va sk (upd (upd rd (11 * s + 10) (nI 0)) (11 * s) 0) cn ce := by
  have hl0 := I.2.2.2.1
  refine Or.inr (Or.inr ⟨rfl, htL, rfl, ?_, dep, pm_popC c, ?_, pm_CI_pop I hr, hXD, hsk⟩)
  · rw [pm_upd_eq, if_pos rfl]
  · have hE : pm_Rd B K R t c (0, pm_popC c) := pm_rd_E hr (by omega)
    have := hfrom t B (Nat.le_refl _) (fun _ _ => rfl) (0, pm_popC c) (Or.inl ⟨rfl, hE⟩)
    rw [htL] at this
    exact this
variable {f_frameAt f_frameLength f_frameSort f_frameFlags f_frameStream f_down f_entryCount f_most f_typeSeen f_lastSender f_sentLength : Int32} {a_payload a_life a_theyEnded a_weEnded a_finishing a_codes a_windowIn a_windowOut a_headers a_headerCount a_entries a_kinds a_repeats a_messageCount a_text a_nodeCount a_nodeTypes a_valueCount a_valueOwners a_values a_skippedCount a_reader a_chainNode a_chainEnd a_queue a_queueLength a_sent a_nodeSize a_nodePlace : Nat → Int32} {mc0 : Nat → Int32}
theorem xt_el {post : Int32 → SX → Prop} (hs : s < 8) (hL : L ≤ 200) (I : pm_CI K R L dep c) (hr : pm_row c = 0) (hp : pm_pos c = t) (hF : xr_fresh s t c a_reader a_chainNode a_chainEnd)
    (hXD : cr_XD K s a_nodeCount a_nodeTypes a_valueCount a_valueOwners a_values (pm_d c)) (hsk : a_skippedCount s = nI (pm_sk c)) (hfrom : cr_from K R y L t B (fun _ _ => (0, c))) (hmc : a_messageCount = mc0) (hr0 : a_reader (11 * s) = rd0 (11 * s))
    (H : ∀ mc' rd', xr_sp K R s y L t B mc0 rd0 0 mc' a_nodeCount a_nodeTypes a_valueCount a_valueOwners a_values a_skippedCount rd' a_chainNode a_chainEnd → xr_O 1 s a_messageCount mc' → xr_O 11 s a_reader rd' → post 0 (f_frameAt, f_frameLength, f_frameSort, f_frameFlags, f_frameStream, f_down, f_entryCount, f_most, f_typeSeen, f_lastSender, f_sentLength, a_payload, a_life, a_theyEnded, a_weEnded, a_finishing, a_codes, a_windowIn, a_windowOut, a_headers, a_headerCount, a_entries, a_kinds, a_repeats, mc', a_text, a_nodeCount, a_nodeTypes, a_valueCount, a_valueOwners, a_values, a_skippedCount, rd', a_chainNode, a_chainEnd, a_queue, a_queueLength, a_sent, a_nodeSize, a_nodePlace)) :
    wX_readByte_212 post (nI s) 0 f_frameAt f_frameLength f_frameSort f_frameFlags f_frameStream f_down f_entryCount f_most f_typeSeen f_lastSender f_sentLength a_payload a_life a_theyEnded a_weEnded a_finishing a_codes a_windowIn a_windowOut a_headers a_headerCount a_entries a_kinds a_repeats a_messageCount a_text a_nodeCount a_nodeTypes a_valueCount a_valueOwners a_values a_skippedCount a_reader a_chainNode a_chainEnd a_queue a_queueLength a_sent a_nodeSize a_nodePlace := by
  have hF' := hF
  obtain ⟨r2, r3, r4, r5, r8, r9, r10, rch⟩ := hF
  subst hmc
  unfold wX_readByte_212
  refine br_t rfl (xw_el hs I hL hr hp r2 r3 r5 r8 r10 (fun i hi => (rch i hi).2) (fun z => ?_) (fun z => ?_))
  · exact H _ _ (xt_f1 I hr hp hF' hXD hsk hfrom hr0 z) xr_O_r (xr_O_u (by omega))
  · exact H _ _ (xt_f2 I hr hp hXD hsk hfrom z) xr_O_1 (xr_O_t (xr_O_u (by omega)) (xr_O_u (i := 0) (by omega)))
theorem xt_row {post : Int32 → SX → Prop} (hs : s < 8) (hL : L ≤ 200) (I : pm_CI K R L dep c) (hr : pm_row c ≠ 0) (hp : pm_pos c = t)
    (r2 : a_reader (11 * s + 2) = nI t) (r3 : a_reader (11 * s + 3) = nI (if K (pm_fj c (pm_fld c)) = 3 then 3 else 2)) (r4 : a_reader (11 * s + 4) = 0) (r5 : a_reader (11 * s + 5) = 0) (r6 : K (pm_fj c (pm_fld c)) = 3 → a_reader (11 * s + 6) = nI 4)
    (r7 : a_reader (11 * s + 7) = nI (pm_fj c (pm_fld c))) (r8 : a_reader (11 * s + 8) = nI (pm_row c)) (r10 : a_reader (11 * s + 10) = nI (pm_at c))
    (rch : ∀ i, i ≤ pm_at c → a_chainNode (4 * s + i) = nI (pm_ins c i) ∧ a_chainEnd (4 * s + i) = nI (pm_lim c i))
    (hXD : cr_XD K s a_nodeCount a_nodeTypes a_valueCount a_valueOwners a_values (pm_d c)) (hsk : a_skippedCount s = nI (pm_sk c)) (hfrom : cr_from K R y L t B (fun _ _ => (0, c))) (hmc : a_messageCount = mc0) (hr0 : a_reader (11 * s) = rd0 (11 * s))
    (H : ∀ mc' rd', xr_sp K R s y L t B mc0 rd0 0 mc' a_nodeCount a_nodeTypes a_valueCount a_valueOwners a_values a_skippedCount rd' a_chainNode a_chainEnd → xr_O 1 s a_messageCount mc' → xr_O 11 s a_reader rd' → post 0 (f_frameAt, f_frameLength, f_frameSort, f_frameFlags, f_frameStream, f_down, f_entryCount, f_most, f_typeSeen, f_lastSender, f_sentLength, a_payload, a_life, a_theyEnded, a_weEnded, a_finishing, a_codes, a_windowIn, a_windowOut, a_headers, a_headerCount, a_entries, a_kinds, a_repeats, mc', a_text, a_nodeCount, a_nodeTypes, a_valueCount, a_valueOwners, a_values, a_skippedCount, rd', a_chainNode, a_chainEnd, a_queue, a_queueLength, a_sent, a_nodeSize, a_nodePlace)) :
    wX_readByte_212 post (nI s) 0 f_frameAt f_frameLength f_frameSort f_frameFlags f_frameStream f_down f_entryCount f_most f_typeSeen f_lastSender f_sentLength a_payload a_life a_theyEnded a_weEnded a_finishing a_codes a_windowIn a_windowOut a_headers a_headerCount a_entries a_kinds a_repeats a_messageCount a_text a_nodeCount a_nodeTypes a_valueCount a_valueOwners a_values a_skippedCount a_reader a_chainNode a_chainEnd a_queue a_queueLength a_sent a_nodeSize a_nodePlace := by
  obtain ⟨k1, k2, k3, k4, k5, k6⟩ := I.2.2.2.2.2.2.2 hr
  have hin := I.2.2.2.2.1 (pm_at c) (Nat.le_refl _)
  have hty := (I.1.2.2.2.2.1 _ hin.1).1
  have hend : pm_end c = pm_row c := by unfold pm_end; exact if_neg hr
  have hpe := I.2.2.2.2.2.2.1
  have hel := pm_end_le I
  have hj : 1 ≤ pm_fj c (pm_fld c) ∧ pm_fj c (pm_fld c) < 64 := by
    show 1 ≤ 16 * pm_nt (pm_d c) (pm_ins c (pm_at c)) + pm_fld c ∧ 16 * pm_nt (pm_d c) (pm_ins c (pm_at c)) + pm_fld c < 64
    omega
  subst hmc
  have hx3 : nI (if K (pm_fj c (pm_fld c)) = 3 then 3 else 2) ≠ 0 := by
    split <;> decide
  have bEF : xr_fresh s t (pm_row0 c) (xr_bE s a_reader) a_chainNode a_chainEnd := by
    refine ⟨?_, ?_, ?_, ?_, ?_, ?_, ?_, rch⟩
    · rw [xr_bE_k, if_neg (by omega), if_neg (by omega)]; exact r2
    · rw [xr_bE_k, if_neg (by omega), if_pos (by omega)]
    · rw [xr_bE_k, if_neg (by omega), if_pos (by omega)]
    · rw [xr_bE_k, if_neg (by omega), if_pos (by omega)]
    · rw [xr_bE_k, if_neg (by omega), if_pos (by omega)]
    · rw [xr_bE_k, if_pos rfl]; exact r2
    · rw [xr_bE_k, if_neg (by omega), if_neg (by omega)]; exact r10
  have bE0 : xr_bE s a_reader (11 * s) = rd0 (11 * s) := by
    have := xr_bE_k s a_reader 0
    rw [if_neg (by omega), if_neg (by omega)] at this
    exact this.trans hr0
  have bEO : xr_O 11 s a_reader (xr_bE s a_reader) := fun j hj => xr_bE_o hj
  have hfrom0 : t = pm_row c → cr_from K R y L t B (fun _ _ => (0, pm_row0 c)) := by
    intro z T B' hT hB' r hr'
    have hw : pm_Rd B' K R T (pm_row0 c) r := by
      rcases hr' with ⟨_, w⟩ | ⟨w, _⟩
      · exact w
      · exact absurd rfl w
    have hw2 : pm_Rd B' K R T c r := pm_rd_row hr (by omega) hw
    exact hfrom T B' hT hB' r (Or.inl ⟨rfl, hw2⟩)
  unfold wX_readByte_212
  refine br_t rfl (xw_rw (f := pm_fj c (pm_fld c)) hs I hL hr hp r2 r3 hx3 r5 r7 hj.1 hj.2 r8 r10 (fun i hi => (rch i hi).2) (fun z => ?_) (fun z z2 => ?_) (fun z z2 => ?_))
  · -- the next single
    have hph : cr_ph K R t c (if K (pm_fj c (pm_fld c)) = 3 then 3 else 2) (pm_fld c) t 0 4 := by
      refine ⟨by omega, k3, ?_⟩
      by_cases w : K (pm_fj c (pm_fld c)) = 3
      · rw [if_pos w]
        exact Or.inr (Or.inr (Or.inr (Or.inl ⟨rfl, by omega, by omega, by omega, by omega, fun _ => ⟨rfl, w⟩, fun _ => rfl⟩)))
      · rw [if_neg w]
        exact Or.inr (Or.inr (Or.inl ⟨rfl, by omega, by omega, by omega, fun _ => ⟨k4, by omega⟩, fun _ => rfl⟩))
    have hfr : cr_from K R y L t B (fun B' T => pm_go B' K R T c (if K (pm_fj c (pm_fld c)) = 3 then 3 else 2) (pm_fld c) t 0 4) := by
      intro T B' hT hB' r hr'
      dsimp only at hr'
      have hw : pm_Rp B' K R T (pm_goS B' K R T c) r := by
        unfold pm_goS
        unfold pm_go at hr'
        rw [hp]
        by_cases w : K (pm_fj c (pm_fld c)) = 3
        · rw [if_pos w] at hr' ⊢
          rw [if_neg (by omega), if_neg (by omega), if_neg (by omega), if_pos rfl] at hr'
          exact hr'
        · rw [if_neg w] at hr' ⊢
          rw [if_neg (by omega), if_neg (by omega), if_pos rfl] at hr'
          exact hr'
      have hw2 : pm_Rd B' K R T c r := pm_rd_S hr (by omega) hw
      exact hfrom T B' hT hB' r (Or.inl ⟨rfl, hw2⟩)
    refine H a_messageCount a_reader (Or.inr (Or.inl ⟨rfl, rfl, hr0, ⟨dep, c, _, _, _, _, _, by omega, I, hph, ⟨r2, r3, ?_, ?_, ?_, ?_, r8, fun w => absurd w hr, r10, rch⟩, ?_, hsk, hfr⟩, cr_at hfr (pm_go_9 hph) (by omega)⟩)) xr_O_r xr_O_r
    · intro _
      refine ⟨?_, r5⟩
      rw [r4]
      unfold cr_sum
      by_cases w : K (pm_fj c (pm_fld c)) = 3
      · rw [if_pos w]; rfl
      · rw [if_neg w]; rfl
    · intro w
      by_cases w2 : K (pm_fj c (pm_fld c)) = 3
      · exact r6 w2
      · rw [if_neg w2] at w; omega
    · intro w
      split at w <;> omega
    · intro _
      rw [r7, if_neg (by omega)]
    · unfold cr_D
      rw [if_neg (fun w => by have := w.1; split at this <;> omega)]
      exact hXD
  · exact H _ _ (xt_f1 (c := pm_row0 c) (pm_CI_row0 I hr (by omega)) rfl hp bEF hXD hsk (hfrom0 z) bE0 z2) xr_O_r (xr_O_t bEO (xr_O_u (by omega)))
  · exact H _ _ (xt_f2 (c := pm_row0 c) (pm_CI_row0 I hr (by omega)) rfl hp hXD hsk (hfrom0 z) z2) xr_O_1 (xr_O_t bEO (xr_O_t (xr_O_u (by omega)) (xr_O_u (i := 0) (by omega))))
end
