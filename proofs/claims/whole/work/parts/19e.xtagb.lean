/-! S8: a byte with which a tag ends -/
section
variable {f_frameAt f_frameLength f_frameSort f_frameFlags f_frameStream f_down f_entryCount f_most f_typeSeen f_lastSender f_sentLength : Int32} {a_payload a_life a_theyEnded a_weEnded a_finishing a_codes a_windowIn a_windowOut a_headers a_headerCount a_entries a_kinds a_repeats a_messageCount a_text a_nodeCount a_nodeTypes a_valueCount a_valueOwners a_values a_skippedCount a_reader a_chainNode a_chainEnd a_queue a_queueLength a_sent a_nodeSize a_nodePlace : Nat → Int32} {B B1 : Nat → Nat} {K : Nat → Nat} {R : Nat → Bool} {L t y : Nat} {dep : Nat → Nat} {c : pm_C} {s d : Nat} {rd0 : Nat → Int32}
theorem pm_fl_1 (hK : ∀ j, K j ≤ 8) (n : Nat) : pm_fl K R c n 1 = 0 := by
  rcases pm_fl_s (K := K) (R := R) (c := c) n 1 with z | ⟨z1, z2, z3, z4⟩
  · exact z
  · exfalso
    obtain ⟨w0, w5, w2⟩ := pm_w_0 _ (hK (pm_fj c n))
    rcases z4 with z4 | z4
    · unfold pm_w at z4
      split at z4
      · omega
      · split at z4 <;> omega
    · omega
theorem xr_tg_k (s : Nat) (h : Int32) (l : Option Int32) (f : Nat) (rd : Nat → Int32) (j : Nat) : xr_tg s h l f rd (11 * s + j) = if j = 7 then nI f else if j = 6 ∧ l ≠ none then (l.getD 0) else if j = 5 ∨ j = 4 then 0 else if j = 3 then h else rd (11 * s + j) := by
  unfold xr_tg
  rw [xr_u]
  by_cases h7 : j = 7
  · rw [if_pos h7, if_pos h7]
  · rw [if_neg h7, if_neg h7]
    cases l with
    | none =>
      rw [if_neg (fun z => z.2 rfl)]
      exact xr_bN_k s h rd j
    | some x =>
      show upd (xr_bN s h rd) (11 * s + 6) x (11 * s + j) = _
      rw [xr_u]
      by_cases h6 : j = 6
      · rw [if_pos h6, if_pos ⟨h6, by simp⟩]; rfl
      · rw [if_neg h6, if_neg (fun z => h6 z.1)]
        exact xr_bN_k s h rd j
theorem xr_tg_o {s j f : Nat} {h : Int32} {l : Option Int32} {rd : Nat → Int32} (hj : j < 11 * s ∨ 11 * s + 11 ≤ j) : xr_tg s h l f rd j = rd j := by
  unfold xr_tg
  rw [xr_o (by omega) hj]
  cases l with
  | none => exact xr_bN_o hj
  | some x =>
    show upd (xr_bN s h rd) (11 * s + 6) x j = _
    rw [xr_o (by omega) hj]; exact xr_bN_o hj
theorem xb_tag {x : Int32} {rd2 : Nat → Int32} {post : Int32 → SX → Prop} (hs : s < 8) (hL : L ≤ 200) (I : pm_CI K R L dep c) (hK : cr_K a_kinds a_repeats K R) (hr : pm_row c = 0) (htd : t = pm_pos c + d) (hte : t + 1 ≤ pm_end c) (hd : d < 10) (hb : B1 t < 128)
    (r2 : rd2 (11 * s + 2) = nI (t + 1)) (r4 : rd2 (11 * s + 4) = x) (hx : x = pm_vs B1 (pm_pos c) (d + 1)) (r8 : rd2 (11 * s + 8) = nI (pm_row c)) (r9 : rd2 (11 * s + 9) = nI (pm_pos c)) (r10 : rd2 (11 * s + 10) = nI (pm_at c))
    (r0 : rd2 (11 * s) = rd0 (11 * s)) (rO : xr_O 11 s rd0 rd2) (rch : ∀ i, i ≤ pm_at c → a_chainNode (4 * s + i) = nI (pm_ins c i) ∧ a_chainEnd (4 * s + i) = nI (pm_lim c i))
    (hXD : cr_XD K s a_nodeCount a_nodeTypes a_valueCount a_valueOwners a_values (pm_d c)) (hsk : a_skippedCount s = nI (pm_sk c))
    (hfrom : cr_from K R y L t B (fun B' T => pm_goT B' K R T c d)) (hB : ∀ i, i < t → B1 i = B i)
    (H : ∀ code mc' nc' nt' vc' vo' va' sk' rd' cn' ce', xr_fr s a_messageCount a_nodeCount a_nodeTypes a_valueCount a_valueOwners a_values a_skippedCount rd0 a_chainNode a_chainEnd mc' nc' nt' vc' vo' va' sk' rd' cn' ce' →
      xr_sp K R s y L (t + 1) B1 a_messageCount rd0 code mc' nc' nt' vc' vo' va' sk' rd' cn' ce' →
      post (if code = 0 then 0 else nI (10 + code)) (f_frameAt, f_frameLength, f_frameSort, f_frameFlags, f_frameStream, f_down, f_entryCount, f_most, f_typeSeen, f_lastSender, f_sentLength, a_payload, a_life, a_theyEnded, a_weEnded, a_finishing, a_codes, a_windowIn, a_windowOut, a_headers, a_headerCount, a_entries, a_kinds, a_repeats, mc', a_text, nc', nt', vc', vo', va', sk', rd', cn', ce', a_queue, a_queueLength, a_sent, a_nodeSize, a_nodePlace)) :
    wpX_endTag (fun r u => match u with | (f_frameAt, f_frameLength, f_frameSort, f_frameFlags, f_frameStream, f_down, f_entryCount, f_most, f_typeSeen, f_lastSender, f_sentLength, a_payload, a_life, a_theyEnded, a_weEnded, a_finishing, a_codes, a_windowIn, a_windowOut, a_headers, a_headerCount, a_entries, a_kinds, a_repeats, a_messageCount, a_text, a_nodeCount, a_nodeTypes, a_valueCount, a_valueOwners, a_values, a_skippedCount, a_reader, a_chainNode, a_chainEnd, a_queue, a_queueLength, a_sent, a_nodeSize, a_nodePlace) => wX_readByte_212 post (nI s) r f_frameAt f_frameLength f_frameSort f_frameFlags f_frameStream f_down f_entryCount f_most f_typeSeen f_lastSender f_sentLength a_payload a_life a_theyEnded a_weEnded a_finishing a_codes a_windowIn a_windowOut a_headers a_headerCount a_entries a_kinds a_repeats a_messageCount a_text a_nodeCount a_nodeTypes a_valueCount a_valueOwners a_values a_skippedCount a_reader a_chainNode a_chainEnd a_queue a_queueLength a_sent a_nodeSize a_nodePlace) (f_frameAt, f_frameLength, f_frameSort, f_frameFlags, f_frameStream, f_down, f_entryCount, f_most, f_typeSeen, f_lastSender, f_sentLength, a_payload, a_life, a_theyEnded, a_weEnded, a_finishing, a_codes, a_windowIn, a_windowOut, a_headers, a_headerCount, a_entries, a_kinds, a_repeats, a_messageCount, a_text, a_nodeCount, a_nodeTypes, a_valueCount, a_valueOwners, a_values, a_skippedCount, rd2, a_chainNode, a_chainEnd, a_queue, a_queueLength, a_sent, a_nodeSize, a_nodePlace) (nI s) := by
  have he : pm_end c = pm_lim c (pm_at c) := by unfold pm_end; exact if_pos hr
  have hel := pm_end_le I
  have hcn := (rch _ (Nat.le_refl _)).1
  have hdis : ∀ T B', t + 1 ≤ T → (∀ i, i < t + 1 → B' i = B1 i) → pm_goT B' K R T c d = pm_dis B' K R T c (t + 1) x.toBitVec.toNat := by
    intro T B' hT hB'
    have hbt : B' (pm_pos c + d) < 128 := by
      rw [hB' _ (by omega), ← htd]; exact hb
    rw [pm_goT_d hd (by omega) (by omega) hbt, hx]
    have e1 : pm_vs B' (pm_pos c) (d + 1) = pm_vs B1 (pm_pos c) (d + 1) := pm_vs_g _ (fun i hi => hB' _ (by omega))
    rw [e1, show pm_pos c + (d + 1) = t + 1 by omega]
  -- on to another phase
  have hmid : ∀ (h : Nat) (l : Option Int32) (f w : Nat), 1 ≤ h → h ≤ 3 → f ≤ 15 → (h = 3 → l = some (nI w) ∧ 0 < w ∧ w ≤ 8) →
      (∀ T B', t + 1 ≤ T → (∀ i, i < t + 1 → B' i = B1 i) → pm_goT B' K R T c d = pm_go B' K R T c h f (t + 1) 0 w) →
      (h = 1 → (f ≠ 0 → K (pm_fj c f) ≠ 0 ∧ (K (pm_fj c f) ≤ 3 → R (pm_fj c f) = true))) → (h = 2 → (f ≠ 0 → 1 ≤ K (pm_fj c f) ∧ K (pm_fj c f) ≤ 2)) → (h = 3 → (f ≠ 0 → w = 4 ∧ K (pm_fj c f) = 3)) →
      wX_readByte_212 post (nI s) 0 f_frameAt f_frameLength f_frameSort f_frameFlags f_frameStream f_down f_entryCount f_most f_typeSeen f_lastSender f_sentLength a_payload a_life a_theyEnded a_weEnded a_finishing a_codes a_windowIn a_windowOut a_headers a_headerCount a_entries a_kinds a_repeats a_messageCount a_text a_nodeCount a_nodeTypes a_valueCount a_valueOwners a_values a_skippedCount (xr_tg s (nI h) l (if f = 0 then 0 else pm_fj c f) rd2) a_chainNode a_chainEnd a_queue a_queueLength a_sent a_nodeSize a_nodePlace := by
    intro h l f w h1 h3 hf15 hl hgo c1 c2 c3
    have k := xr_tg_k s (nI h) l (if f = 0 then 0 else pm_fj c f) rd2
    refine xt_mid (B := B1) (y := y) (dep := dep) (c := c) (h := h) (f := f) (q := t + 1) (d := 0) (w := w) (mc0 := a_messageCount) (rd0 := rd0) hs hL I (by omega) (fun z => ⟨z, hf15, ?_⟩) hte (fun z => ?_) (Or.inl (by omega)) (by omega) (by omega) (fun z => absurd hr z) ⟨?_, ?_, ?_, ?_, ?_, ?_, ?_, ?_, ?_, rch⟩ ?_ hsk ?_ rfl ?_ (fun code s1 => ?_)
    · rcases (show h = 1 ∨ h = 2 ∨ h = 3 by omega) with e | e | e
      · exact Or.inr (Or.inl ⟨e, by omega, by omega, hr, by omega, c1 e⟩)
      · exact Or.inr (Or.inr (Or.inl ⟨e, by omega, by omega, by omega, c2 e, fun z2 => absurd hr z2⟩))
      · exact Or.inr (Or.inr (Or.inr (Or.inl ⟨e, by omega, (hl e).2.1, (hl e).2.2, by omega, c3 e, fun z2 => absurd hr z2⟩)))
    · unfold pm_go
      rcases (show h = 1 ∨ h = 2 ∨ h = 3 by omega) with e | e | e
      · rw [if_neg (by omega), if_pos e]; exact pm_goL_e (by omega) (by omega)
      · rw [if_neg (by omega), if_neg (by omega), if_pos e]; exact pm_goV_e (by omega) (by omega)
      · rw [if_neg (by omega), if_neg (by omega), if_neg (by omega), if_pos e]
        exact pm_goF_e (by have := (hl e).2.1; omega) (by omega)
    · rw [k, if_neg (by omega), if_neg (fun z => by omega), if_neg (by omega), if_neg (by omega)]; exact r2
    · rw [k, if_neg (by omega), if_neg (fun z => by omega), if_neg (by omega), if_pos rfl]
    · intro _
      rw [k, if_neg (by omega), if_neg (fun z => by omega), if_pos (by omega), k, if_neg (by omega), if_neg (fun z => by omega), if_pos (by omega)]
      refine ⟨?_, rfl⟩
      unfold cr_sum
      rw [if_neg (by omega)]
      split <;> rfl
    · intro e
      rw [k, if_neg (by omega), if_pos ⟨rfl, by rw [(hl e).1]; simp⟩, (hl e).1]; rfl
    · intro e; omega
    · intro _
      rw [k, if_pos rfl]
    · rw [k, if_neg (by omega), if_neg (fun z => by omega), if_neg (by omega), if_neg (by omega)]; exact r8
    · intro _
      rw [k, if_neg (by omega), if_neg (fun z => by omega), if_neg (by omega), if_neg (by omega)]; exact r9
    · rw [k, if_neg (by omega), if_neg (fun z => by omega), if_neg (by omega), if_neg (by omega)]; exact r10
    · unfold cr_D
      rw [if_neg (fun z => by omega)]
      exact hXD
    · refine cr_on hfrom hB (fun T B' hT hB' r hr' => ?_)
      show pm_Rp B' K R T (pm_goT B' K R T c d) r
      rw [hgo T B' hT hB']; exact hr'
    · refine (k 0).trans ?_
      rw [if_neg (show ¬ (0 : Nat) = 7 by omega), if_neg (show ¬ ((0 : Nat) = 6 ∧ l ≠ none) from fun z => absurd z.1 (by omega)), if_neg (show ¬ ((0 : Nat) = 5 ∨ (0 : Nat) = 4) by omega), if_neg (show ¬ (0 : Nat) = 3 by omega)]
      exact r0
    · exact H code a_messageCount a_nodeCount a_nodeTypes a_valueCount a_valueOwners a_values a_skippedCount _ a_chainNode a_chainEnd ⟨xr_O_r, xr_O_r, xr_O_r, xr_O_r, xr_O_r, xr_O_r, xr_O_r, xr_O_t rO (fun j hj => xr_tg_o hj), xr_O_r, xr_O_r, rfl⟩ s1
  have hfl := fun n w => pm_fl_s (K := K) (R := R) (c := c) n w
  refine xw_tag (x := x) hs I hK hXD r4 r10 hcn (fun z => ?_) (fun f z1 z2 z3 => ?_) (fun f z1 z2 z3 => ?_) (fun f z1 z2 z3 => ?_) (fun f z1 z2 z3 => ?_)
  · unfold wX_readByte_212
    refine br_f (by decide) (H 2 a_messageCount a_nodeCount a_nodeTypes a_valueCount a_valueOwners a_values a_skippedCount rd2 a_chainNode a_chainEnd ⟨xr_O_r, xr_O_r, xr_O_r, xr_O_r, xr_O_r, xr_O_r, xr_O_r, rO, xr_O_r, xr_O_r, rfl⟩ (Or.inl ⟨by omega, by omega, rfl, r0, (2, c), hfrom (t + 1) B1 (by omega) hB _ ?_, rfl⟩))
    have e : pm_goT B1 K R (t + 1) c d = (2, c) := by
      rw [hdis (t + 1) B1 (Nat.le_refl _) (fun _ _ => rfl)]
      unfold pm_dis
      rcases z with z | ⟨z1, z2, z3, z4⟩
      · rw [if_pos z]
      · by_cases w : x.toBitVec.toNat / 8 = 0
        · rw [if_pos w]
        · rw [if_neg w, if_neg z1, if_neg z3, if_neg z4, if_neg z2]
    show pm_Rp B1 K R (t + 1) (pm_goT B1 K R (t + 1) c d) (2, c)
    rw [e]
    exact Or.inr ⟨show (2 : Nat) ≠ 0 by omega, rfl⟩
  · refine hmid 2 none f 0 (by omega) (by omega) ?_ (fun e => by omega) (fun T B' hT hB' => ?_) (fun e => by omega) (fun _ g => ?_) (fun e => by omega)
    · rw [z3]; rcases hfl (x.toBitVec.toNat / 8) 0 with e | ⟨e1, e2, _⟩ <;> omega
    · rw [hdis T B' hT hB']; unfold pm_dis; rw [if_neg z1, if_pos z2, ← z3]; rfl
    · rcases hfl (x.toBitVec.toNat / 8) 0 with e | ⟨e1, e2, e3, e4⟩
      · omega
      · rw [z3, e1]
        have : K (pm_fj c (x.toBitVec.toNat / 8)) < 3 := by
          rcases e4 with e4 | e4
          · exact (pm_w_0 _ (hK.1 _)).1.mp e4.symm
          · exact absurd e4.1 (by decide)
        omega
  · have hf0 : f = 0 := by rw [z3]; exact pm_fl_1 hK.1 _
    refine hmid 3 (some 8) f 8 (by omega) (by omega) (by omega) (fun _ => ⟨rfl, by omega, by omega⟩) (fun T B' hT hB' => ?_) (fun e => by omega) (fun e => by omega) (fun _ g => absurd hf0 g)
    rw [hdis T B' hT hB']; unfold pm_dis; rw [if_neg z1, if_neg (by omega), if_neg (by omega), if_neg (by omega), if_pos z2, hf0]; rfl
  · refine hmid 1 none f 0 (by omega) (by omega) ?_ (fun e => by omega) (fun T B' hT hB' => ?_) (fun _ g => ?_) (fun e => by omega) (fun e => by omega)
    · rw [z3]; rcases hfl (x.toBitVec.toNat / 8) 2 with e | ⟨e1, e2, _⟩ <;> omega
    · rw [hdis T B' hT hB']; unfold pm_dis; rw [if_neg z1, if_neg (by omega), if_pos z2, ← z3]; rfl
    · rcases hfl (x.toBitVec.toNat / 8) 2 with e | ⟨e1, e2, e3, e4⟩
      · omega
      · rw [z3, e1]
        refine ⟨e3, fun g3 => ?_⟩
        rcases e4 with e4 | e4
        · have := (pm_w_0 _ (hK.1 _)).2.2.mp e4.symm
          omega
        · exact e4.2
  · refine hmid 3 (some 4) f 4 (by omega) (by omega) ?_ (fun _ => ⟨rfl, by omega, by omega⟩) (fun T B' hT hB' => ?_) (fun e => by omega) (fun e => by omega) (fun _ g => ?_)
    · rw [z3]; rcases hfl (x.toBitVec.toNat / 8) 5 with e | ⟨e1, e2, _⟩ <;> omega
    · rw [hdis T B' hT hB']; unfold pm_dis; rw [if_neg z1, if_neg (by omega), if_neg (by omega), if_pos z2, ← z3]; rfl
    · rcases hfl (x.toBitVec.toNat / 8) 5 with e | ⟨e1, e2, e3, e4⟩
      · omega
      · rw [z3, e1]
        refine ⟨rfl, ?_⟩
        rcases e4 with e4 | e4
        · exact (pm_w_0 _ (hK.1 _)).2.1.mp e4.symm
        · exact absurd e4.1 (by decide)
end
