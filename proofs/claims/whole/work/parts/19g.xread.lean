/-! S10: a byte of a message -/
section
variable {f_frameAt f_frameLength f_frameSort f_frameFlags f_frameStream f_down f_entryCount f_most f_typeSeen f_lastSender f_sentLength : Int32} {a_payload a_life a_theyEnded a_weEnded a_finishing a_codes a_windowIn a_windowOut a_headers a_headerCount a_entries a_kinds a_repeats a_messageCount a_text a_nodeCount a_nodeTypes a_valueCount a_valueOwners a_values a_skippedCount a_reader a_chainNode a_chainEnd a_queue a_queueLength a_sent a_nodeSize a_nodePlace : Nat → Int32} {B B1 : Nat → Nat} {K : Nat → Nat} {R : Nat → Bool} {L t y b s : Nat} {tx : Nat → Nat}
theorem xb_byte {post : Int32 → SX → Prop} (hs : s < 8) (hL : L ≤ 200) (hK : cr_K a_kinds a_repeats K R) (hb256 : b < 256) (hB : ∀ i, i < t → B1 i = B i) (hb1 : B1 t = b)
    (hinc : cr_inc K R s y L t B a_nodeCount a_nodeTypes a_valueCount a_valueOwners a_values a_skippedCount a_reader a_chainNode a_chainEnd)
    (H : ∀ code mc' nc' nt' vc' vo' va' sk' rd' cn' ce', xr_fr s a_messageCount a_nodeCount a_nodeTypes a_valueCount a_valueOwners a_values a_skippedCount a_reader a_chainNode a_chainEnd mc' nc' nt' vc' vo' va' sk' rd' cn' ce' →
      xr_sp K R s y L (t + 1) B1 a_messageCount a_reader code mc' nc' nt' vc' vo' va' sk' rd' cn' ce' →
      post (if code = 0 then 0 else nI (10 + code)) (f_frameAt, f_frameLength, f_frameSort, f_frameFlags, f_frameStream, f_down, f_entryCount, f_most, f_typeSeen, f_lastSender, f_sentLength, a_payload, a_life, a_theyEnded, a_weEnded, a_finishing, a_codes, a_windowIn, a_windowOut, a_headers, a_headerCount, a_entries, a_kinds, a_repeats, mc', an_f (pm_u tx (200 * s + t) b), nc', nt', vc', vo', va', sk', rd', cn', ce', a_queue, a_queueLength, a_sent, a_nodeSize, a_nodePlace)) :
    wpX_readByte post (f_frameAt, f_frameLength, f_frameSort, f_frameFlags, f_frameStream, f_down, f_entryCount, f_most, f_typeSeen, f_lastSender, f_sentLength, a_payload, a_life, a_theyEnded, a_weEnded, a_finishing, a_codes, a_windowIn, a_windowOut, a_headers, a_headerCount, a_entries, a_kinds, a_repeats, a_messageCount, an_f tx, a_nodeCount, a_nodeTypes, a_valueCount, a_valueOwners, a_values, a_skippedCount, a_reader, a_chainNode, a_chainEnd, a_queue, a_queueLength, a_sent, a_nodeSize, a_nodePlace) (nI s) (nI b) := by
  obtain ⟨dep, c, h, f, q, d, w, htL, I, hph, hreg, hXD, hsk, hfrom⟩ := hinc
  have hph' := hph
  obtain ⟨p1, p2, p3⟩ := hph
  have hreg' := hreg
  obtain ⟨r2, r3, r45, r63, r64, r7, r8, r9, r10, rch⟩ := hreg
  have hel := pm_end_le I
  have i2 := xr_ix (s := s) (k := 2) hs (by omega)
  have i3 := xr_ix (s := s) (k := 3) hs (by omega)
  have i5 := xr_ix (s := s) (k := 5) hs (by omega)
  have i6 := xr_ix (s := s) (k := 6) hs (by omega)
  have c2 : (nI (11 * s) + 2).toNatClampNeg = 11 * s + 2 := i2.2.2
  have c3 : (nI (11 * s) + 3).toNatClampNeg = 11 * s + 3 := i3.2.2
  have c5 : (nI (11 * s) + 5).toNatClampNeg = 11 * s + 5 := i5.2.2
  have c6 : (nI (11 * s) + 6).toNatClampNeg = 11 * s + 6 := i6.2.2
  have et : nI s * 200 + nI t = nI (200 * s + t) := by
    rw [show (200 : Int32) = nI 200 from rfl, pk_mul, nI_add, Nat.mul_comm]
  have hh : h ≤ 4 := by
    rcases p3 with ⟨e, _⟩ | ⟨e, _⟩ | ⟨e, _⟩ | ⟨e, _⟩ | ⟨e, _⟩ <;> omega
  have rd1k : ∀ k, upd a_reader (11 * s + 2) (nI (t + 1)) (11 * s + k) = if k = 2 then nI (t + 1) else a_reader (11 * s + k) := fun k => xr_u
  have rd1O : xr_O 11 s a_reader (upd a_reader (11 * s + 2) (nI (t + 1))) := xr_O_u (by omega)
  unfold wpX_readByte
  dsimp only
  refine nm_r i2.1 ⟨i2.2.1, ?_⟩
  rw [c2, r2, et]
  refine ⟨vp_in_nI (by omega) (by omega), nm_r (e' := an_f (pm_u tx (200 * s + t) b)) (by rw [nI_clamp (by omega), an_fu]) ⟨i2.2.1, i2.2.1, nm_r (e' := upd a_reader (11 * s + 2) (nI (t + 1))) (by rw [nI_1]) ⟨i3.2.1, nm_r (e' := nI h) (by rw [c3, rd1k, if_neg (by omega)]; exact r3) ?_⟩⟩⟩
  generalize hrd1 : upd a_reader (11 * s + 2) (nI (t + 1)) = rd1 at *
  refine pk_eq h 4 (fun e4 => ?_) (fun e4 => ?_)
  · -- a body
    subst e4
    have hq : t < q + w := by
      rcases p3 with ⟨e, _⟩ | ⟨e, _⟩ | ⟨e, _⟩ | ⟨e, _⟩ | ⟨e, a1, a2, _⟩ <;> omega
    have hr0 : pm_row c = 0 := by
      rcases p3 with ⟨e, _⟩ | ⟨e, _⟩ | ⟨e, _⟩ | ⟨e, _⟩ | ⟨e, a1, a2, a3, a4, _⟩
      · omega
      · omega
      · omega
      · omega
      · exact a4
    have e6 : rd1 (11 * s + 6) = nI (q + w - (t + 1) + 1) := by
      rw [rd1k, if_neg (by omega), r64 rfl]; exact congrArg nI (by omega)
    refine ⟨i6.2.1, i6.2.1, nm_r (e' := upd rd1 (11 * s + 6) (nI (q + w - (t + 1)))) (by rw [c6, e6, nI_pred]) ⟨i6.2.1, ?_⟩⟩
    rw [c6, xr_u, if_pos rfl]
    have kk : ∀ k, k ≠ 6 → k ≠ 2 → upd rd1 (11 * s + 6) (nI (q + w - (t + 1))) (11 * s + k) = a_reader (11 * s + k) := by
      intro k n6 n2
      rw [xr_u, if_neg n6, rd1k, if_neg n2]
    have hbody := xb_body (B := B) (B1 := B1) (y := y) (d := d) (rd0 := a_reader) (a_text := an_f (pm_u tx (200 * s + t) b)) (rd2 := upd rd1 (11 * s + 6) (nI (q + w - (t + 1)))) (post := post) hs hL htL I hph' (by rw [xr_u, if_neg (by omega), rd1k, if_pos rfl]) (by rw [kk 3 (by omega) (by omega)]; exact r3) (by rw [xr_u, if_pos rfl]) (by rw [kk 7 (by omega) (by omega)]; exact r7 (by omega)) (by rw [kk 8 (by omega) (by omega)]; exact r8) (by rw [kk 9 (by omega) (by omega)]; exact r9 hr0) (by rw [kk 10 (by omega) (by omega)]; exact r10)
      (by have := kk 0 (by omega) (by omega); exact this) (xr_O_t rd1O (xr_O_u (by omega))) rch hXD hsk hfrom hB H
    have hqw : q + w ≤ 200 := by
      have hll := pm_lim_le I (pm_at c) (Nat.le_refl _)
      rcases p3 with ⟨e, _⟩ | ⟨e, _⟩ | ⟨e, _⟩ | ⟨e, _⟩ | ⟨e, a1, a2, a3, _⟩
      · omega
      · omega
      · omega
      · omega
      · exact Nat.le_trans a3 (Nat.le_trans hll hL)
    refine pk_eq (q + w - (t + 1)) 0 (fun z => hbody.1 (by omega)) (fun z => hbody.2 (by omega))
  have r45' := r45 (by omega)
  have hXD0 : cr_XD K s a_nodeCount a_nodeTypes a_valueCount a_valueOwners a_values (pm_d c) := by
    unfold cr_D at hXD; rw [if_neg (fun z => e4 z.1)] at hXD; exact hXD
  -- a digit more, and nothing ends
  have hmid : ∀ x, cr_sum B1 c h q (d + 1) = x → d + 1 ≤ 10 → (t + 1 < pm_end c → cr_ph K R (t + 1) c h f q (d + 1) w) → (t + 1 = pm_end c → pm_go B1 K R (t + 1) c h f q (d + 1) w = (4, c)) →
      (∀ T B', t + 1 ≤ T → (∀ i, i < t + 1 → B' i = B1 i) → pm_go B' K R T c h f q d w = pm_go B' K R T c h f q (d + 1) w) →
      wX_readByte_212 post (nI s) 0 f_frameAt f_frameLength f_frameSort f_frameFlags f_frameStream f_down f_entryCount f_most f_typeSeen f_lastSender f_sentLength a_payload a_life a_theyEnded a_weEnded a_finishing a_codes a_windowIn a_windowOut a_headers a_headerCount a_entries a_kinds a_repeats a_messageCount (an_f (pm_u tx (200 * s + t) b)) a_nodeCount a_nodeTypes a_valueCount a_valueOwners a_values a_skippedCount (xr_aD s x d rd1) a_chainNode a_chainEnd a_queue a_queueLength a_sent a_nodeSize a_nodePlace := by
    intro x hx hd hp h4 hgo
    have k := xr_aD_k s x d rd1
    have kk : ∀ j, j ≠ 5 → j ≠ 4 → j ≠ 2 → xr_aD s x d rd1 (11 * s + j) = a_reader (11 * s + j) := by
      intro j n5 n4 n2
      rw [k, if_neg n5, if_neg n4, rd1k, if_neg n2]
    refine xt_mid (B := B1) (y := y) (dep := dep) (c := c) (h := h) (f := f) (q := q) (d := d + 1) (w := w) (mc0 := a_messageCount) (rd0 := a_reader) hs hL I (by omega) hp (by omega) h4 (Or.inr (by omega)) hh hd (fun _ => ⟨by omega, by omega⟩) ⟨?_, ?_, fun _ => ⟨?_, ?_⟩, fun e => ?_, fun e => absurd e e4, fun e => ?_, ?_, fun e => ?_, ?_, rch⟩ ?_ hsk ?_ rfl ?_ (fun code s1 => ?_)
    · rw [k, if_neg (by omega), if_neg (by omega), rd1k, if_pos rfl]
    · rw [kk 3 (by omega) (by omega) (by omega)]; exact r3
    · rw [k, if_neg (by omega), if_pos rfl]; exact hx.symm
    · rw [k, if_pos rfl]
    · rw [kk 6 (by omega) (by omega) (by omega)]; exact r63 e
    · rw [kk 7 (by omega) (by omega) (by omega)]; exact r7 e
    · rw [kk 8 (by omega) (by omega) (by omega)]; exact r8
    · rw [kk 9 (by omega) (by omega) (by omega)]; exact r9 e
    · rw [kk 10 (by omega) (by omega) (by omega)]; exact r10
    · exact hXD
    · refine cr_on hfrom hB (fun T B' hT hB' r hr' => ?_)
      show pm_Rp B' K R T (pm_go B' K R T c h f q d w) r
      rw [hgo T B' hT hB']; exact hr'
    · exact kk 0 (by omega) (by omega) (by omega)
    · exact H code a_messageCount a_nodeCount a_nodeTypes a_valueCount a_valueOwners a_values a_skippedCount _ a_chainNode a_chainEnd ⟨xr_O_r, xr_O_r, xr_O_r, xr_O_r, xr_O_r, xr_O_r, xr_O_r, xr_O_t rd1O (fun j hj => xr_aD_o hj), xr_O_r, xr_O_r, rfl⟩ s1
  have rd15 : rd1 (11 * s + 5) = nI d := by rw [rd1k, if_neg (by omega)]; exact r45'.2
  have rd14 : rd1 (11 * s + 4) = cr_sum B c h q d := by rw [rd1k, if_neg (by omega)]; exact r45'.1
  refine pk_eq h 3 (fun e3 => ?_) (fun e3 => ?_)
  · subst e3
    have hp3 : t = q + d ∧ d < w ∧ w ≤ 8 ∧ pm_pos c ≤ q ∧ (f ≠ 0 → w = 4 ∧ K (pm_fj c f) = 3) ∧ (pm_row c ≠ 0 → f = pm_fld c) := by
      rcases p3 with ⟨e, _⟩ | ⟨e, _⟩ | ⟨e, _⟩ | ⟨e, a⟩ | ⟨e, _⟩
      · omega
      · omega
      · omega
      · exact a
      · omega
    obtain ⟨t1, t2, t3, t4, t5, t6⟩ := hp3
    have esum : cr_sum B c 3 q d = pm_fs B1 q d := by
      unfold cr_sum
      rw [if_neg (by omega), if_pos rfl]
      exact (pm_fs_g d (fun i hi => hB _ (by omega))).symm
    refine xw_aD (b := 8) (w := b) (x := cr_sum B c 3 q d) (y := pm_fs B1 q (d + 1)) hs rd15 (by omega) (by omega) rd14 ?_ ?_
    · rw [esum, pm_fs]
      have hbb : B1 (q + d) = b := by rw [← t1]; exact hb1
      rw [hbb]
      by_cases z : d < 4
      · rw [if_pos z, if_pos (by omega)]; rfl
      · rw [if_neg z, if_neg (by omega)]
    have k := xr_aD_k s (pm_fs B1 q (d + 1)) d rd1
    have kk : ∀ j, j ≠ 5 → j ≠ 4 → j ≠ 2 → xr_aD s (pm_fs B1 q (d + 1)) d rd1 (11 * s + j) = a_reader (11 * s + j) := by
      intro j n5 n4 n2
      rw [k, if_neg n5, if_neg n4, rd1k, if_neg n2]
    dsimp only
    rw [c5, c6, k, if_pos rfl, kk 6 (by omega) (by omega) (by omega), r63 rfl]
    refine ⟨i5.2.1, i6.2.1, pk_eq (d + 1) w (fun z => ?_) (fun z => ?_)⟩
    · refine xb_num (B := B) (B1 := B1) (y := y) (h := 3) (f := f) (x := pm_fs B1 q (d + 1)) (rd0 := a_reader) (rd2 := xr_aD s (pm_fs B1 q (d + 1)) d rd1) (g := fun B' T => pm_go B' K R T c 3 f q d w) hs hL I hK (fun g => ⟨p2, by have := (t5 g).2; omega, by have := (t5 g).2; omega⟩) (fun g => ⟨t6 g, ?_⟩) ?_ ?_ ?_ (fun g0 _ => ?_) ?_ ?_ (fun g => ?_) ?_ ?_ (xr_O_t rd1O (fun j hj => xr_aD_o hj)) rch hXD0 hsk (by omega) (by omega) hfrom hB (fun T B' hT hB' => ?_) H
      · have hf0 : f ≠ 0 := by
          have h1 := t6 g
          have h2 := (I.2.2.2.2.2.2.2 g).2.1
          omega
        rw [if_pos (t5 hf0).2]
      · rw [k, if_neg (by omega), if_neg (by omega), rd1k, if_pos rfl]
      · rw [kk 3 (by omega) (by omega) (by omega)]; exact r3
      · rw [k, if_neg (by omega), if_pos rfl]
      · rw [kk 6 (by omega) (by omega) (by omega), r63 rfl]
        rw [(t5 g0).1]
      · rw [kk 7 (by omega) (by omega) (by omega)]; exact r7 (by omega)
      · rw [kk 8 (by omega) (by omega) (by omega)]; exact r8
      · rw [kk 9 (by omega) (by omega) (by omega)]; exact r9 g
      · rw [kk 10 (by omega) (by omega) (by omega)]; exact r10
      · exact kk 0 (by omega) (by omega) (by omega)
      · show pm_go B' K R T c 3 f q d w = _
        have e : pm_go B' K R T c 3 f q d w = pm_goF B' R T c f q w := rfl
        rw [e, pm_goF_d (by omega) (by omega), show q + w = t + 1 by omega]
        by_cases g0 : f = 0
        · unfold pm_fin; rw [if_pos g0, if_pos g0]
        · obtain ⟨w4, k3⟩ := t5 g0
          unfold pm_val
          rw [if_neg (by omega), show d + 1 = 4 by omega, pm_fs_g (B' := B') (B := B1) 4 (fun i hi => hB' _ (by omega))]
    · refine hmid _ ?_ (by omega) (fun g => ⟨g, p2, Or.inr (Or.inr (Or.inr (Or.inl ⟨rfl, by omega, by omega, t3, t4, t5, t6⟩)))⟩) (fun g => ?_) (fun T B' _ _ => rfl)
      · unfold cr_sum; rw [if_neg (by omega), if_pos rfl]
      · exact pm_goF_e (by omega) (by omega)
  · have hh2 : h ≤ 2 := by omega
    -- where the digits begin
    have hst : ∃ st, t = st + d ∧ d < 10 ∧ (h = 0 → st = pm_pos c) ∧ (h ≠ 0 → st = q) := by
      rcases p3 with ⟨e, a1, a2, _⟩ | ⟨e, a1, a2, _⟩ | ⟨e, a1, a2, _⟩ | ⟨e, _⟩ | ⟨e, _⟩
      · exact ⟨pm_pos c, a1, a2, fun _ => rfl, fun z => absurd e z⟩
      · exact ⟨q, a1, a2, fun z => by omega, fun _ => rfl⟩
      · exact ⟨q, a1, a2, fun z => by omega, fun _ => rfl⟩
      · omega
      · omega
    obtain ⟨st, t1, t2, t3, t4⟩ := hst
    have hsum : ∀ (BB : Nat → Nat) k, cr_sum BB c h q k = pm_vs BB st k := by
      intro BB k
      unfold cr_sum
      by_cases z : h = 0
      · rw [if_pos z, t3 z]
      · rw [if_neg z, if_neg e3, t4 z]
    have esum : cr_sum B c h q d = pm_vs B1 st d := by
      rw [hsum]
      exact (pm_vs_g d (fun i hi => hB _ (by omega))).symm
    have e127 : nI b &&& 127 = nI (b % 128) := pk_andN (by omega) 7 (by decide)
    rw [e127]
    refine xw_aD (b := 7) (w := b % 128) (x := cr_sum B c h q d) (y := pm_vs B1 st (d + 1)) hs rd15 t2 (by omega) rd14 ?_ ?_
    · rw [esum, pm_vs]
      have hbb : B1 (st + d) = b := by rw [← t1]; exact hb1
      rw [hbb, e127]
      by_cases z : d < 5
      · rw [if_pos z, if_pos (by omega)]; rfl
      · rw [if_neg z, if_neg (by omega)]
    have k := xr_aD_k s (pm_vs B1 st (d + 1)) d rd1
    have kk : ∀ j, j ≠ 5 → j ≠ 4 → j ≠ 2 → xr_aD s (pm_vs B1 st (d + 1)) d rd1 (11 * s + j) = a_reader (11 * s + j) := by
      intro j n5 n4 n2
      rw [k, if_neg n5, if_neg n4, rd1k, if_neg n2]
    have q2 : xr_aD s (pm_vs B1 st (d + 1)) d rd1 (11 * s + 2) = nI (t + 1) := by
      rw [k, if_neg (by omega), if_neg (by omega), rd1k, if_pos rfl]
    have q4 : xr_aD s (pm_vs B1 st (d + 1)) d rd1 (11 * s + 4) = pm_vs B1 st (d + 1) := by
      rw [k, if_neg (by omega), if_pos rfl]
    have q8 : xr_aD s (pm_vs B1 st (d + 1)) d rd1 (11 * s + 8) = nI (pm_row c) := by
      rw [kk 8 (by omega) (by omega) (by omega)]; exact r8
    have q10 : xr_aD s (pm_vs B1 st (d + 1)) d rd1 (11 * s + 10) = nI (pm_at c) := by
      rw [kk 10 (by omega) (by omega) (by omega)]; exact r10
    have q0 : xr_aD s (pm_vs B1 st (d + 1)) d rd1 (11 * s) = a_reader (11 * s) := kk 0 (by omega) (by omega) (by omega)
    have qO : xr_O 11 s a_reader (xr_aD s (pm_vs B1 st (d + 1)) d rd1) := xr_O_t rd1O (fun j hj => xr_aD_o hj)
    dsimp only
    refine pk_le b 127 (fun z => ?_) (fun z => ?_)
    · refine pk_eq h 0 (fun eh => ?_) (fun eh => ?_)
      · subst eh
        have hr0 : pm_row c = 0 := by
          rcases p3 with ⟨e, a1, a2, a3⟩ | ⟨e, _⟩ | ⟨e, _⟩ | ⟨e, _⟩ | ⟨e, _⟩
          · exact a3
          · omega
          · omega
          · omega
          · omega
        have est := t3 rfl
        exact xb_tag (B := B) (B1 := B1) (y := y) (d := d) (rd0 := a_reader) hs hL I hK hr0 (by omega) (by omega) t2 (by omega) q2 q4 (by rw [est]) q8 (by rw [kk 9 (by omega) (by omega) (by omega)]; exact r9 hr0) q10 q0 qO rch hXD0 hsk hfrom hB H
      · refine pk_eq h 1 (fun eh1 => ?_) (fun eh1 => ?_)
        · subst eh1
          have hp1 : pm_row c = 0 ∧ pm_pos c < q ∧ (f ≠ 0 → K (pm_fj c f) ≠ 0 ∧ (K (pm_fj c f) ≤ 3 → R (pm_fj c f) = true)) := by
            rcases p3 with ⟨e, _⟩ | ⟨e, a1, a2, a3, a4, a5⟩ | ⟨e, _⟩ | ⟨e, _⟩ | ⟨e, _⟩
            · omega
            · exact ⟨a3, a4, a5⟩
            · omega
            · omega
            · omega
          obtain ⟨hr0, h5, h6⟩ := hp1
          have est := t4 (by omega)
          have he : pm_end c = pm_lim c (pm_at c) := by unfold pm_end; exact if_pos hr0
          refine xb_len (B := B) (B1 := B1) (y := y) (f := f) (rd0 := a_reader) (g := fun B' T => pm_go B' K R T c 1 f q d w) hs hL I hK hr0 (by omega) (by omega) p2 h6 q2 q4 (by rw [kk 7 (by omega) (by omega) (by omega)]; exact r7 (by omega)) q8 (by rw [kk 9 (by omega) (by omega) (by omega)]; exact r9 hr0) q10 q0 qO rch hXD0 hsk hfrom hB (fun T B' hT hB' => ?_) H
          show pm_go B' K R T c 1 f q d w = _
          have e : pm_go B' K R T c 1 f q d w = pm_goL B' K R T c f q d := rfl
          have hbt : B' (q + d) < 128 := by
            rw [hB' _ (by omega), show q + d = t by omega, hb1]; omega
          rw [e, pm_goL_d t2 (by omega) (by omega) hbt, est, pm_vs_g (B' := B') (B := B1) (d + 1) (fun i hi => hB' _ (by omega)), show q + (d + 1) = t + 1 by omega]
        · have eh2 : h = 2 := by omega
          subst eh2
          have hp2 : pm_pos c ≤ q ∧ (f ≠ 0 → 1 ≤ K (pm_fj c f) ∧ K (pm_fj c f) ≤ 2) ∧ (pm_row c ≠ 0 → f = pm_fld c) := by
            rcases p3 with ⟨e, _⟩ | ⟨e, _⟩ | ⟨e, a1, a2, a3, a4, a5⟩ | ⟨e, _⟩ | ⟨e, _⟩
            · omega
            · omega
            · exact ⟨a3, a4, a5⟩
            · omega
            · omega
          obtain ⟨h4, h5, h6⟩ := hp2
          have est := t4 (by omega)
          refine xb_num (B := B) (B1 := B1) (y := y) (h := 2) (f := f) (rd0 := a_reader) (g := fun B' T => pm_go B' K R T c 2 f q d w) hs hL I hK (fun g => ⟨p2, (h5 g).1, by have := (h5 g).2; omega⟩) (fun g => ⟨h6 g, ?_⟩) q2 (by rw [kk 3 (by omega) (by omega) (by omega)]; exact r3) q4 (fun g g3 => ?_) (by rw [kk 7 (by omega) (by omega) (by omega)]; exact r7 (by omega)) q8 (fun g => by rw [kk 9 (by omega) (by omega) (by omega)]; exact r9 g) q10 q0 qO rch hXD0 hsk (by omega) (by omega) hfrom hB (fun T B' hT hB' => ?_) H
          · have hf0 : f ≠ 0 := by
              have h1 := h6 g
              have h2 := (I.2.2.2.2.2.2.2 g).2.1
              omega
            rw [if_neg (by have := (h5 hf0).2; omega)]
          · have := (h5 g).2
            omega
          · show pm_go B' K R T c 2 f q d w = _
            have e : pm_go B' K R T c 2 f q d w = pm_goV B' K R T c f q d := rfl
            have hbt : B' (q + d) < 128 := by
              rw [hB' _ (by omega), show q + d = t by omega, hb1]; omega
            rw [e, pm_goV_d t2 (by omega) (by omega) hbt, est, pm_vs_g (B' := B') (B := B1) (d + 1) (fun i hi => hB' _ (by omega)), show q + (d + 1) = t + 1 by omega]
    · -- a digit that goes on
      have hstep : ∀ T B', t + 1 ≤ T → (∀ i, i < t + 1 → B' i = B1 i) → pm_go B' K R T c h f q d w = pm_go B' K R T c h f q (d + 1) w := by
        intro T B' hT hB'
        have hbt : ¬ B' (st + d) < 128 := by
          rw [hB' _ (by omega), ← t1, hb1]; omega
        rcases (show h = 0 ∨ h = 1 ∨ h = 2 by omega) with e | e | e
        · subst e
          have hr0 : pm_row c = 0 := by
            rcases p3 with ⟨e, a1, a2, a3⟩ | ⟨e, _⟩ | ⟨e, _⟩ | ⟨e, _⟩ | ⟨e, _⟩
            · exact a3
            · omega
            · omega
            · omega
            · omega
          have he : pm_end c = pm_lim c (pm_at c) := by unfold pm_end; exact if_pos hr0
          have est := t3 rfl
          rw [est] at hbt
          exact pm_goT_c t2 (by omega) (by omega) hbt
        · subst e
          have hr0 : pm_row c = 0 := by
            rcases p3 with ⟨e, _⟩ | ⟨e, a1, a2, a3, _⟩ | ⟨e, _⟩ | ⟨e, _⟩ | ⟨e, _⟩
            · omega
            · exact a3
            · omega
            · omega
            · omega
          have he : pm_end c = pm_lim c (pm_at c) := by unfold pm_end; exact if_pos hr0
          have est := t4 (by omega)
          rw [est] at hbt
          exact pm_goL_c t2 (by omega) (by omega) hbt
        · subst e
          have est := t4 (by omega)
          rw [est] at hbt
          exact pm_goV_c t2 (by omega) (by omega) hbt
      rw [c5, k, if_pos rfl]
      refine ⟨i5.2.1, pk_eq (d + 1) 10 (fun z10 => ?_) (fun z10 => ?_)⟩
      · -- too long
        have h3e : ∀ T B', t + 1 ≤ T → (∀ i, i < t + 1 → B' i = B1 i) → pm_go B' K R T c h f q d w = (3, c) := by
          intro T B' hT hB'
          rw [hstep T B' hT hB', z10]
          rcases (show h = 0 ∨ h = 1 ∨ h = 2 by omega) with e | e | e
          · subst e; rfl
          · subst e; rfl
          · subst e; rfl
        unfold wX_readByte_169 wX_readByte_212
        refine br_f (by decide) (H 3 a_messageCount a_nodeCount a_nodeTypes a_valueCount a_valueOwners a_values a_skippedCount _ a_chainNode a_chainEnd ⟨xr_O_r, xr_O_r, xr_O_r, xr_O_r, xr_O_r, xr_O_r, xr_O_r, qO, xr_O_r, xr_O_r, rfl⟩ (Or.inl ⟨by omega, by omega, rfl, q0, (3, c), hfrom (t + 1) B1 (by omega) hB _ ?_, rfl⟩))
        show pm_Rp B1 K R (t + 1) (pm_go B1 K R (t + 1) c h f q d w) (3, c)
        rw [h3e (t + 1) B1 (Nat.le_refl _) (fun _ _ => rfl)]
        exact Or.inr ⟨show (3 : Nat) ≠ 0 by omega, rfl⟩
      · unfold wX_readByte_169
        refine hmid _ (hsum B1 (d + 1)) (by omega) (fun g => ⟨g, p2, ?_⟩) (fun g => ?_) hstep
        · rcases p3 with ⟨e, a1, a2, a3⟩ | ⟨e, a1, a2, a3, a4, a5⟩ | ⟨e, a1, a2, a3, a4, a5⟩ | ⟨e, _⟩ | ⟨e, _⟩
          · exact Or.inl ⟨e, by omega, by omega, a3⟩
          · exact Or.inr (Or.inl ⟨e, by omega, by omega, a3, a4, a5⟩)
          · exact Or.inr (Or.inr (Or.inl ⟨e, by omega, by omega, a3, a4, a5⟩))
          · omega
          · omega
        · rcases p3 with ⟨e, a1, a2, a3⟩ | ⟨e, a1, a2, a3, a4, a5⟩ | ⟨e, a1, a2, a3, a4, a5⟩ | ⟨e, _⟩ | ⟨e, _⟩
          · have he : pm_end c = pm_lim c (pm_at c) := by unfold pm_end; exact if_pos a3
            subst e; exact pm_goT_e (by omega) (by omega)
          · have he : pm_end c = pm_lim c (pm_at c) := by unfold pm_end; exact if_pos a3
            subst e; exact pm_goL_e (by omega) (by omega)
          · subst e; exact pm_goV_e (by omega) (by omega)
          · omega
          · omega
end
