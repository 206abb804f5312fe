/-! S11: the bytes before a message -/
section
variable {f_frameAt f_frameLength f_frameSort f_frameFlags f_frameStream f_down f_entryCount f_most f_typeSeen f_lastSender f_sentLength : Int32} {a_payload a_life a_theyEnded a_weEnded a_finishing a_codes a_windowIn a_windowOut a_headers a_headerCount a_entries a_kinds a_repeats a_messageCount a_text a_nodeCount a_nodeTypes a_valueCount a_valueOwners a_values a_skippedCount a_reader a_chainNode a_chainEnd a_queue a_queueLength a_sent a_nodeSize a_nodePlace : Nat → Int32} {B : Nat → Nat} {K : Nat → Nat} {R : Nat → Bool} {L y b s x : Nat}
theorem cr_from0 : cr_from K R y L 0 B (fun _ _ => (0, cr_0 y L)) := by
  intro T B' _ _ r hr
  rcases hr with ⟨_, w⟩ | ⟨w, _⟩
  · exact w
  · exact absurd rfl w
theorem xp_1 {post : Int32 → SX → Prop} (hs : s < 8) (hb : b < 256) (h0 : a_reader (11 * s) = nI 0) (H7 : b ≠ 0 → post 7 (f_frameAt, f_frameLength, f_frameSort, f_frameFlags, f_frameStream, f_down, f_entryCount, f_most, f_typeSeen, f_lastSender, f_sentLength, a_payload, a_life, a_theyEnded, a_weEnded, a_finishing, a_codes, a_windowIn, a_windowOut, a_headers, a_headerCount, a_entries, a_kinds, a_repeats, a_messageCount, a_text, a_nodeCount, a_nodeTypes, a_valueCount, a_valueOwners, a_values, a_skippedCount, upd a_reader (11 * s) (nI 1), a_chainNode, a_chainEnd, a_queue, a_queueLength, a_sent, a_nodeSize, a_nodePlace)) (H0 : b = 0 → post 0 (f_frameAt, f_frameLength, f_frameSort, f_frameFlags, f_frameStream, f_down, f_entryCount, f_most, f_typeSeen, f_lastSender, f_sentLength, a_payload, a_life, a_theyEnded, a_weEnded, a_finishing, a_codes, a_windowIn, a_windowOut, a_headers, a_headerCount, a_entries, a_kinds, a_repeats, a_messageCount, a_text, a_nodeCount, a_nodeTypes, a_valueCount, a_valueOwners, a_values, a_skippedCount, upd a_reader (11 * s) (nI 1), a_chainNode, a_chainEnd, a_queue, a_queueLength, a_sent, a_nodeSize, a_nodePlace)) :
    wpX_readPrefix post (f_frameAt, f_frameLength, f_frameSort, f_frameFlags, f_frameStream, f_down, f_entryCount, f_most, f_typeSeen, f_lastSender, f_sentLength, a_payload, a_life, a_theyEnded, a_weEnded, a_finishing, a_codes, a_windowIn, a_windowOut, a_headers, a_headerCount, a_entries, a_kinds, a_repeats, a_messageCount, a_text, a_nodeCount, a_nodeTypes, a_valueCount, a_valueOwners, a_values, a_skippedCount, a_reader, a_chainNode, a_chainEnd, a_queue, a_queueLength, a_sent, a_nodeSize, a_nodePlace) (nI s) (nI b) := by
  have i0 := xr_ix (s := s) (k := 0) hs (by omega)
  have c0 : (nI (11 * s) + 0).toNatClampNeg = 11 * s := i0.2.2
  unfold wpX_readPrefix
  dsimp only
  refine nm_r i0.1 ⟨i0.2.1, i0.2.1, nm_r (e' := upd a_reader (11 * s) (nI 1)) (by rw [c0, h0]; rfl) ⟨i0.2.1, ?_⟩⟩
  rw [c0, pm_upd_eq, if_pos rfl]
  exact br_t rfl (pk_eq b 0 (fun z => H0 z) (fun z => H7 z))
theorem xp_2 {post : Int32 → SX → Prop} (hs : s < 8) (hb : b < 256) (h0 : a_reader (11 * s) = nI 1) (H0 : post 0 (f_frameAt, f_frameLength, f_frameSort, f_frameFlags, f_frameStream, f_down, f_entryCount, f_most, f_typeSeen, f_lastSender, f_sentLength, a_payload, a_life, a_theyEnded, a_weEnded, a_finishing, a_codes, a_windowIn, a_windowOut, a_headers, a_headerCount, a_entries, a_kinds, a_repeats, a_messageCount, a_text, a_nodeCount, a_nodeTypes, a_valueCount, a_valueOwners, a_values, a_skippedCount, upd (upd a_reader (11 * s) (nI 2)) (11 * s + 1) (nI (256 * b)), a_chainNode, a_chainEnd, a_queue, a_queueLength, a_sent, a_nodeSize, a_nodePlace)) :
    wpX_readPrefix post (f_frameAt, f_frameLength, f_frameSort, f_frameFlags, f_frameStream, f_down, f_entryCount, f_most, f_typeSeen, f_lastSender, f_sentLength, a_payload, a_life, a_theyEnded, a_weEnded, a_finishing, a_codes, a_windowIn, a_windowOut, a_headers, a_headerCount, a_entries, a_kinds, a_repeats, a_messageCount, a_text, a_nodeCount, a_nodeTypes, a_valueCount, a_valueOwners, a_values, a_skippedCount, a_reader, a_chainNode, a_chainEnd, a_queue, a_queueLength, a_sent, a_nodeSize, a_nodePlace) (nI s) (nI b) := by
  have i0 := xr_ix (s := s) (k := 0) hs (by omega)
  have i1 := xr_ix (s := s) (k := 1) hs (by omega)
  have c0 : (nI (11 * s) + 0).toNatClampNeg = 11 * s := i0.2.2
  have c1 : (nI (11 * s) + 1).toNatClampNeg = 11 * s + 1 := i1.2.2
  unfold wpX_readPrefix
  dsimp only
  refine nm_r i0.1 ⟨i0.2.1, i0.2.1, nm_r (e' := upd a_reader (11 * s) (nI 2)) (by rw [c0, h0]; rfl) ⟨i0.2.1, ?_⟩⟩
  rw [c0, pm_upd_eq, if_pos rfl]
  refine br_f (by decide) ⟨i0.2.1, br_t rfl ⟨i1.2.1, nm_r ?_ H0⟩⟩
  rw [c1, show (256 : Int32) = nI 256 from rfl, pk_mul, Nat.mul_comm b 256]
theorem xp_3 {post : Int32 → SX → Prop} (hs : s < 8) (hb : b < 256) (hx : x < 256) (hy : y < 4) (h0 : a_reader (11 * s) = nI 2) (h1 : a_reader (11 * s + 1) = nI (256 * x)) (hL : L = 256 * x + b) (hty : a_nodeTypes (16 * s) = nI y)
    (H8 : 200 < L → post 8 (f_frameAt, f_frameLength, f_frameSort, f_frameFlags, f_frameStream, f_down, f_entryCount, f_most, f_typeSeen, f_lastSender, f_sentLength, a_payload, a_life, a_theyEnded, a_weEnded, a_finishing, a_codes, a_windowIn, a_windowOut, a_headers, a_headerCount, a_entries, a_kinds, a_repeats, a_messageCount, a_text, a_nodeCount, a_nodeTypes, a_valueCount, a_valueOwners, a_values, a_skippedCount, upd (upd a_reader (11 * s) (nI 3)) (11 * s + 1) (nI L), a_chainNode, a_chainEnd, a_queue, a_queueLength, a_sent, a_nodeSize, a_nodePlace))
    (H0 : L ≤ 200 → ∀ mc' nc' vc' sk' rd' cn' ce', xr_O 1 s a_messageCount mc' → xr_O 1 s a_nodeCount nc' → xr_O 1 s a_valueCount vc' → xr_O 1 s a_skippedCount sk' → xr_O 11 s a_reader rd' → xr_O 4 s a_chainNode cn' → xr_O 4 s a_chainEnd ce' →
      xr_sp K R s y L 0 B a_messageCount (upd (upd a_reader (11 * s) (nI 3)) (11 * s + 1) (nI L)) 0 mc' nc' a_nodeTypes vc' a_valueOwners a_values sk' rd' cn' ce' →
      post 0 (f_frameAt, f_frameLength, f_frameSort, f_frameFlags, f_frameStream, f_down, f_entryCount, f_most, f_typeSeen, f_lastSender, f_sentLength, a_payload, a_life, a_theyEnded, a_weEnded, a_finishing, a_codes, a_windowIn, a_windowOut, a_headers, a_headerCount, a_entries, a_kinds, a_repeats, mc', a_text, nc', a_nodeTypes, vc', a_valueOwners, a_values, sk', rd', cn', ce', a_queue, a_queueLength, a_sent, a_nodeSize, a_nodePlace)) :
    wpX_readPrefix post (f_frameAt, f_frameLength, f_frameSort, f_frameFlags, f_frameStream, f_down, f_entryCount, f_most, f_typeSeen, f_lastSender, f_sentLength, a_payload, a_life, a_theyEnded, a_weEnded, a_finishing, a_codes, a_windowIn, a_windowOut, a_headers, a_headerCount, a_entries, a_kinds, a_repeats, a_messageCount, a_text, a_nodeCount, a_nodeTypes, a_valueCount, a_valueOwners, a_values, a_skippedCount, a_reader, a_chainNode, a_chainEnd, a_queue, a_queueLength, a_sent, a_nodeSize, a_nodePlace) (nI s) (nI b) := by
  have i0 := xr_ix (s := s) (k := 0) hs (by omega)
  have i1 := xr_ix (s := s) (k := 1) hs (by omega)
  have i2 := xr_ix (s := s) (k := 2) hs (by omega)
  have i10 := xr_ix (s := s) (k := 10) hs (by omega)
  have c0 : (nI (11 * s) + 0).toNatClampNeg = 11 * s := i0.2.2
  have c1 : (nI (11 * s) + 1).toNatClampNeg = 11 * s + 1 := i1.2.2
  have c2 : (nI (11 * s) + 2).toNatClampNeg = 11 * s + 2 := i2.2.2
  have c10 : (nI (11 * s) + 10).toNatClampNeg = 11 * s + 10 := i10.2.2
  obtain ⟨g1, g2⟩ := xr_c8 hs
  have c4 := xr_c4 (s := s) (a := 0) hs (by omega)
  have e4 : nI s * 4 = nI (4 * s) := by
    rw [show (4 : Int32) = nI 4 from rfl, pk_mul, Nat.mul_comm]
  have in4 : vp_in (nI (4 * s)) 32 := vp_in_nI (by omega) (by omega)
  have cl4 : (nI (4 * s)).toNatClampNeg = 4 * s := nI_clamp (by omega)
  have hu0 : ∀ (f : Nat → Int32) (v : Int32) k, k ≠ 0 → upd f (11 * s) v (11 * s + k) = f (11 * s + k) := by
    intro f v k hk
    rw [pm_upd_eq, if_neg (by omega)]
  unfold wpX_readPrefix
  dsimp only
  refine nm_r i0.1 ⟨i0.2.1, i0.2.1, nm_r (e' := upd a_reader (11 * s) (nI 3)) (by rw [c0, h0]; rfl) ⟨i0.2.1, ?_⟩⟩
  rw [c0, pm_upd_eq, if_pos rfl]
  refine br_f (by decide) ⟨i0.2.1, br_f (by decide) ⟨i1.2.1, i1.2.1, nm_r (e' := upd (upd a_reader (11 * s) (nI 3)) (11 * s + 1) (nI L)) (by rw [c1, hu0 _ _ 1 (by omega), h1, nI_add, hL]) ⟨i1.2.1, ?_⟩⟩⟩
  rw [c1, xr_u, if_pos rfl]
  generalize hrd : upd (upd a_reader (11 * s) (nI 3)) (11 * s + 1) (nI L) = rd1 at *
  have rd11 : rd1 (11 * s + 1) = nI L := by rw [← hrd, xr_u, if_pos rfl]
  have rdO : xr_O 11 s a_reader rd1 := by
    rw [← hrd]; exact xr_O_t (xr_O_u (i := 0) (by omega)) (xr_O_u (by omega))
  refine pk_le L 200 (fun z => ?_) (fun z => H8 z)
  unfold wpX_beginMessage
  refine nm_r i0.1 ⟨i2.2.1, nm_r (e' := upd rd1 (11 * s + 2) (nI 0)) (congrArg (fun j => upd rd1 j 0) c2) ⟨i10.2.1, nm_r (e' := upd (upd rd1 (11 * s + 2) (nI 0)) (11 * s + 10) (nI 0)) (congrArg (fun j => upd (upd rd1 (11 * s + 2) (nI 0)) j 0) c10) ?_⟩⟩
  rw [e4, cl4, c1, g2]
  refine ⟨in4, nm_e ⟨i1.2.1, in4, nm_r (e' := upd a_chainEnd (4 * s) (nI L)) (by rw [xr_u, if_neg (by omega), xr_u, if_neg (by omega), rd11]) ⟨g1, nm_e ⟨g1, nm_e ⟨g1, nm_e (xw_bE hs ?_)⟩⟩⟩⟩⟩
  have hrdk : ∀ k, k ≠ 9 → k ≠ 8 → k ≠ 5 → k ≠ 4 → k ≠ 3 → xr_bE s (upd (upd rd1 (11 * s + 2) (nI 0)) (11 * s + 10) (nI 0)) (11 * s + k) = if k = 10 then nI 0 else if k = 2 then nI 0 else rd1 (11 * s + k) := by
    intro k n9 n8 n5 n4 n3
    rw [xr_bE_k, if_neg n9, if_neg (fun w => w.elim n8 (fun w => w.elim n5 (fun w => w.elim n4 n3))), xr_u, xr_u]
  have hchE : ∀ i, i ≤ pm_at (cr_0 y L) → upd a_chainNode (4 * s) 0 (4 * s + i) = nI (pm_ins (cr_0 y L) i) ∧ upd a_chainEnd (4 * s) (nI L) (4 * s + i) = nI (pm_lim (cr_0 y L) i) := by
    intro i hi
    have : i = 0 := by
      have : i ≤ 0 := hi
      omega
    subst this
    exact ⟨by rw [pm_upd_eq, if_pos (show 4 * s + 0 = 4 * s by omega)]; rfl, by rw [pm_upd_eq, if_pos (show 4 * s + 0 = 4 * s by omega)]; rfl⟩
  have hF : xr_fresh s 0 (cr_0 y L) (xr_bE s (upd (upd rd1 (11 * s + 2) (nI 0)) (11 * s + 10) (nI 0))) (upd a_chainNode (4 * s) 0) (upd a_chainEnd (4 * s) (nI L)) := by
    refine xb_fresh (c := cr_0 y L) rfl rfl rfl ?_ ?_ hchE
    · rw [xr_u, if_neg (by omega), xr_u, if_pos rfl]
    · rw [xr_u, if_pos rfl]; rfl
  have hXD : cr_XD K s (upd a_nodeCount s 1) a_nodeTypes (upd a_valueCount s 0) a_valueOwners a_values (pm_d (cr_0 y L)) := by
    refine ⟨by rw [pm_upd_eq, if_pos rfl]; rfl, by rw [pm_upd_eq, if_pos rfl]; rfl, fun i hi => ?_, fun j hj => absurd hj (Nat.not_lt_zero _)⟩
    have : i = 0 := by
      have : i < 1 := hi
      omega
    subst this
    exact hty
  have hsk : upd a_skippedCount s 0 s = nI (pm_sk (cr_0 y L)) := by rw [pm_upd_eq, if_pos rfl]; rfl
  have r00 : xr_bE s (upd (upd rd1 (11 * s + 2) (nI 0)) (11 * s + 10) (nI 0)) (11 * s) = rd1 (11 * s) := by
    rw [xb_0, xb_u0 (by omega), xb_u0 (by omega)]
  have rOO : xr_O 11 s a_reader (xr_bE s (upd (upd rd1 (11 * s + 2) (nI 0)) (11 * s + 10) (nI 0))) := xr_O_t rdO (xr_O_t (xr_O_u (by omega)) (xr_O_t (xr_O_u (by omega)) (fun j hj => xr_bE_o hj)))
  have o4 : ∀ (f : Nat → Int32) (v : Int32), xr_O 4 s f (upd f (4 * s) v) := fun f v => xr_O_u (i := 0) (by omega)
  obtain ⟨f2, f3, f4, f5, f8, f9, f10, fch⟩ := hF
  dsimp only
  refine xw_el (K := K) (R := R) (L := L) (dep := fun _ => 0) (c := cr_0 y L) (t := 0) hs (cr_0_I hy) z rfl rfl f2 f3 f5 f8 f10 (fun i hi => (hchE i hi).2) (fun w => ?_) (fun w => ?_)
  · exact H0 z _ _ _ _ _ _ _ xr_O_r xr_O_1 xr_O_1 xr_O_1 (xr_O_t rOO (xr_O_u (by omega))) (o4 _ _) (o4 _ _) (xt_f1 (c := cr_0 y L) (cr_0_I hy) rfl rfl ⟨f2, f3, f4, f5, f8, f9, f10, fch⟩ hXD hsk cr_from0 r00 w)
  · exact H0 z _ _ _ _ _ _ _ xr_O_1 xr_O_1 xr_O_1 xr_O_1 (xr_O_t rOO (xr_O_t (xr_O_u (by omega)) (xr_O_u (i := 0) (by omega)))) (o4 _ _) (o4 _ _) (xt_f2 (c := cr_0 y L) (cr_0_I hy) rfl rfl hXD hsk cr_from0 w)
end
