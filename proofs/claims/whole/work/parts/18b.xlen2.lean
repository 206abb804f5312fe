/-! S2: lengths that end -/
section
variable {f_frameAt f_frameLength f_frameSort f_frameFlags f_frameStream f_down f_entryCount f_most f_typeSeen f_lastSender f_sentLength : Int32} {a_payload a_life a_theyEnded a_weEnded a_finishing a_codes a_windowIn a_windowOut a_headers a_headerCount a_entries a_kinds a_repeats a_messageCount a_text a_nodeCount a_nodeTypes a_valueCount a_valueOwners a_values a_skippedCount a_reader a_chainNode a_chainEnd a_queue a_queueLength a_sent a_nodeSize a_nodePlace : Nat → Int32} {s : Nat} {K : Nat → Nat} {R : Nat → Bool} {L : Nat} {dep : Nat → Nat} {c : pm_C}
/-- a body is to come -/
def xr_bd (s : Nat) (x : Int32) (rd : Nat → Int32) : Nat → Int32 := upd (upd rd (11 * s + 3) 4) (11 * s + 6) x
/-- a row is to come -/
def xr_rw (s : Nat) (h : Int32) (e : Int32) (rd : Nat → Int32) : Nat → Int32 := upd (upd (xr_bN s h rd) (11 * s + 6) 4) (11 * s + 8) e
theorem xw_len {f t : Nat} {x : Int32} {post : Int32 → SX → Prop} (hs : s < 8) (I : pm_CI K R L dep c) (hK : cr_K a_kinds a_repeats K R) (hD : cr_XD K s a_nodeCount a_nodeTypes a_valueCount a_valueOwners a_values (pm_d c)) (hL : L ≤ 200)
    (hr : pm_row c = 0) (h2 : a_reader (11 * s + 2) = nI t) (h4 : a_reader (11 * s + 4) = x) (h7 : a_reader (11 * s + 7) = nI (if f = 0 then 0 else pm_fj c f))
    (h9 : a_reader (11 * s + 9) = nI (pm_pos c)) (hpt : pm_pos c ≤ t) (htl : t ≤ pm_lim c (pm_at c)) (h10 : a_reader (11 * s + 10) = nI (pm_at c))
    (hch : ∀ i, i ≤ pm_at c → a_chainNode (4 * s + i) = nI (pm_ins c i) ∧ a_chainEnd (4 * s + i) = nI (pm_lim c i))
    (hf : f ≠ 0 → f ≤ 15 ∧ K (pm_fj c f) ≠ 0)
    (H4 : x < 0 ∨ pm_lim c (pm_at c) < t + x.toNatClampNeg → post 14 (f_frameAt, f_frameLength, f_frameSort, f_frameFlags, f_frameStream, f_down, f_entryCount, f_most, f_typeSeen, f_lastSender, f_sentLength, a_payload, a_life, a_theyEnded, a_weEnded, a_finishing, a_codes, a_windowIn, a_windowOut, a_headers, a_headerCount, a_entries, a_kinds, a_repeats, a_messageCount, a_text, a_nodeCount, a_nodeTypes, a_valueCount, a_valueOwners, a_values, a_skippedCount, a_reader, a_chainNode, a_chainEnd, a_queue, a_queueLength, a_sent, a_nodeSize, a_nodePlace))
    (HS0 : f = 0 → x = 0 → post 0 (f_frameAt, f_frameLength, f_frameSort, f_frameFlags, f_frameStream, f_down, f_entryCount, f_most, f_typeSeen, f_lastSender, f_sentLength, a_payload, a_life, a_theyEnded, a_weEnded, a_finishing, a_codes, a_windowIn, a_windowOut, a_headers, a_headerCount, a_entries, a_kinds, a_repeats, a_messageCount, a_text, a_nodeCount, a_nodeTypes, a_valueCount, a_valueOwners, a_values, upd a_skippedCount s (a_skippedCount s + nI (t - pm_pos c)), xr_bE s (xr_bd s 0 a_reader), a_chainNode, a_chainEnd, a_queue, a_queueLength, a_sent, a_nodeSize, a_nodePlace))
    (HS1 : ∀ len, f = 0 → x = nI len → 1 ≤ len → t + len ≤ pm_lim c (pm_at c) → post 0 (f_frameAt, f_frameLength, f_frameSort, f_frameFlags, f_frameStream, f_down, f_entryCount, f_most, f_typeSeen, f_lastSender, f_sentLength, a_payload, a_life, a_theyEnded, a_weEnded, a_finishing, a_codes, a_windowIn, a_windowOut, a_headers, a_headerCount, a_entries, a_kinds, a_repeats, a_messageCount, a_text, a_nodeCount, a_nodeTypes, a_valueCount, a_valueOwners, a_values, a_skippedCount, xr_bd s (nI len) a_reader, a_chainNode, a_chainEnd, a_queue, a_queueLength, a_sent, a_nodeSize, a_nodePlace))
    (HB5 : ∀ len rd, f ≠ 0 → K (pm_fj c f) = 4 → pm_pl R (pm_d c) (pm_nd c) f = 48 → x = nI len → t + len ≤ pm_lim c (pm_at c) → rd (11 * s) = a_reader (11 * s) → xr_O 11 s a_reader rd → post 15 (f_frameAt, f_frameLength, f_frameSort, f_frameFlags, f_frameStream, f_down, f_entryCount, f_most, f_typeSeen, f_lastSender, f_sentLength, a_payload, a_life, a_theyEnded, a_weEnded, a_finishing, a_codes, a_windowIn, a_windowOut, a_headers, a_headerCount, a_entries, a_kinds, a_repeats, a_messageCount, a_text, a_nodeCount, a_nodeTypes, a_valueCount, a_valueOwners, a_values, a_skippedCount, rd, a_chainNode, a_chainEnd, a_queue, a_queueLength, a_sent, a_nodeSize, a_nodePlace))
    (HB0 : ∀ vc vo va, f ≠ 0 → K (pm_fj c f) = 4 → pm_pl R (pm_d c) (pm_nd c) f ≠ 48 → x = 0 → cr_XD K s a_nodeCount a_nodeTypes vc vo va (pm_kp R (pm_d c) (pm_nd c) f (nI 0) t) → xr_O 1 s a_valueCount vc → xr_O 48 s a_valueOwners vo → xr_O 48 s a_values va → post 0 (f_frameAt, f_frameLength, f_frameSort, f_frameFlags, f_frameStream, f_down, f_entryCount, f_most, f_typeSeen, f_lastSender, f_sentLength, a_payload, a_life, a_theyEnded, a_weEnded, a_finishing, a_codes, a_windowIn, a_windowOut, a_headers, a_headerCount, a_entries, a_kinds, a_repeats, a_messageCount, a_text, a_nodeCount, a_nodeTypes, vc, vo, va, a_skippedCount, xr_bE s (xr_bd s 0 a_reader), a_chainNode, a_chainEnd, a_queue, a_queueLength, a_sent, a_nodeSize, a_nodePlace))
    (HB1 : ∀ len vc vo va, f ≠ 0 → K (pm_fj c f) = 4 → pm_pl R (pm_d c) (pm_nd c) f ≠ 48 → x = nI len → 1 ≤ len → t + len ≤ pm_lim c (pm_at c) → cr_XD K s a_nodeCount a_nodeTypes vc vo va (pm_kp R (pm_d c) (pm_nd c) f (nI len) t) → xr_O 1 s a_valueCount vc → xr_O 48 s a_valueOwners vo → xr_O 48 s a_values va → post 0 (f_frameAt, f_frameLength, f_frameSort, f_frameFlags, f_frameStream, f_down, f_entryCount, f_most, f_typeSeen, f_lastSender, f_sentLength, a_payload, a_life, a_theyEnded, a_weEnded, a_finishing, a_codes, a_windowIn, a_windowOut, a_headers, a_headerCount, a_entries, a_kinds, a_repeats, a_messageCount, a_text, a_nodeCount, a_nodeTypes, vc, vo, va, a_skippedCount, xr_bd s (nI len) a_reader, a_chainNode, a_chainEnd, a_queue, a_queueLength, a_sent, a_nodeSize, a_nodePlace))
    (HP : ∀ len, f ≠ 0 → 4 < K (pm_fj c f) → x = nI len → t + len ≤ pm_lim c (pm_at c) → wpX_beginPart post (f_frameAt, f_frameLength, f_frameSort, f_frameFlags, f_frameStream, f_down, f_entryCount, f_most, f_typeSeen, f_lastSender, f_sentLength, a_payload, a_life, a_theyEnded, a_weEnded, a_finishing, a_codes, a_windowIn, a_windowOut, a_headers, a_headerCount, a_entries, a_kinds, a_repeats, a_messageCount, a_text, a_nodeCount, a_nodeTypes, a_valueCount, a_valueOwners, a_values, a_skippedCount, a_reader, a_chainNode, a_chainEnd, a_queue, a_queueLength, a_sent, a_nodeSize, a_nodePlace) (nI s) (nI (K (pm_fj c f) - 5)) (nI len))
    (HR0 : f ≠ 0 → K (pm_fj c f) ≤ 3 → x = 0 → post 0 (f_frameAt, f_frameLength, f_frameSort, f_frameFlags, f_frameStream, f_down, f_entryCount, f_most, f_typeSeen, f_lastSender, f_sentLength, a_payload, a_life, a_theyEnded, a_weEnded, a_finishing, a_codes, a_windowIn, a_windowOut, a_headers, a_headerCount, a_entries, a_kinds, a_repeats, a_messageCount, a_text, a_nodeCount, a_nodeTypes, a_valueCount, a_valueOwners, a_values, a_skippedCount, xr_bE s (xr_rw s (if K (pm_fj c f) = 3 then 3 else 2) (nI t) a_reader), a_chainNode, a_chainEnd, a_queue, a_queueLength, a_sent, a_nodeSize, a_nodePlace))
    (HR1 : ∀ len, f ≠ 0 → K (pm_fj c f) ≤ 3 → x = nI len → 1 ≤ len → t + len ≤ pm_lim c (pm_at c) → post 0 (f_frameAt, f_frameLength, f_frameSort, f_frameFlags, f_frameStream, f_down, f_entryCount, f_most, f_typeSeen, f_lastSender, f_sentLength, a_payload, a_life, a_theyEnded, a_weEnded, a_finishing, a_codes, a_windowIn, a_windowOut, a_headers, a_headerCount, a_entries, a_kinds, a_repeats, a_messageCount, a_text, a_nodeCount, a_nodeTypes, a_valueCount, a_valueOwners, a_values, a_skippedCount, xr_rw s (if K (pm_fj c f) = 3 then 3 else 2) (nI (t + len)) a_reader, a_chainNode, a_chainEnd, a_queue, a_queueLength, a_sent, a_nodeSize, a_nodePlace)) :
    wpX_endLength post (f_frameAt, f_frameLength, f_frameSort, f_frameFlags, f_frameStream, f_down, f_entryCount, f_most, f_typeSeen, f_lastSender, f_sentLength, a_payload, a_life, a_theyEnded, a_weEnded, a_finishing, a_codes, a_windowIn, a_windowOut, a_headers, a_headerCount, a_entries, a_kinds, a_repeats, a_messageCount, a_text, a_nodeCount, a_nodeTypes, a_valueCount, a_valueOwners, a_values, a_skippedCount, a_reader, a_chainNode, a_chainEnd, a_queue, a_queueLength, a_sent, a_nodeSize, a_nodePlace) (nI s) := by
  have h3 := I.2.1
  have hin := I.2.2.2.2.1 (pm_at c) (Nat.le_refl _)
  have hnd : pm_nd c < pm_nn (pm_d c) := hin.1
  have hnn := I.1.2.1
  have hty := (I.1.2.2.2.2.1 _ hnd).1
  have hll := pm_lim_le I (pm_at c) (Nat.le_refl _)
  have i2 := xr_ix (s := s) (k := 2) hs (by omega)
  have i3 := xr_ix (s := s) (k := 3) hs (by omega)
  have i4 := xr_ix (s := s) (k := 4) hs (by omega)
  have i6 := xr_ix (s := s) (k := 6) hs (by omega)
  have i7 := xr_ix (s := s) (k := 7) hs (by omega)
  have i8 := xr_ix (s := s) (k := 8) hs (by omega)
  have i10 := xr_ix (s := s) (k := 10) hs (by omega)
  have e2 : a_reader (nI (11 * s) + 2).toNatClampNeg = nI t := (congrArg a_reader i2.2.2).trans h2
  have e4 : a_reader (nI (11 * s) + 4).toNatClampNeg = x := (congrArg a_reader i4.2.2).trans h4
  have e7 : a_reader (nI (11 * s) + 7).toNatClampNeg = nI (if f = 0 then 0 else pm_fj c f) := (congrArg a_reader i7.2.2).trans h7
  have e10 : a_reader (nI (11 * s) + 10).toNatClampNeg = nI (pm_at c) := (congrArg a_reader i10.2.2).trans h10
  obtain ⟨c4, c5⟩ := xr_c4 (s := s) (a := pm_at c) hs h3
  have hj : f ≠ 0 → 1 ≤ pm_fj c f ∧ pm_fj c f < 64 := by
    intro y
    have := (hf y).1
    show 1 ≤ 16 * pm_nt (pm_d c) (pm_nd c) + f ∧ 16 * pm_nt (pm_d c) (pm_nd c) + f < 64
    omega
  have hbd : ∀ (y : Int32) k, xr_bd s y a_reader (11 * s + k) = if k = 6 then y else if k = 3 then 4 else a_reader (11 * s + k) := by
    intro y k
    unfold xr_bd
    rw [xr_u, xr_u]
  unfold wpX_endLength
  dsimp only
  refine nm_r i4.1 ⟨i4.2.1, nm_r e4 ⟨i2.2.1, nm_r e2 ?_⟩⟩
  refine br_c (fun y => H4 (Or.inl y)) (fun y => ⟨i10.2.1, ?_⟩)
  obtain ⟨len, hlen, rfl⟩ := nI_of y
  rw [nI_clamp hlen] at H4
  rw [e10, c5, (hch _ (Nat.le_refl _)).2, e7]
  refine ⟨c4, pk_le len (pm_lim c (pm_at c) - t) (fun g => ⟨i7.2.1, ?_⟩) (fun g => H4 (Or.inr (by omega))) rfl (pk_sub htl)⟩
  -- a body
  have h117 : ∀ (z0 : Int32), wX_endLength_178 post (nI s) (nI len) (nI t) z0 f_frameAt f_frameLength f_frameSort f_frameFlags f_frameStream f_down f_entryCount f_most f_typeSeen f_lastSender f_sentLength a_payload a_life a_theyEnded a_weEnded a_finishing a_codes a_windowIn a_windowOut a_headers a_headerCount a_entries a_kinds a_repeats a_messageCount a_text a_nodeCount a_nodeTypes a_valueCount a_valueOwners a_values a_skippedCount (xr_bd s (nI len) a_reader) a_chainNode a_chainEnd a_queue a_queueLength a_sent a_nodeSize a_nodePlace → wX_endLength_117 post (nI s) (nI (11 * s)) (nI len) (nI t) z0 f_frameAt f_frameLength f_frameSort f_frameFlags f_frameStream f_down f_entryCount f_most f_typeSeen f_lastSender f_sentLength a_payload a_life a_theyEnded a_weEnded a_finishing a_codes a_windowIn a_windowOut a_headers a_headerCount a_entries a_kinds a_repeats a_messageCount a_text a_nodeCount a_nodeTypes a_valueCount a_valueOwners a_values a_skippedCount a_reader a_chainNode a_chainEnd a_queue a_queueLength a_sent a_nodeSize a_nodePlace := by
    intro z0 H
    unfold wX_endLength_117
    refine ⟨i3.2.1, nm_e ⟨i6.2.1, nm_r ?_ H⟩⟩
    unfold xr_bd
    exact (congrArg (fun j => upd _ j (nI len)) i6.2.2).trans (congrArg (fun g => upd g (11 * s + 6) (nI len)) (congrArg (fun j => upd a_reader j 4) i3.2.2))
  by_cases hf0 : f = 0
  · rw [if_pos hf0]
    refine br_t rfl ?_
    unfold wX_endLength_86
    refine br_t (by decide) (br_t rfl (h117 _ ?_))
    unfold wX_endLength_178
    refine br_f (by decide) ?_
    unfold wX_endLength_201
    refine br_t rfl (pk_eq len 0 (fun y0 => ?_) (fun y0 => HS1 len hf0 rfl (by omega) (by omega)))
    subst y0
    refine xw_eE (f := 0) (t := t) (p := pm_pos c) hs (by rw [hbd, if_neg (by omega), if_neg (by omega), h7, if_pos hf0]) (by omega) (by rw [hbd, if_neg (by omega), if_neg (by omega)]; exact h2) (fun _ => ⟨by rw [hbd, if_neg (by omega), if_neg (by omega)]; exact h9, hpt⟩) ?_
    rw [if_pos rfl]
    exact HS0 hf0 rfl
  · rw [if_neg hf0]
    obtain ⟨j1, j2⟩ := hj hf0
    obtain ⟨f1, f2⟩ := hf hf0
    refine br_f (fun y => ?_) ⟨i7.2.1, vp_in_nI j2 (by omega), ?_⟩
    · have := (nI_eq (a := pm_fj c f) (b := 0) (by omega) (by omega)).mp y
      omega
    rw [nI_clamp (show pm_fj c f < 2 ^ 31 by omega), hK.2.1 _ j2]
    have hk8 := hK.1 (pm_fj c f)
    have yk := xr_k2 _ hk8
    unfold wX_endLength_86
    refine br_c (fun y4 => ?_) (fun y4 => ?_)
    · have hk4 := yk.2.2.2.2.2.1.mp y4
      refine br_f (fun w => f2 (yk.1.mp w)) (br_c (fun y3 => ?_) (fun y3 => ?_))
      · -- bytes
        have hk := yk.2.2.2.2.1.mp y3
        refine h117 _ ?_
        unfold wX_endLength_178
        refine br_t y3 ?_
        have hxv : nI t * 256 + nI len = nI (256 * t) + nI len := by
          rw [show (256 : Int32) = nI 256 from rfl, pk_mul, Nat.mul_comm]
        refine xw_keep (a_reader := xr_bd s (nI len) a_reader) (a := pm_nd c) (n := f) (b := pm_at c) (st := t) (v := nI len) hs I.1 hK hD hnd (by omega) f1 h3 (by rw [hbd, if_neg (by omega), if_neg (by omega), h7, if_neg hf0]; rfl) (by rw [hbd, if_neg (by omega), if_neg (by omega)]; exact h10) (hch _ (Nat.le_refl _)).1 (by rw [if_pos (show K (16 * pm_nt (pm_d c) (pm_nd c) + f) = 4 from hk), hxv]) (fun h48 => ?_) (fun vc vo va h48 g1 g2 g3 g4 => ?_)
        · unfold wX_endLength_201
          refine br_f (by decide) (HB5 len _ hf0 hk h48 rfl (by omega) ?_ ?_)
          · have := hbd (nI len) 0
            rw [if_neg (by omega), if_neg (by omega)] at this
            exact this
          · intro j hj'
            unfold xr_bd
            rw [xr_o (by omega) hj', xr_o (by omega) hj']
        · unfold wX_endLength_201
          refine br_t rfl (pk_eq len 0 (fun y0 => ?_) (fun y0 => HB1 len vc vo va hf0 hk h48 rfl (by omega) (by omega) g1 g2 g3 g4))
          subst y0
          refine xw_eE (f := pm_fj c f) (t := t) (p := 0) hs (by rw [hbd, if_neg (by omega), if_neg (by omega), h7, if_neg hf0]) j2 (by rw [hbd, if_neg (by omega), if_neg (by omega)]; exact h2) (fun z => absurd z (by omega)) ?_
          rw [if_neg (by omega)]
          exact HB0 vc vo va hf0 hk h48 rfl g1 g2 g3 g4
      · have hk3 : K (pm_fj c f) ≤ 3 := by
          have : K (pm_fj c f) ≠ 4 := fun w => y3 (yk.2.2.2.2.1.mpr w)
          omega
        have h152 : ∀ h' : Int32, h' = (if K (pm_fj c f) = 3 then 3 else 2) → wX_endLength_152 post (nI s) (nI (11 * s)) (nI len) (nI t) (nI (K (pm_fj c f)) + (-1)) h' (nI s) f_frameAt f_frameLength f_frameSort f_frameFlags f_frameStream f_down f_entryCount f_most f_typeSeen f_lastSender f_sentLength a_payload a_life a_theyEnded a_weEnded a_finishing a_codes a_windowIn a_windowOut a_headers a_headerCount a_entries a_kinds a_repeats a_messageCount a_text a_nodeCount a_nodeTypes a_valueCount a_valueOwners a_values a_skippedCount a_reader a_chainNode a_chainEnd a_queue a_queueLength a_sent a_nodeSize a_nodePlace := by
          intro h' hh
          unfold wX_endLength_152
          refine xw_bN hs ⟨i6.2.1, nm_r (e' := upd (xr_bN s h' a_reader) (11 * s + 6) 4) (congrArg (fun j => upd (xr_bN s h' a_reader) j 4) i6.2.2) ⟨i8.2.1, nm_r (e' := xr_rw s h' (nI (t + len)) a_reader) ?_ ?_⟩⟩
          · rw [nI_add]
            exact congrArg (fun j => upd (upd (xr_bN s h' a_reader) (11 * s + 6) 4) j (nI (t + len))) i8.2.2
          · have hrw : ∀ k, k ≠ 8 → k ≠ 6 → k ≠ 5 → k ≠ 4 → k ≠ 3 → xr_rw s h' (nI (t + len)) a_reader (11 * s + k) = a_reader (11 * s + k) := by
              intro k n8 n6 n5 n4 n3
              unfold xr_rw
              rw [xr_u, if_neg n8, xr_u, if_neg n6, xr_bN_k, if_neg (fun w => w.elim n5 n4), if_neg n3]
            unfold wX_endLength_178
            refine br_f y3 ?_
            unfold wX_endLength_201
            refine br_t rfl (pk_eq len 0 (fun y0 => ?_) (fun y0 => ?_))
            · subst y0
              refine xw_eE (f := pm_fj c f) (t := t) (p := 0) hs (by rw [hrw 7 (by omega) (by omega) (by omega) (by omega) (by omega), h7, if_neg hf0]) j2 (by rw [hrw 2 (by omega) (by omega) (by omega) (by omega) (by omega)]; exact h2) (fun z => absurd z (by omega)) ?_
              rw [if_neg (by omega), hh]
              exact HR0 hf0 hk3 rfl
            · rw [hh]
              exact HR1 len hf0 hk3 rfl (by omega) (by omega)
        refine br_c (fun w => h152 3 ?_) (fun w => h152 2 ?_)
        · rw [if_pos (yk.2.2.2.1.mp w)]
        · rw [if_neg (fun z => w (yk.2.2.2.1.mpr z))]
    · have hk5 : 4 < K (pm_fj c f) := by
        rcases Nat.lt_or_ge 4 (K (pm_fj c f)) with w | w
        · exact w
        · exact absurd (yk.2.2.2.2.2.1.mpr w) y4
      rw [yk.2.2.2.2.2.2 hk5]
      exact HP len hf0 hk5 rfl (by omega)
end
