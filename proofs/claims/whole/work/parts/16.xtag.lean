/-! Q: tags and numbers -/
section
theorem xr_k2 : ∀ k, k ≤ 8 → (nI k + (-1) = -1 ↔ k = 0) ∧ (nI k + (-1) = 0 ↔ k = 1) ∧ (nI k + (-1) = 1 ↔ k = 2) ∧ (nI k + (-1) = 2 ↔ k = 3) ∧ (nI k + (-1) = 3 ↔ k = 4) ∧ (nI k + (-1) < 4 ↔ k ≤ 4) ∧ (4 < k → nI k + (-1) - 4 = nI (k - 5)) := by
  decide +kernel
variable {f_frameAt f_frameLength f_frameSort f_frameFlags f_frameStream f_down f_entryCount f_most f_typeSeen f_lastSender f_sentLength : Int32} {a_payload a_life a_theyEnded a_weEnded a_finishing a_codes a_windowIn a_windowOut a_headers a_headerCount a_entries a_kinds a_repeats a_messageCount a_text a_nodeCount a_nodeTypes a_valueCount a_valueOwners a_values a_skippedCount a_reader a_chainNode a_chainEnd a_queue a_queueLength a_sent a_nodeSize a_nodePlace : Nat → Int32} {s : Nat} {K : Nat → Nat} {R : Nat → Bool} {L : Nat} {dep : Nat → Nat} {c : pm_C} {D : pm_D}
theorem xw_fo {a q : Nat} {post : Int32 → Prop} (hs : s < 8) (hD : cr_XD K s a_nodeCount a_nodeTypes a_valueCount a_valueOwners a_values D) (ha : a < pm_nn D) (ha' : a < 16)
    (H : post (nI (16 * pm_nt D a + q))) : wpX_fieldOf post (f_frameAt, f_frameLength, f_frameSort, f_frameFlags, f_frameStream, f_down, f_entryCount, f_most, f_typeSeen, f_lastSender, f_sentLength, a_payload, a_life, a_theyEnded, a_weEnded, a_finishing, a_codes, a_windowIn, a_windowOut, a_headers, a_headerCount, a_entries, a_kinds, a_repeats, a_messageCount, a_text, a_nodeCount, a_nodeTypes, a_valueCount, a_valueOwners, a_values, a_skippedCount, a_reader, a_chainNode, a_chainEnd, a_queue, a_queueLength, a_sent, a_nodeSize, a_nodePlace) (nI s) (nI a) (nI q) := by
  unfold wpX_fieldOf
  obtain ⟨c1, c2⟩ := xr_c16 (s := s) (a := a) hs ha'
  have e : nI (pm_nt D a) * 16 + nI q = nI (16 * pm_nt D a + q) := by
    rw [show (16 : Int32) = nI 16 from rfl, pk_mul, nI_add, Nat.mul_comm]
  dsimp only
  rw [c2, hD.2.2.1 a ha, e]
  exact ⟨c1, H⟩
theorem xw_wire {k : Nat} {post : Int32 → Prop} (hk : k ≤ 8) (hk0 : k ≠ 0) (H : post (nI (pm_w k))) : wpX_wireOf post (f_frameAt, f_frameLength, f_frameSort, f_frameFlags, f_frameStream, f_down, f_entryCount, f_most, f_typeSeen, f_lastSender, f_sentLength, a_payload, a_life, a_theyEnded, a_weEnded, a_finishing, a_codes, a_windowIn, a_windowOut, a_headers, a_headerCount, a_entries, a_kinds, a_repeats, a_messageCount, a_text, a_nodeCount, a_nodeTypes, a_valueCount, a_valueOwners, a_values, a_skippedCount, a_reader, a_chainNode, a_chainEnd, a_queue, a_queueLength, a_sent, a_nodeSize, a_nodePlace) (nI k + (-1)) := by
  have yk := xr_k2 k hk
  unfold wpX_wireOf
  unfold pm_w at H
  refine br_c (fun y => ?_) (fun y => br_c (fun y2 => ?_) (fun y2 => br_c (fun y3 => ?_) (fun y3 => ?_)))
  · have := yk.2.1.mp y
    rw [if_pos (by omega)] at H; exact H
  · have := yk.2.2.1.mp y2
    rw [if_pos (by omega)] at H; exact H
  · have := yk.2.2.2.1.mp y3
    rw [if_neg (by omega), if_pos this] at H; exact H
  · have h1 : k ≠ 1 := fun w => y (yk.2.1.mpr w)
    have h2 : k ≠ 2 := fun w => y2 (yk.2.2.1.mpr w)
    have h3 : k ≠ 3 := fun w => y3 (yk.2.2.2.1.mpr w)
    rw [if_neg (by omega), if_neg h3] at H; exact H
theorem xw_known {n w : Nat} {post : Int32 → Prop} (hs : s < 8) (I : pm_CI K R L dep c) (hK : cr_K a_kinds a_repeats K R) (hD : cr_XD K s a_nodeCount a_nodeTypes a_valueCount a_valueOwners a_values (pm_d c)) (hn1 : 1 ≤ n) (hn : n < 2 ^ 30) (hw : w < 8)
    (h10 : a_reader (11 * s + 10) = nI (pm_at c)) (hcn : a_chainNode (4 * s + pm_at c) = nI (pm_nd c))
    (H : post (nI (if pm_fl K R c n w = 0 then 0 else pm_fj c (pm_fl K R c n w)))) : wpX_knownField post (f_frameAt, f_frameLength, f_frameSort, f_frameFlags, f_frameStream, f_down, f_entryCount, f_most, f_typeSeen, f_lastSender, f_sentLength, a_payload, a_life, a_theyEnded, a_weEnded, a_finishing, a_codes, a_windowIn, a_windowOut, a_headers, a_headerCount, a_entries, a_kinds, a_repeats, a_messageCount, a_text, a_nodeCount, a_nodeTypes, a_valueCount, a_valueOwners, a_values, a_skippedCount, a_reader, a_chainNode, a_chainEnd, a_queue, a_queueLength, a_sent, a_nodeSize, a_nodePlace) (nI s) (nI n) (nI w) := by
  have h3 := I.2.1
  have hin := I.2.2.2.2.1 (pm_at c) (Nat.le_refl _)
  have hnd : pm_nd c < pm_nn (pm_d c) := hin.1
  have hnn := I.1.2.1
  have hty := (I.1.2.2.2.2.1 _ hnd).1
  have i10 := xr_ix (s := s) (k := 10) hs (by omega)
  have e10 : a_reader (nI (11 * s) + 10).toNatClampNeg = nI (pm_at c) := (congrArg a_reader i10.2.2).trans h10
  obtain ⟨c4, c5⟩ := xr_c4 (s := s) (a := pm_at c) hs h3
  unfold wpX_knownField
  dsimp only
  refine pk_lt n 16 (fun g => ?_) (fun g => ?_) rfl rfl (by omega) (by omega)
  · rw [i10.1, e10, c5, hcn]
    refine ⟨i10.2.1, c4, nm_e (xw_fo hs hD hnd (by omega) ?_)⟩
    have hj : pm_fj c n < 64 := by
      show 16 * pm_nt (pm_d c) (pm_nd c) + n < 64; omega
    have efj : 16 * pm_nt (pm_d c) (pm_nd c) + n = pm_fj c n := rfl
    rw [efj]
    refine ⟨vp_in_nI hj (by omega), nm_r (by rw [nI_clamp (by omega), hK.2.1 _ hj]) ?_⟩
    have hk8 := hK.1 (pm_fj c n)
    have yk := xr_k2 (K (pm_fj c n)) hk8
    unfold pm_fl at H
    rw [if_neg (show ¬ 15 < n by omega)] at H
    refine br_c (fun w0 => ?_) (fun w0 => ?_)
    · rw [if_pos (yk.1.mp w0), if_pos rfl] at H; exact H
    · have hk0 : K (pm_fj c n) ≠ 0 := fun y => w0 (yk.1.mpr y)
      rw [if_neg hk0] at H
      have hwk : pm_w (K (pm_fj c n)) < 8 := by
        unfold pm_w; split
        · omega
        · split <;> omega
      have h83 : (w = pm_w (K (pm_fj c n)) ∨ (w = 2 ∧ R (pm_fj c n) = true)) → wX_knownField_83 post (nI (pm_fj c n)) f_frameAt f_frameLength f_frameSort f_frameFlags f_frameStream f_down f_entryCount f_most f_typeSeen f_lastSender f_sentLength a_payload a_life a_theyEnded a_weEnded a_finishing a_codes a_windowIn a_windowOut a_headers a_headerCount a_entries a_kinds a_repeats a_messageCount a_text a_nodeCount a_nodeTypes a_valueCount a_valueOwners a_values a_skippedCount a_reader a_chainNode a_chainEnd a_queue a_queueLength a_sent a_nodeSize a_nodePlace := by
        intro y
        unfold wX_knownField_83 wX_knownField_88
        rw [if_pos y, if_neg (show ¬ n = 0 by omega)] at H
        exact br_f (by decide) H
      have h87 : ¬ (w = pm_w (K (pm_fj c n)) ∨ (w = 2 ∧ R (pm_fj c n) = true)) → wX_knownField_87 post (nI (pm_fj c n)) f_frameAt f_frameLength f_frameSort f_frameFlags f_frameStream f_down f_entryCount f_most f_typeSeen f_lastSender f_sentLength a_payload a_life a_theyEnded a_weEnded a_finishing a_codes a_windowIn a_windowOut a_headers a_headerCount a_entries a_kinds a_repeats a_messageCount a_text a_nodeCount a_nodeTypes a_valueCount a_valueOwners a_values a_skippedCount a_reader a_chainNode a_chainEnd a_queue a_queueLength a_sent a_nodeSize a_nodePlace := by
        intro y
        unfold wX_knownField_87 wX_knownField_88
        rw [if_neg y, if_pos rfl] at H
        exact br_t rfl H
      refine xw_wire hk8 hk0 ?_
      refine pk_eq w (pm_w (K (pm_fj c n))) (fun y => h83 (Or.inl y)) (fun y => ?_)
      refine pk_eq w 2 (fun y2 => ⟨vp_in_nI hj (by omega), ?_⟩) (fun y2 => h87 (fun z => z.elim y (fun z => y2 z.1)))
      rw [nI_clamp (by omega), hK.2.2 _ hj]
      by_cases hr : R (pm_fj c n) = true
      · rw [if_pos hr]
        exact br_f (by decide) (h83 (Or.inr ⟨y2, hr⟩))
      · rw [if_neg hr]
        exact br_t rfl (h87 (fun z => z.elim y (fun z => hr z.2)))
  · unfold pm_fl at H
    rw [if_pos (show 15 < n by omega), if_pos rfl] at H
    exact H
/-- behind a tag: phase, what is left, field -/
def xr_tg (s : Nat) (h : Int32) (l : Option Int32) (f : Nat) (rd : Nat → Int32) : Nat → Int32 :=
  upd (match l with | none => xr_bN s h rd | some x => upd (xr_bN s h rd) (11 * s + 6) x) (11 * s + 7) (nI f)
theorem xw_tag {x : Int32} {post : Int32 → SX → Prop} (hs : s < 8) (I : pm_CI K R L dep c) (hK : cr_K a_kinds a_repeats K R) (hD : cr_XD K s a_nodeCount a_nodeTypes a_valueCount a_valueOwners a_values (pm_d c))
    (h4 : a_reader (11 * s + 4) = x) (h10 : a_reader (11 * s + 10) = nI (pm_at c)) (hcn : a_chainNode (4 * s + pm_at c) = nI (pm_nd c))
    (H2 : x.toBitVec.toNat / 8 = 0 ∨ (x.toBitVec.toNat % 8 ≠ 0 ∧ x.toBitVec.toNat % 8 ≠ 1 ∧ x.toBitVec.toNat % 8 ≠ 2 ∧ x.toBitVec.toNat % 8 ≠ 5) → post 12 (f_frameAt, f_frameLength, f_frameSort, f_frameFlags, f_frameStream, f_down, f_entryCount, f_most, f_typeSeen, f_lastSender, f_sentLength, a_payload, a_life, a_theyEnded, a_weEnded, a_finishing, a_codes, a_windowIn, a_windowOut, a_headers, a_headerCount, a_entries, a_kinds, a_repeats, a_messageCount, a_text, a_nodeCount, a_nodeTypes, a_valueCount, a_valueOwners, a_values, a_skippedCount, a_reader, a_chainNode, a_chainEnd, a_queue, a_queueLength, a_sent, a_nodeSize, a_nodePlace))
    (HV : ∀ f, x.toBitVec.toNat / 8 ≠ 0 → x.toBitVec.toNat % 8 = 0 → f = pm_fl K R c (x.toBitVec.toNat / 8) 0 → post 0 (f_frameAt, f_frameLength, f_frameSort, f_frameFlags, f_frameStream, f_down, f_entryCount, f_most, f_typeSeen, f_lastSender, f_sentLength, a_payload, a_life, a_theyEnded, a_weEnded, a_finishing, a_codes, a_windowIn, a_windowOut, a_headers, a_headerCount, a_entries, a_kinds, a_repeats, a_messageCount, a_text, a_nodeCount, a_nodeTypes, a_valueCount, a_valueOwners, a_values, a_skippedCount, xr_tg s 2 none (if f = 0 then 0 else pm_fj c f) a_reader, a_chainNode, a_chainEnd, a_queue, a_queueLength, a_sent, a_nodeSize, a_nodePlace))
    (H8 : ∀ f, x.toBitVec.toNat / 8 ≠ 0 → x.toBitVec.toNat % 8 = 1 → f = pm_fl K R c (x.toBitVec.toNat / 8) 1 → post 0 (f_frameAt, f_frameLength, f_frameSort, f_frameFlags, f_frameStream, f_down, f_entryCount, f_most, f_typeSeen, f_lastSender, f_sentLength, a_payload, a_life, a_theyEnded, a_weEnded, a_finishing, a_codes, a_windowIn, a_windowOut, a_headers, a_headerCount, a_entries, a_kinds, a_repeats, a_messageCount, a_text, a_nodeCount, a_nodeTypes, a_valueCount, a_valueOwners, a_values, a_skippedCount, xr_tg s 3 (some 8) (if f = 0 then 0 else pm_fj c f) a_reader, a_chainNode, a_chainEnd, a_queue, a_queueLength, a_sent, a_nodeSize, a_nodePlace))
    (HL : ∀ f, x.toBitVec.toNat / 8 ≠ 0 → x.toBitVec.toNat % 8 = 2 → f = pm_fl K R c (x.toBitVec.toNat / 8) 2 → post 0 (f_frameAt, f_frameLength, f_frameSort, f_frameFlags, f_frameStream, f_down, f_entryCount, f_most, f_typeSeen, f_lastSender, f_sentLength, a_payload, a_life, a_theyEnded, a_weEnded, a_finishing, a_codes, a_windowIn, a_windowOut, a_headers, a_headerCount, a_entries, a_kinds, a_repeats, a_messageCount, a_text, a_nodeCount, a_nodeTypes, a_valueCount, a_valueOwners, a_values, a_skippedCount, xr_tg s 1 none (if f = 0 then 0 else pm_fj c f) a_reader, a_chainNode, a_chainEnd, a_queue, a_queueLength, a_sent, a_nodeSize, a_nodePlace))
    (H5 : ∀ f, x.toBitVec.toNat / 8 ≠ 0 → x.toBitVec.toNat % 8 = 5 → f = pm_fl K R c (x.toBitVec.toNat / 8) 5 → post 0 (f_frameAt, f_frameLength, f_frameSort, f_frameFlags, f_frameStream, f_down, f_entryCount, f_most, f_typeSeen, f_lastSender, f_sentLength, a_payload, a_life, a_theyEnded, a_weEnded, a_finishing, a_codes, a_windowIn, a_windowOut, a_headers, a_headerCount, a_entries, a_kinds, a_repeats, a_messageCount, a_text, a_nodeCount, a_nodeTypes, a_valueCount, a_valueOwners, a_values, a_skippedCount, xr_tg s 3 (some 4) (if f = 0 then 0 else pm_fj c f) a_reader, a_chainNode, a_chainEnd, a_queue, a_queueLength, a_sent, a_nodeSize, a_nodePlace)) :
    wpX_endTag post (f_frameAt, f_frameLength, f_frameSort, f_frameFlags, f_frameStream, f_down, f_entryCount, f_most, f_typeSeen, f_lastSender, f_sentLength, a_payload, a_life, a_theyEnded, a_weEnded, a_finishing, a_codes, a_windowIn, a_windowOut, a_headers, a_headerCount, a_entries, a_kinds, a_repeats, a_messageCount, a_text, a_nodeCount, a_nodeTypes, a_valueCount, a_valueOwners, a_values, a_skippedCount, a_reader, a_chainNode, a_chainEnd, a_queue, a_queueLength, a_sent, a_nodeSize, a_nodePlace) (nI s) := by
  have i4 := xr_ix (s := s) (k := 4) hs (by omega)
  have i6 := xr_ix (s := s) (k := 6) hs (by omega)
  have i7 := xr_ix (s := s) (k := 7) hs (by omega)
  have e4 : a_reader (nI (11 * s) + 4).toNatClampNeg = x := (congrArg a_reader i4.2.2).trans h4
  have hX : x.toBitVec.toNat < 2 ^ 32 := x.toBitVec.isLt
  have e3 : x &&& 7 = nI (x.toBitVec.toNat % 2 ^ 3) := pk_and x 3 (by decide)
  have eu := yr_u3 x
  unfold wpX_endTag
  dsimp only
  refine nm_r i4.1 ⟨i4.2.1, nm_r (by rw [e4, e3]) ⟨i4.2.1, nm_r (by rw [e4, eu]) ?_⟩⟩
  generalize x.toBitVec.toNat = X at *
  have k136 : ∀ (rd : Nat → Int32) w, w = X % 8 → X / 8 ≠ 0 → rd (11 * s + 10) = nI (pm_at c) → (∀ f, f = pm_fl K R c (X / 8) w → post 0 (f_frameAt, f_frameLength, f_frameSort, f_frameFlags, f_frameStream, f_down, f_entryCount, f_most, f_typeSeen, f_lastSender, f_sentLength, a_payload, a_life, a_theyEnded, a_weEnded, a_finishing, a_codes, a_windowIn, a_windowOut, a_headers, a_headerCount, a_entries, a_kinds, a_repeats, a_messageCount, a_text, a_nodeCount, a_nodeTypes, a_valueCount, a_valueOwners, a_values, a_skippedCount, upd rd (11 * s + 7) (nI (if f = 0 then 0 else pm_fj c f)), a_chainNode, a_chainEnd, a_queue, a_queueLength, a_sent, a_nodeSize, a_nodePlace)) →
      wX_endTag_136 post (nI s) (nI (11 * s)) (nI w) (nI (X / 8)) f_frameAt f_frameLength f_frameSort f_frameFlags f_frameStream f_down f_entryCount f_most f_typeSeen f_lastSender f_sentLength a_payload a_life a_theyEnded a_weEnded a_finishing a_codes a_windowIn a_windowOut a_headers a_headerCount a_entries a_kinds a_repeats a_messageCount a_text a_nodeCount a_nodeTypes a_valueCount a_valueOwners a_values a_skippedCount (rd) a_chainNode a_chainEnd a_queue a_queueLength a_sent a_nodeSize a_nodePlace := by
    intro rd w hw hn hr10 H
    unfold wX_endTag_136
    refine xw_known (a_reader := rd) hs I hK hD (by omega) (by omega) (by omega) hr10 hcn ⟨i7.2.1, nm_r ?_ (H _ rfl)⟩
    exact congrArg (fun j => upd rd j _) i7.2.2
  refine pk_eq (X / 8) 0 (fun y => H2 (Or.inl y)) (fun y => ?_) rfl rfl (by omega) (by omega)
  refine br_f (nI_pos (by omega)) ?_
  refine pk_lt 5 (X % 2 ^ 3) (fun y1 => H2 (Or.inr ⟨by omega, by omega, by omega, by omega⟩)) (fun y1 => ?_) rfl rfl (by omega) (by omega)
  refine pk_eq (X % 2 ^ 3) 0 (fun w => ?_) (fun w0 => ?_) rfl rfl (by omega) (by omega)
  · rw [w]
    exact xw_bN (x := 2) hs (k136 (xr_bN s 2 a_reader) 0 (by omega) y (by rw [xr_bN_k, if_neg (by omega), if_neg (by omega)]; exact h10) (fun f hf => HV f y (by omega) hf))
  refine pk_eq (X % 2 ^ 3) 1 (fun w => ?_) (fun w1 => ?_) rfl rfl (by omega) (by omega)
  · rw [w]
    refine xw_bN (x := 3) hs ⟨i6.2.1, nm_r (e' := upd (xr_bN s 3 a_reader) (11 * s + 6) 8) (congrArg (fun j => upd (xr_bN s 3 a_reader) j 8) i6.2.2) ?_⟩
    exact k136 _ 1 (by omega) y (by rw [xr_u, if_neg (by omega), xr_bN_k, if_neg (by omega), if_neg (by omega)]; exact h10) (fun f hf => H8 f y (by omega) hf)
  refine pk_eq (X % 2 ^ 3) 2 (fun w => ?_) (fun w2 => ?_) rfl rfl (by omega) (by omega)
  · rw [w]
    exact xw_bN (x := 1) hs (k136 (xr_bN s 1 a_reader) 2 (by omega) y (by rw [xr_bN_k, if_neg (by omega), if_neg (by omega)]; exact h10) (fun f hf => HL f y (by omega) hf))
  refine pk_eq (X % 2 ^ 3) 3 (fun w => H2 (Or.inr ⟨by omega, by omega, by omega, by omega⟩)) (fun w3 => ?_) rfl rfl (by omega) (by omega)
  refine pk_eq (X % 2 ^ 3) 4 (fun w => H2 (Or.inr ⟨by omega, by omega, by omega, by omega⟩)) (fun w4 => ?_) rfl rfl (by omega) (by omega)
  refine pk_eq (X % 2 ^ 3) 5 (fun w => ?_) (fun w5 => True.intro) rfl rfl (by omega) (by omega)
  rw [w]
  refine xw_bN (x := 3) hs ⟨i6.2.1, nm_r (e' := upd (xr_bN s 3 a_reader) (11 * s + 6) 4) (congrArg (fun j => upd (xr_bN s 3 a_reader) j 4) i6.2.2) ?_⟩
  exact k136 _ 5 (by omega) y (by rw [xr_u, if_neg (by omega), xr_bN_k, if_neg (by omega), if_neg (by omega)]; exact h10) (fun f hf => H5 f y (by omega) hf)
end
