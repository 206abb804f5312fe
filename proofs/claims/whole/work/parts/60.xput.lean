/-! W5: the component puts -/
section
variable {f_frameAt f_frameLength f_frameSort f_frameFlags f_frameStream f_down f_entryCount f_most f_typeSeen f_lastSender f_sentLength : Int32} {a_payload a_life a_theyEnded a_weEnded a_finishing a_codes a_windowIn a_windowOut a_headers a_headerCount a_entries a_kinds a_repeats a_messageCount a_text a_nodeCount a_nodeTypes a_valueCount a_valueOwners a_values a_skippedCount a_reader a_chainNode a_chainEnd a_queue a_queueLength a_sent a_nodeSize a_nodePlace : Nat → Int32} {s fr k : Nat} {tx B : Nat → Nat}
theorem sz_44 {k : Nat} (h : k ≤ 4) (h0 : k ≠ 0) (h1 : k ≠ 1) (h2 : k ≠ 2) (h3 : k ≠ 3) : k = 4 := by omega
theorem xq_60 {post : Int32 → SX → Prop} {x at' : Nat} {Q1 : Nat → Nat} (ha : at' < 4000) (H : post (nI (at' + 1)) (f_frameAt, f_frameLength, f_frameSort, f_frameFlags, f_frameStream, f_down, f_entryCount, f_most, f_typeSeen, f_lastSender, f_sentLength, a_payload, a_life, a_theyEnded, a_weEnded, a_finishing, a_codes, a_windowIn, a_windowOut, a_headers, a_headerCount, a_entries, a_kinds, a_repeats, a_messageCount, a_text, a_nodeCount, a_nodeTypes, a_valueCount, a_valueOwners, a_values, a_skippedCount, a_reader, a_chainNode, a_chainEnd, an_f (pm_u Q1 at' x), a_queueLength, a_sent, a_nodeSize, a_nodePlace)) : wX_putVarint_60 post (nI at') (lN x) f_frameAt f_frameLength f_frameSort f_frameFlags f_frameStream f_down f_entryCount f_most f_typeSeen f_lastSender f_sentLength a_payload a_life a_theyEnded a_weEnded a_finishing a_codes a_windowIn a_windowOut a_headers a_headerCount a_entries a_kinds a_repeats a_messageCount a_text a_nodeCount a_nodeTypes a_valueCount a_valueOwners a_values a_skippedCount a_reader a_chainNode a_chainEnd (an_f Q1) a_queueLength a_sent a_nodeSize a_nodePlace := by
  unfold wX_putVarint_60
  rw [lN_i, nI_1, nI_clamp (by omega)]
  exact ⟨vp_in_nI ha (by omega), nm_r (an_fu _ _ _) H⟩
theorem xq_9 {post : Int32 → SX → Prop} : ∀ f j x at' (Q1 : Nat → Nat), j + f = 10 → x < 2 ^ 64 → at' + (ct_vd f x).length ≤ 4000 → post (nI (at' + (ct_vd f x).length)) (f_frameAt, f_frameLength, f_frameSort, f_frameFlags, f_frameStream, f_down, f_entryCount, f_most, f_typeSeen, f_lastSender, f_sentLength, a_payload, a_life, a_theyEnded, a_weEnded, a_finishing, a_codes, a_windowIn, a_windowOut, a_headers, a_headerCount, a_entries, a_kinds, a_repeats, a_messageCount, a_text, a_nodeCount, a_nodeTypes, a_valueCount, a_valueOwners, a_values, a_skippedCount, a_reader, a_chainNode, a_chainEnd, an_f (ct_put Q1 at' (ct_vd f x)), a_queueLength, a_sent, a_nodeSize, a_nodePlace) →
    wX_putVarint_9 post f_frameAt f_frameLength f_frameSort f_frameFlags f_frameStream f_down f_entryCount f_most f_typeSeen f_lastSender f_sentLength (f + 1) (nI at') (lN x) (nI j) a_payload a_life a_theyEnded a_weEnded a_finishing a_codes a_windowIn a_windowOut a_headers a_headerCount a_entries a_kinds a_repeats a_messageCount a_text a_nodeCount a_nodeTypes a_valueCount a_valueOwners a_values a_skippedCount a_reader a_chainNode a_chainEnd (an_f Q1) a_queueLength a_sent a_nodeSize a_nodePlace
  | 0, j, x, at', Q1, hj, hx, ha, H => by
    have ha' : at' + 1 ≤ 4000 := ha
    rw [wX_putVarint_9]
    exact pk_le 10 j (fun _ => xq_60 (by omega) H) (fun w => by omega)
  | f + 1, j, x, at', Q1, hj, hx, ha, H => by
    rw [wX_putVarint_9]
    rw [ct_vd] at H ha
    have e7 : ((lN x).toUInt64 >>> ((7 : Int32).toInt64.toUInt64 &&& Int64.toUInt64 63)).toInt64 = lN (x / 128) := wb_shr (k := 7) hx (by omega)
    rw [e7]
    refine pk_le 10 j (fun w => by omega) (fun _ => ?_)
    by_cases h0 : x / 128 = 0
    · rw [if_pos h0] at H ha
      have ha' : at' + 1 ≤ 4000 := ha
      exact br_t (by rw [h0]; rfl) (xq_60 (by omega) H)
    · rw [if_neg h0] at H ha
      rw [List.length_cons] at H ha
      have e1 : (lN x &&& 127).toInt32 + 128 = nI (x % 128 + 128) := by
        rw [show (127 : Int64) = lN (2 ^ 7 - 1) from rfl, wb_mask hx (by omega), lN_i, show (128 : Int32) = nI 128 from rfl, nI_add]
      rw [e1, nI_clamp (by omega)]
      refine br_f (fun w => h0 ((pk_lEQ (a := x / 128) (b := 0) (by omega) (by omega)).mp w)) ⟨vp_in_nI (by omega) (by omega), nm_r (an_fu _ _ _) (nm_r (nI_1 _) (nm_e (nm_r (nI_1 _) ?_)))⟩
      refine xq_9 f (j + 1) (x / 128) (at' + 1) (pm_u Q1 at' (x % 128 + 128)) (by omega) (by omega) (by omega) ?_
      rw [show at' + 1 + (ct_vd f (x / 128)).length = at' + ((ct_vd f (x / 128)).length + 1) by omega]
      exact H
theorem xq_v {post : Int32 → SX → Prop} {x at' : Nat} {Q1 : Nat → Nat} (hx : x < 2 ^ 64) (ha : at' + (ct_v x).length ≤ 4000) (H : post (nI (at' + (ct_v x).length)) (f_frameAt, f_frameLength, f_frameSort, f_frameFlags, f_frameStream, f_down, f_entryCount, f_most, f_typeSeen, f_lastSender, f_sentLength, a_payload, a_life, a_theyEnded, a_weEnded, a_finishing, a_codes, a_windowIn, a_windowOut, a_headers, a_headerCount, a_entries, a_kinds, a_repeats, a_messageCount, a_text, a_nodeCount, a_nodeTypes, a_valueCount, a_valueOwners, a_values, a_skippedCount, a_reader, a_chainNode, a_chainEnd, an_f (ct_put Q1 at' (ct_v x)), a_queueLength, a_sent, a_nodeSize, a_nodePlace)) : wpX_putVarint post (f_frameAt, f_frameLength, f_frameSort, f_frameFlags, f_frameStream, f_down, f_entryCount, f_most, f_typeSeen, f_lastSender, f_sentLength, a_payload, a_life, a_theyEnded, a_weEnded, a_finishing, a_codes, a_windowIn, a_windowOut, a_headers, a_headerCount, a_entries, a_kinds, a_repeats, a_messageCount, a_text, a_nodeCount, a_nodeTypes, a_valueCount, a_valueOwners, a_values, a_skippedCount, a_reader, a_chainNode, a_chainEnd, an_f Q1, a_queueLength, a_sent, a_nodeSize, a_nodePlace) (nI at') (lN x) := by
  unfold wpX_putVarint
  exact ⟨10, xq_9 9 1 x at' Q1 rfl hx ha H⟩
theorem xq_64 {post : Int32 → SX → Prop} {y : Int32} {at' : Nat} {Q1 : Nat → Nat} (ha : at' + 4 ≤ 4000) (H : post (nI (at' + 4)) (f_frameAt, f_frameLength, f_frameSort, f_frameFlags, f_frameStream, f_down, f_entryCount, f_most, f_typeSeen, f_lastSender, f_sentLength, a_payload, a_life, a_theyEnded, a_weEnded, a_finishing, a_codes, a_windowIn, a_windowOut, a_headers, a_headerCount, a_entries, a_kinds, a_repeats, a_messageCount, a_text, a_nodeCount, a_nodeTypes, a_valueCount, a_valueOwners, a_values, a_skippedCount, a_reader, a_chainNode, a_chainEnd, an_f (ct_put Q1 at' (ct_4 y.toBitVec.toNat)), a_queueLength, a_sent, a_nodeSize, a_nodePlace)) :
    ∃ m, wX_writeBody_64 post y (nI at') f_frameAt f_frameLength f_frameSort f_frameFlags f_frameStream f_down f_entryCount f_most f_typeSeen f_lastSender f_sentLength m 0 a_payload a_life a_theyEnded a_weEnded a_finishing a_codes a_windowIn a_windowOut a_headers a_headerCount a_entries a_kinds a_repeats a_messageCount a_text a_nodeCount a_nodeTypes a_valueCount a_valueOwners a_values a_skippedCount a_reader a_chainNode a_chainEnd (an_f Q1) a_queueLength a_sent a_nodeSize a_nodePlace := by
  have go : ∀ j k, j < 4 → (((8 * nI j).toUInt32 &&& Int32.toUInt32 31).toBitVec % 32).toNat = k → ((y.toUInt32 >>> ((8 * nI j).toUInt32 &&& Int32.toUInt32 31)).toInt32) &&& 255 = nI (y.toBitVec.toNat / 2 ^ k % 2 ^ 8) := by
    intro j k hj h1
    rw [pk_and _ 8 (by decide), pk_ushr y (8 * nI j) k h1]
  have b0 : ((y.toUInt32 >>> ((8 * nI 0).toUInt32 &&& Int32.toUInt32 31)).toInt32) &&& 255 = nI (y.toBitVec.toNat % 256) := (go 0 0 (by omega) (by decide)).trans (congrArg nI (by omega))
  have b1 : ((y.toUInt32 >>> ((8 * nI 1).toUInt32 &&& Int32.toUInt32 31)).toInt32) &&& 255 = nI (y.toBitVec.toNat / 256 % 256) := (go 1 8 (by omega) (by decide)).trans (congrArg nI (by omega))
  have b2 : ((y.toUInt32 >>> ((8 * nI 2).toUInt32 &&& Int32.toUInt32 31)).toInt32) &&& 255 = nI (y.toBitVec.toNat / 65536 % 256) := (go 2 16 (by omega) (by decide)).trans (congrArg nI (by omega))
  have b3 : ((y.toUInt32 >>> ((8 * nI 3).toUInt32 &&& Int32.toUInt32 31)).toInt32) &&& 255 = nI (y.toBitVec.toNat / 16777216 % 256) := (go 3 24 (by omega) (by decide)).trans (congrArg nI (by omega))
  have st : ∀ (Q2 : Nat → Nat) (i b fu : Nat), i < 4 → ((y.toUInt32 >>> ((8 * nI i).toUInt32 &&& Int32.toUInt32 31)).toInt32) &&& 255 = nI b → wX_writeBody_64 post y (nI at') f_frameAt f_frameLength f_frameSort f_frameFlags f_frameStream f_down f_entryCount f_most f_typeSeen f_lastSender f_sentLength fu (nI (i + 1)) a_payload a_life a_theyEnded a_weEnded a_finishing a_codes a_windowIn a_windowOut a_headers a_headerCount a_entries a_kinds a_repeats a_messageCount a_text a_nodeCount a_nodeTypes a_valueCount a_valueOwners a_values a_skippedCount a_reader a_chainNode a_chainEnd (an_f (pm_u Q2 (at' + i) b)) a_queueLength a_sent a_nodeSize a_nodePlace →
      wX_writeBody_64 post y (nI at') f_frameAt f_frameLength f_frameSort f_frameFlags f_frameStream f_down f_entryCount f_most f_typeSeen f_lastSender f_sentLength (fu + 1) (nI i) a_payload a_life a_theyEnded a_weEnded a_finishing a_codes a_windowIn a_windowOut a_headers a_headerCount a_entries a_kinds a_repeats a_messageCount a_text a_nodeCount a_nodeTypes a_valueCount a_valueOwners a_values a_skippedCount a_reader a_chainNode a_chainEnd (an_f Q2) a_queueLength a_sent a_nodeSize a_nodePlace := by
    intro Q2 i b fu hi hb h
    rw [wX_writeBody_64]
    dsimp only
    rw [hb, nI_add, nI_clamp (by omega)]
    exact pk_le 4 i (fun w => by omega) (fun _ => ⟨vp_in_nI (by omega) (by omega), nm_r (an_fu _ _ _) (nm_r (nI_1 i) h)⟩)
  refine ⟨5, st Q1 0 _ 4 (by omega) b0 (st _ 1 _ 3 (by omega) b1 (st _ 2 _ 2 (by omega) b2 (st _ 3 _ 1 (by omega) b3 ?_)))⟩
  rw [wX_writeBody_64]
  have e4 : nI at' + 4 = nI (at' + 4) := nI_add at' 4
  rw [e4]
  exact br_t (by decide) H
theorem xq_119 {post : Int32 → SX → Prop} {m : Nat} (hs : s < 8) (hB : yr_B tx s B) (hm : fr + m ≤ 200) {at0 : Nat} (hat : at0 + m ≤ 4000) : ∀ f i (Q1 : Nat → Nat), i + f = m →
    post (nI (at0 + m)) (f_frameAt, f_frameLength, f_frameSort, f_frameFlags, f_frameStream, f_down, f_entryCount, f_most, f_typeSeen, f_lastSender, f_sentLength, a_payload, a_life, a_theyEnded, a_weEnded, a_finishing, a_codes, a_windowIn, a_windowOut, a_headers, a_headerCount, a_entries, a_kinds, a_repeats, a_messageCount, an_f tx, a_nodeCount, a_nodeTypes, a_valueCount, a_valueOwners, a_values, a_skippedCount, a_reader, a_chainNode, a_chainEnd, an_f (ct_put Q1 (at0 + i) ((List.range' i f).map (fun i => B (fr + i)))), a_queueLength, a_sent, a_nodeSize, a_nodePlace) →
    wX_writeBody_119 post (nI s) (nI (256 * fr + m)) (nI at0) f_frameAt f_frameLength f_frameSort f_frameFlags f_frameStream f_down f_entryCount f_most f_typeSeen f_lastSender f_sentLength (f + 1) (nI i) a_payload a_life a_theyEnded a_weEnded a_finishing a_codes a_windowIn a_windowOut a_headers a_headerCount a_entries a_kinds a_repeats a_messageCount (an_f tx) a_nodeCount a_nodeTypes a_valueCount a_valueOwners a_values a_skippedCount a_reader a_chainNode a_chainEnd (an_f Q1) a_queueLength a_sent a_nodeSize a_nodePlace
  | 0, i, Q1, hi, H => by
    have e255 : nI (256 * fr + m) &&& 255 = nI m := by
      rw [pk_andN (by omega) 8 (by decide)]; exact congrArg nI (by omega)
    rw [wX_writeBody_119]
    dsimp only
    rw [e255, nI_add]
    exact pk_le m i (fun _ => H) (fun w => by omega)
  | f + 1, i, Q1, hi, H => by
    have e255 : nI (256 * fr + m) &&& 255 = nI m := by
      rw [pk_andN (by omega) 8 (by decide)]; exact congrArg nI (by omega)
    have e8 : nI (256 * fr + m) >>> ((8 : Int32) &&& 31) = nI fr := by
      rw [pk_shrN (by omega) _ 8 (by decide)]; exact congrArg nI (by omega)
    have e1 : nI s * 200 + nI fr + nI i = nI (200 * s + fr + i) := by
      rw [show (200 : Int32) = nI 200 from rfl, pk_mul, nI_add, nI_add, Nat.mul_comm]
    have e2 : an_f tx (200 * s + fr + i) = nI (B (fr + i)) := by rw [an_fa, hB.2.2 (fr + i) (by omega), Nat.add_assoc]
    rw [wX_writeBody_119]
    dsimp only
    rw [e255, e8, e1, nI_add at0 m, nI_add at0 i, nI_clamp (n := 200 * s + fr + i) (by omega), nI_clamp (n := at0 + i) (by omega), e2]
    refine pk_le m i (fun w => by omega) (fun _ => ⟨vp_in_nI (by omega) (by omega), vp_in_nI (by omega) (by omega), nm_r (an_fu _ _ _) (nm_r (nI_1 i) ?_)⟩)
    exact xq_119 hs hB hm hat f (i + 1) (pm_u Q1 (at0 + i) (B (fr + i))) (by omega) H
theorem xq_body {post : Int32 → SX → Prop} {xv v : Int32} {at' : Nat} {Q1 S : Nat → Nat} {g : Nat → List Nat} (hs : s < 8) (hB : yr_B tx s B) (hk : k ≤ 8) (hk0 : k ≠ 0) (h4 : k = 4 → ∃ m, xv = nI (256 * fr + m) ∧ v = nI m ∧ fr + m ≤ 200) (hn4 : k ≠ 4 → xv = v)
    (h5 : 4 < k → ∃ m, m < 16 ∧ v = nI m ∧ a_nodeSize m = nI (S m) ∧ S m < 2 ^ 31 ∧ (g m).length = S m) (hq : at' + (ct_l B k v fr g).length ≤ 4000)
    (Hn : k ≤ 4 → post (nI (at' + (ct_l B k v fr g).length)) (f_frameAt, f_frameLength, f_frameSort, f_frameFlags, f_frameStream, f_down, f_entryCount, f_most, f_typeSeen, f_lastSender, f_sentLength, a_payload, a_life, a_theyEnded, a_weEnded, a_finishing, a_codes, a_windowIn, a_windowOut, a_headers, a_headerCount, a_entries, a_kinds, a_repeats, a_messageCount, an_f tx, a_nodeCount, a_nodeTypes, a_valueCount, a_valueOwners, a_values, a_skippedCount, a_reader, a_chainNode, a_chainEnd, an_f (ct_put Q1 at' (ct_l B k v fr g)), a_queueLength, a_sent, a_nodeSize, a_nodePlace))
    (Hp : ∀ m, m < 16 → 4 < k → v = nI m → ct_l B k v fr g = ct_v (S m) ++ g m → post (nI (at' + (ct_v (S m)).length + S m)) (f_frameAt, f_frameLength, f_frameSort, f_frameFlags, f_frameStream, f_down, f_entryCount, f_most, f_typeSeen, f_lastSender, f_sentLength, a_payload, a_life, a_theyEnded, a_weEnded, a_finishing, a_codes, a_windowIn, a_windowOut, a_headers, a_headerCount, a_entries, a_kinds, a_repeats, a_messageCount, an_f tx, a_nodeCount, a_nodeTypes, a_valueCount, a_valueOwners, a_values, a_skippedCount, a_reader, a_chainNode, a_chainEnd, an_f (ct_put Q1 at' (ct_v (S m))), a_queueLength, a_sent, a_nodeSize, upd a_nodePlace m (nI (at' + (ct_v (S m)).length)))) :
    wpX_writeBody post (f_frameAt, f_frameLength, f_frameSort, f_frameFlags, f_frameStream, f_down, f_entryCount, f_most, f_typeSeen, f_lastSender, f_sentLength, a_payload, a_life, a_theyEnded, a_weEnded, a_finishing, a_codes, a_windowIn, a_windowOut, a_headers, a_headerCount, a_entries, a_kinds, a_repeats, a_messageCount, an_f tx, a_nodeCount, a_nodeTypes, a_valueCount, a_valueOwners, a_values, a_skippedCount, a_reader, a_chainNode, a_chainEnd, an_f Q1, a_queueLength, a_sent, a_nodeSize, a_nodePlace) (nI s) (nI k + (-1)) xv (nI at') := by
  have yk := xr_k2 k hk
  have yk2 := yr_k k hk
  unfold wpX_writeBody
  refine br_f (fun z => hk0 (yk2.2.2.1.mp z)) (br_c (fun z => ?_) (fun z => ?_))
  · have k5 : 4 < k := by
      rcases Nat.lt_or_ge 4 k with w | w
      · exact w
      · exact absurd (Int32.lt_of_lt_of_le z (yk2.2.2.2.2.1.mpr w)) (by decide)
    obtain ⟨m, m1, m2, m3, m4, m5⟩ := h5 k5
    have el : ct_l B k v fr g = ct_v (S m) ++ g m := by
      unfold ct_l
      rw [if_pos (by omega), m2, ct_b5 k5 (by omega), m5]
    rw [el, List.length_append, m5] at hq
    have in16 : vp_in (nI m) 16 := vp_in_nI m1 (by decide)
    have hcl : (nI m).toNatClampNeg = m := nI_clamp (sz_16 m1)
    rw [hn4 (by omega), m2, hcl, m3, nI_l m4]
    refine ⟨in16, xq_v (Nat.lt_trans m4 (by decide)) (by omega) ⟨in16, nm_e ⟨in16, ?_⟩⟩⟩
    rw [m3, nI_add]
    exact Hp m m1 k5 m2 el
  · have k4 : k ≤ 4 := by
      rcases Nat.lt_or_ge 4 k with w | w
      · exfalso
        have h1 : ¬ (nI k + (-1) < 4) := fun q => by have := yk.2.2.2.2.2.1.mp q; omega
        have h2 : ¬ (nI k + (-1) ≤ 3) := fun q => by have := yk2.2.2.2.2.1.mp q; omega
        exact z (Int32.not_le.mp h2)
      · exact w
    have el : ct_l B k v fr g = (if 3 < k then ct_v (ct_b B k v fr g).length else []) ++ ct_b B k v fr g := rfl
    have Hn' := Hn k4
    rw [el] at hq Hn'
    unfold ct_b at hq Hn'
    refine br_c (fun z0 => ?_) (fun z0 => ?_)
    · have k1 := yk.2.1.mp z0
      subst k1
      rw [if_neg (by omega), List.nil_append, if_pos rfl] at hq Hn'
      rw [hn4 (by decide), zx_ext]
      exact xq_v (sz_ux_lt v) hq Hn'
    · have k1 : k ≠ 1 := fun w => z0 (yk.2.1.mpr w)
      refine br_c (fun z1 => ?_) (fun z1 => ?_)
      · have k2 := yk.2.2.1.mp z1
        subst k2
        rw [if_neg (by omega), List.nil_append, if_neg k1, if_pos rfl] at hq Hn'
        rw [hn4 (by decide)]
        unfold wpX_zigzag
        dsimp only
        rw [zx_z]
        exact xq_v (Nat.lt_trans (BitVec.isLt _) (by decide)) hq Hn'
      · have k2 : k ≠ 2 := fun w => z1 (yk.2.2.1.mpr w)
        refine br_c (fun z2 => ?_) (fun z2 => ?_)
        · have k3 := yk.2.2.2.1.mp z2
          subst k3
          rw [if_neg (by omega), List.nil_append, if_neg k1, if_neg k2, if_pos rfl] at hq Hn'
          rw [hn4 (by decide)]
          exact xq_64 hq Hn'
        · have k3 : k ≠ 3 := fun w => z2 (yk.2.2.2.1.mpr w)
          have k44 : k = 4 := sz_44 k4 hk0 k1 k2 k3
          subst k44
          obtain ⟨m, m1, m2, m3⟩ := h4 rfl
          rw [if_pos (by omega), if_neg k1, if_neg k2, if_neg k3, if_pos rfl, m2, nI_clamp (by omega), List.length_append, List.length_map, List.length_range] at hq
          rw [if_pos (by omega), if_neg k1, if_neg k2, if_neg k3, if_pos rfl, m2, nI_clamp (by omega), List.length_append, List.length_map, List.length_range, List.range_eq_range'] at Hn'
          have e255 : nI (256 * fr + m) &&& 255 = nI m := by
            rw [pk_andN (by omega) 8 (by decide)]; exact congrArg nI (by omega)
          rw [m1, e255, nI_l (by omega)]
          refine br_t (by decide) (xq_v (by omega) (by omega) ⟨m + 1, ?_⟩)
          refine xq_119 hs hB m3 (by omega) m 0 _ (by omega) ?_
          rw [Nat.add_zero, cp_app, Nat.add_assoc]
          exact Hn'
end
