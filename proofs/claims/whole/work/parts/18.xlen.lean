/-! S1: parts that begin -/
section
variable {f_frameAt f_frameLength f_frameSort f_frameFlags f_frameStream f_down f_entryCount f_most f_typeSeen f_lastSender f_sentLength : Int32} {a_payload a_life a_theyEnded a_weEnded a_finishing a_codes a_windowIn a_windowOut a_headers a_headerCount a_entries a_kinds a_repeats a_messageCount a_text a_nodeCount a_nodeTypes a_valueCount a_valueOwners a_values a_skippedCount a_reader a_chainNode a_chainEnd a_queue a_queueLength a_sent a_nodeSize a_nodePlace : Nat → Int32} {s : Nat} {K : Nat → Nat} {R : Nat → Bool} {L : Nat} {dep : Nat → Nat} {c : pm_C}
theorem xr_c4u {s a i : Nat} {f : Nat → Int32} {x : Int32} : upd f (4 * s + a) x (4 * s + i) = if i = a then x else f (4 * s + i) := by
  rw [pm_upd_eq]
  by_cases h : i = a
  · rw [if_pos h, if_pos (by omega)]
  · rw [if_neg h, if_neg (by omega)]
/-- a part begins: the chain is longer -/
theorem xw_p105 {t len m : Nat} {post : Int32 → SX → Prop} (hs : s < 8) (h3 : pm_at c + 1 ≤ 3) (h2 : a_reader (11 * s + 2) = nI t) (h10 : a_reader (11 * s + 10) = nI (pm_at c))
    (H : post 0 (f_frameAt, f_frameLength, f_frameSort, f_frameFlags, f_frameStream, f_down, f_entryCount, f_most, f_typeSeen, f_lastSender, f_sentLength, a_payload, a_life, a_theyEnded, a_weEnded, a_finishing, a_codes, a_windowIn, a_windowOut, a_headers, a_headerCount, a_entries, a_kinds, a_repeats, a_messageCount, a_text, a_nodeCount, a_nodeTypes, a_valueCount, a_valueOwners, a_values, a_skippedCount, xr_bE s (upd a_reader (11 * s + 10) (nI (pm_at c + 1))), upd a_chainNode (4 * s + (pm_at c + 1)) (nI m), upd a_chainEnd (4 * s + (pm_at c + 1)) (nI (t + len)), a_queue, a_queueLength, a_sent, a_nodeSize, a_nodePlace)) :
    wX_beginPart_105 post (nI s) (nI len) (nI (11 * s)) (nI m) f_frameAt f_frameLength f_frameSort f_frameFlags f_frameStream f_down f_entryCount f_most f_typeSeen f_lastSender f_sentLength a_payload a_life a_theyEnded a_weEnded a_finishing a_codes a_windowIn a_windowOut a_headers a_headerCount a_entries a_kinds a_repeats a_messageCount a_text a_nodeCount a_nodeTypes a_valueCount a_valueOwners a_values a_skippedCount a_reader a_chainNode a_chainEnd a_queue a_queueLength a_sent a_nodeSize a_nodePlace := by
  have i2 := xr_ix (s := s) (k := 2) hs (by omega)
  have i10 := xr_ix (s := s) (k := 10) hs (by omega)
  have c10 : (nI (11 * s) + 10).toNatClampNeg = 11 * s + 10 := i10.2.2
  have c2 : (nI (11 * s) + 2).toNatClampNeg = 11 * s + 2 := i2.2.2
  obtain ⟨c4, c5⟩ := xr_c4 (s := s) (a := pm_at c + 1) hs h3
  unfold wX_beginPart_105
  refine ⟨i10.2.1, i10.2.1, nm_r (e' := upd a_reader (11 * s + 10) (nI (pm_at c + 1))) (by rw [c10, h10, nI_1]) ⟨i10.2.1, ?_⟩⟩
  rw [c10, c2, xr_u, if_pos rfl, xr_u, if_neg (show ¬ 2 = 10 by omega), h2, c5, nI_add]
  exact ⟨c4, nm_e ⟨i10.2.1, i2.2.1, c4, nm_e (xw_bE hs H)⟩⟩
theorem xw_part {t f ty len : Nat} {post : Int32 → SX → Prop} (hs : s < 8) (I : pm_CI K R L dep c) (hK : cr_K a_kinds a_repeats K R) (hD : cr_XD K s a_nodeCount a_nodeTypes a_valueCount a_valueOwners a_values (pm_d c))
    (h2 : a_reader (11 * s + 2) = nI t) (h7 : a_reader (11 * s + 7) = nI (pm_fj c f)) (h10 : a_reader (11 * s + 10) = nI (pm_at c))
    (hch : ∀ i, i ≤ pm_at c → a_chainNode (4 * s + i) = nI (pm_ins c i) ∧ a_chainEnd (4 * s + i) = nI (pm_lim c i))
    (f1 : 1 ≤ f) (f2 : f ≤ 15) (hk : 4 < K (pm_fj c f))
    (H5 : pm_part R c f ty t len = (5, c) → post 15 (f_frameAt, f_frameLength, f_frameSort, f_frameFlags, f_frameStream, f_down, f_entryCount, f_most, f_typeSeen, f_lastSender, f_sentLength, a_payload, a_life, a_theyEnded, a_weEnded, a_finishing, a_codes, a_windowIn, a_windowOut, a_headers, a_headerCount, a_entries, a_kinds, a_repeats, a_messageCount, a_text, a_nodeCount, a_nodeTypes, a_valueCount, a_valueOwners, a_values, a_skippedCount, a_reader, a_chainNode, a_chainEnd, a_queue, a_queueLength, a_sent, a_nodeSize, a_nodePlace))
    (H0 : ∀ c' nc nt vc vo va cn ce, pm_part R c f ty t len = (0, c') → pm_at c' = pm_at c + 1 → pm_row c' = 0 → pm_pos c' = t → pm_sk c' = pm_sk c → cr_XD K s nc nt vc vo va (pm_d c') → xr_O 1 s a_nodeCount nc → xr_O 16 s a_nodeTypes nt → xr_O 1 s a_valueCount vc → xr_O 48 s a_valueOwners vo → xr_O 48 s a_values va → xr_O 4 s a_chainNode cn → xr_O 4 s a_chainEnd ce → nt (16 * s) = a_nodeTypes (16 * s) →
      (∀ i, i ≤ pm_at c' → cn (4 * s + i) = nI (pm_ins c' i) ∧ ce (4 * s + i) = nI (pm_lim c' i)) →
      post 0 (f_frameAt, f_frameLength, f_frameSort, f_frameFlags, f_frameStream, f_down, f_entryCount, f_most, f_typeSeen, f_lastSender, f_sentLength, a_payload, a_life, a_theyEnded, a_weEnded, a_finishing, a_codes, a_windowIn, a_windowOut, a_headers, a_headerCount, a_entries, a_kinds, a_repeats, a_messageCount, a_text, nc, nt, vc, vo, va, a_skippedCount, xr_bE s (upd a_reader (11 * s + 10) (nI (pm_at c'))), cn, ce, a_queue, a_queueLength, a_sent, a_nodeSize, a_nodePlace)) :
    wpX_beginPart post (f_frameAt, f_frameLength, f_frameSort, f_frameFlags, f_frameStream, f_down, f_entryCount, f_most, f_typeSeen, f_lastSender, f_sentLength, a_payload, a_life, a_theyEnded, a_weEnded, a_finishing, a_codes, a_windowIn, a_windowOut, a_headers, a_headerCount, a_entries, a_kinds, a_repeats, a_messageCount, a_text, a_nodeCount, a_nodeTypes, a_valueCount, a_valueOwners, a_values, a_skippedCount, a_reader, a_chainNode, a_chainEnd, a_queue, a_queueLength, a_sent, a_nodeSize, a_nodePlace) (nI s) (nI ty) (nI len) := by
  have h3 := I.2.1
  have hin := I.2.2.2.2.1 (pm_at c) (Nat.le_refl _)
  have hnd : pm_nd c < pm_nn (pm_d c) := hin.1
  have hnn := I.1.2.1
  have hnn1 := I.1.1
  have hnv := I.1.2.2.1
  have hle := pm_pl_le (R := R) (D := pm_d c) (pm_nd c) f
  have i10 := xr_ix (s := s) (k := 10) hs (by omega)
  have c10 : (nI (11 * s) + 10).toNatClampNeg = 11 * s + 10 := i10.2.2
  obtain ⟨g1, g2⟩ := xr_c8 hs
  have hcn := (hch _ (Nat.le_refl _)).1
  unfold wpX_beginPart
  dsimp only
  refine nm_r i10.1 (xw_pt (a := pm_nd c) (n := f) (b := pm_at c) hs I.1 hK hD hnd f1 f2 h3 h7 h10 hcn ⟨g1, nm_r (by rw [g2, hD.1]) ?_⟩)
  have hchain : ∀ mm, pm_at c + 1 ≤ 3 → (∀ i, i ≤ pm_at c + 1 → upd a_chainNode (4 * s + (pm_at c + 1)) (nI mm) (4 * s + i) = nI (pm_u (pm_ins c) (pm_at c + 1) mm i) ∧ upd a_chainEnd (4 * s + (pm_at c + 1)) (nI (t + len)) (4 * s + i) = nI (pm_u (pm_lim c) (pm_at c + 1) (t + len) i)) := by
    intro mm _ i hi
    rw [xr_c4u, xr_c4u]
    by_cases y : i = pm_at c + 1
    · rw [if_pos y, if_pos y, y, pm_us, pm_us]; exact ⟨rfl, rfl⟩
    · rw [if_neg y, if_neg y, pm_un y, pm_un y]; exact hch i (by omega)
  unfold pm_part at H5 H0
  by_cases g : pm_pl R (pm_d c) (pm_nd c) f < pm_nv (pm_d c)
  · rw [if_pos g]
    obtain ⟨_, p2, p3⟩ := pm_pl_lt g
    have hkk : pm_kk K (pm_d c) (pm_pl R (pm_d c) (pm_nd c) f) = K (pm_fj c f) := by
      simp only [pm_kk]; rw [p2, p3]; rfl
    obtain ⟨mm, w1, w2, w3, w4⟩ := (I.1.2.2.2.2.2.1 _ g).2.2.2.2.2 (by rw [hkk]; exact hk)
    have hdep := (I.1.2.2.2.2.1 mm w3).2
    rw [p2, show dep (pm_nd c) = pm_at c from hin.2] at w4
    have hv := (hD.2.2.2 _ g).2
    rw [hkk, if_neg (by omega), w1] at hv
    obtain ⟨c1, c2, c3⟩ := xr_c48 (s := s) (a := pm_pl R (pm_d c) (pm_nd c) f) hs (by omega)
    have hm : (pm_va (pm_d c) (pm_pl R (pm_d c) (pm_nd c) f)).toNatClampNeg = mm := by
      rw [w1, nI_clamp (by omega)]
    rw [if_pos g] at H0
    refine br_f (nI_pos (by omega)) ⟨c2, nm_r (by rw [c3, hv]) ?_⟩
    refine xw_p105 hs (by omega) h2 h10 ?_
    have := H0 _ a_nodeCount a_nodeTypes a_valueCount a_valueOwners a_values (upd a_chainNode (4 * s + (pm_at c + 1)) (nI mm)) (upd a_chainEnd (4 * s + (pm_at c + 1)) (nI (t + len))) rfl rfl rfl rfl rfl hD xr_O_r xr_O_r xr_O_r xr_O_r xr_O_r (xr_O_u (by omega)) (xr_O_u (by omega)) rfl (by rw [hm]; exact hchain mm (by omega))
    exact this
  · rw [if_neg g]
    have hpl : pm_pl R (pm_d c) (pm_nd c) f = pm_nv (pm_d c) := by omega
    rw [if_neg g] at H0 H5
    refine br_t (by decide) (pk_eq (pm_nn (pm_d c)) 16 (fun y => ?_) (fun y1 => ⟨g1, ?_⟩))
    · rw [if_pos (Or.inl y)] at H5; exact H5 rfl
    rw [g2, hD.2.1]
    refine pk_eq (pm_nv (pm_d c)) 48 (fun y => ?_) (fun y2 => ⟨i10.2.1, ?_⟩)
    · rw [if_pos (Or.inr (Or.inl y))] at H5; exact H5 rfl
    rw [c10, h10, nI_1]
    refine pk_eq (pm_at c + 1) 4 (fun y => ?_) (fun y3 => ?_)
    · rw [if_pos (Or.inr (Or.inr (by omega)))] at H5; exact H5 rfl
    rw [if_neg (by omega)] at H0
    refine xw_add hs I.1 hD hnd f2 h3 h7 h10 hcn (by omega) ?_
    obtain ⟨c1, c2⟩ := xr_c16 (s := s) (a := pm_nn (pm_d c)) hs (by omega)
    dsimp only
    rw [c2, hD.1, nI_1]
    refine ⟨c1, nm_e ⟨g1, g1, nm_e ?_⟩⟩
    refine xw_p105 hs (by omega) h2 h10 ?_
    have hX := xr_XD_add (R := R) (K := K) (D := pm_d c) (a := pm_nd c) (n := f) (st := 0) (v := nI (pm_nn (pm_d c))) (xv := nI (pm_nn (pm_d c))) hpl (by omega) hs hD (by rw [if_neg (by show K (pm_fj c f) ≠ 4; omega)])
    refine H0 _ (upd a_nodeCount s (nI (pm_nn (pm_d c) + 1))) (upd a_nodeTypes (16 * s + pm_nn (pm_d c)) (nI ty)) (upd a_valueCount s (nI (pm_nv (pm_d c) + 1))) (upd a_valueOwners (48 * s + pm_nv (pm_d c)) (nI (16 * pm_nd c + f))) (upd a_values (48 * s + pm_nv (pm_d c)) (nI (pm_nn (pm_d c)))) _ _ rfl rfl rfl rfl rfl ?_ xr_O_1 (xr_O_u (by omega)) xr_O_1 (xr_O_u (by omega)) (xr_O_u (by omega)) (xr_O_u (by omega)) (xr_O_u (by omega)) ?_ (hchain _ (by omega))
    · obtain ⟨x1, x2, x3, x4⟩ := hX
      refine ⟨?_, x2, fun i hi => ?_, fun j hj => ?_⟩
      · rw [pm_upd_eq, if_pos rfl]; rfl
      · have hi : i < pm_nn (pm_d c) + 1 := hi
        show upd a_nodeTypes (16 * s + pm_nn (pm_d c)) (nI ty) (16 * s + i) = nI (pm_u (pm_nt (pm_d c)) (pm_nn (pm_d c)) ty i)
        by_cases z : i = pm_nn (pm_d c)
        · rw [z, pm_us, pm_upd_eq, if_pos rfl]
        · rw [pm_un z, pm_upd_eq, if_neg (by omega)]
          exact hD.2.2.1 i (by omega)
      · have hj' : j < pm_nv (pm_kp R (pm_d c) (pm_nd c) f (nI (pm_nn (pm_d c))) 0) := hj
        have hx4 := x4 j hj'
        have hvn : pm_vn (pm_kp R (pm_d c) (pm_nd c) f (nI (pm_nn (pm_d c))) 0) j ≠ pm_nn (pm_d c) := by
          rw [pm_kp_vn, pm_u_eq]
          split
          · omega
          · rename_i z
            rw [pm_kp_nv, if_pos hpl] at hj'
            have := (I.1.2.2.2.2.2.1 j (by omega)).1
            omega
        have hkk : pm_kk K (pm_nn (pm_d c) + 1, pm_u (pm_nt (pm_d c)) (pm_nn (pm_d c)) ty, (pm_kp R (pm_d c) (pm_nd c) f (nI (pm_nn (pm_d c))) 0).2.2) j = pm_kk K (pm_kp R (pm_d c) (pm_nd c) f (nI (pm_nn (pm_d c))) 0) j := by
          show K (16 * pm_u (pm_nt (pm_d c)) (pm_nn (pm_d c)) ty (pm_vn (pm_kp R (pm_d c) (pm_nd c) f (nI (pm_nn (pm_d c))) 0) j) + _) = K (16 * pm_nt (pm_d c) (pm_vn (pm_kp R (pm_d c) (pm_nd c) f (nI (pm_nn (pm_d c))) 0) j) + _)
          rw [pm_un hvn]
          rfl
        rw [← hkk] at hx4
        exact hx4
    · rw [pm_upd_eq, if_neg (by omega)]
end
