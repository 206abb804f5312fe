/-! Z6: sizeOfBodies, isPacked, countValues -/
section
variable {f_frameAt f_frameLength f_frameSort f_frameFlags f_frameStream f_down f_entryCount f_most f_typeSeen f_lastSender f_sentLength : Int32} {a_payload a_life a_theyEnded a_weEnded a_finishing a_codes a_windowIn a_windowOut a_headers a_headerCount a_entries a_kinds a_repeats a_messageCount a_text a_nodeCount a_nodeTypes a_valueCount a_valueOwners a_values a_skippedCount a_reader a_chainNode a_chainEnd a_queue a_queueLength a_sent a_nodeSize a_nodePlace : Nat → Int32} {s a n L : Nat} {K : Nat → Nat} {R : Nat → Bool} {D : pm_D} {dep : Nat → Nat} {S : Nat → Nat}
theorem zx_bodies {post : Int32 → Prop} (hs : s < 8) (hK : cr_K a_kinds a_repeats K R) (hD : cr_XD K s a_nodeCount a_nodeTypes a_valueCount a_valueOwners a_values D) (I : pm_DI K L dep D) (hL : L ≤ 200) (hn : n ≤ 15) (ha : a < pm_nn D)
    (hS : ∀ m, a < m → m < pm_nn D → a_nodeSize m = nI (S m) ∧ S m < 2 ^ 31)
    (H : post (nI (sz_sm D a n (fun j => sz_l (K (sz_j D a n)) (pm_va D j) S) (pm_nv D)))) : wpX_sizeOfBodies post (f_frameAt, f_frameLength, f_frameSort, f_frameFlags, f_frameStream, f_down, f_entryCount, f_most, f_typeSeen, f_lastSender, f_sentLength, a_payload, a_life, a_theyEnded, a_weEnded, a_finishing, a_codes, a_windowIn, a_windowOut, a_headers, a_headerCount, a_entries, a_kinds, a_repeats, a_messageCount, a_text, a_nodeCount, a_nodeTypes, a_valueCount, a_valueOwners, a_values, a_skippedCount, a_reader, a_chainNode, a_chainEnd, a_queue, a_queueLength, a_sent, a_nodeSize, a_nodePlace) (nI s) (nI a) (nI n) := by
  have hnn := I.2.1
  have hty := (I.2.2.2.2.1 a ha).1
  have hj : 16 * pm_nt D a + n < 64 := by omega
  unfold wpX_sizeOfBodies
  refine xw_fo hs hD ha (by omega) ⟨vp_in_nI hj (by omega), nm_r (e' := nI (K (sz_j D a n)) + (-1)) (by rw [nI_clamp (by omega)]; exact hK.2.1 _ hj) ⟨pm_nv D + 1, ?_⟩⟩
  exact zx_b20 hs hD I hL hn ha hK.1 hS H (pm_nv D) 0 (by omega)
theorem zx_packed {post : Int32 → Prop} (hs : s < 8) (hK : cr_K a_kinds a_repeats K R) (hD : cr_XD K s a_nodeCount a_nodeTypes a_valueCount a_valueOwners a_values D) (I : pm_DI K L dep D) (hn : n ≤ 15) (ha : a < pm_nn D)
    (H1 : K (sz_j D a n) < 4 ∧ R (sz_j D a n) = true → post 1) (H0 : ¬ (K (sz_j D a n) < 4 ∧ R (sz_j D a n) = true) → post 0) : wpX_isPacked post (f_frameAt, f_frameLength, f_frameSort, f_frameFlags, f_frameStream, f_down, f_entryCount, f_most, f_typeSeen, f_lastSender, f_sentLength, a_payload, a_life, a_theyEnded, a_weEnded, a_finishing, a_codes, a_windowIn, a_windowOut, a_headers, a_headerCount, a_entries, a_kinds, a_repeats, a_messageCount, a_text, a_nodeCount, a_nodeTypes, a_valueCount, a_valueOwners, a_values, a_skippedCount, a_reader, a_chainNode, a_chainEnd, a_queue, a_queueLength, a_sent, a_nodeSize, a_nodePlace) (nI s) (nI a) (nI n) := by
  have hnn := I.2.1
  have hty := (I.2.2.2.2.1 a ha).1
  have hj : 16 * pm_nt D a + n < 64 := by omega
  have yk := yr_k _ (hK.1 (sz_j D a n))
  unfold wpX_isPacked
  refine xw_fo hs hD ha (by omega) ⟨vp_in_nI hj (by omega), ?_⟩
  have e : (nI (16 * pm_nt D a + n)).toNatClampNeg = sz_j D a n := nI_clamp (by omega)
  have hjj : sz_j D a n < 64 := hj
  rw [e, hK.2.2 _ hjj, hK.2.1 _ hjj]
  by_cases hr : R (sz_j D a n) = true
  · rw [if_pos hr]
    refine br_f (by decide) ⟨vp_in_nI hj (by omega), br_c (fun z => H0 (fun w => ?_)) (fun z => H1 ⟨?_, hr⟩)⟩
    · have := yk.2.2.2.1.mp z
      omega
    · rcases Nat.lt_or_ge (K (sz_j D a n)) 4 with w | w
      · exact w
      · exact absurd (yk.2.2.2.1.mpr w) z
  · rw [if_neg hr]
    exact br_t rfl (H0 (fun w => hr w.2))
theorem lo_c_sm (hb : ∀ j, j < pm_nv D → pm_vn D j < 16 ∧ pm_vm D j ≤ 15) (ha : a < 16) (hn : n ≤ 15) : ∀ i, i ≤ pm_nv D → lo_c D (nI a) (nI n) i = sz_sm D a n (fun _ => 1) i
  | 0, _ => rfl
  | i + 1, hi => by
    rw [lo_c, sz_sm, lo_c_sm hb ha hn i (by omega)]
    obtain ⟨b1, b2⟩ := hb i (by omega)
    by_cases z : pm_vn D i = a ∧ pm_vm D i = n
    · rw [if_pos z, if_pos ⟨by rw [z.1], by rw [z.2]⟩]
    · rw [if_neg z, if_neg (fun w => z ⟨(nI_eq (by omega) (by omega)).mp w.1, (nI_eq (by omega) (by omega)).mp w.2⟩)]
end
