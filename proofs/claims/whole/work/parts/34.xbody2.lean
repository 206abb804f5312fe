/-! Z4: the component's sizes of bodies -/
section
theorem zx_z (x : Int32) : x.toInt64 &&& 4294967295 = lN x.toBitVec.toNat := by
  have hlt : x.toBitVec.toNat < 2 ^ 32 := x.toBitVec.isLt
  have hu : sz_ux x < 2 ^ 64 ∧ sz_ux x % 2 ^ 32 = x.toBitVec.toNat := by
    unfold sz_ux
    split <;> omega
  rw [zx_ext, show (4294967295 : Int64) = lN (2 ^ 32 - 1) from rfl, wb_mask hu.1 (by omega), hu.2]
theorem sz_ux_lt (x : Int32) : sz_ux x < 2 ^ 64 := by
  have hlt : x.toBitVec.toNat < 2 ^ 32 := x.toBitVec.isLt
  unfold sz_ux
  split <;> omega
variable {f_frameAt f_frameLength f_frameSort f_frameFlags f_frameStream f_down f_entryCount f_most f_typeSeen f_lastSender f_sentLength : Int32} {a_payload a_life a_theyEnded a_weEnded a_finishing a_codes a_windowIn a_windowOut a_headers a_headerCount a_entries a_kinds a_repeats a_messageCount a_text a_nodeCount a_nodeTypes a_valueCount a_valueOwners a_values a_skippedCount a_reader a_chainNode a_chainEnd a_queue a_queueLength a_sent a_nodeSize a_nodePlace : Nat → Int32}
theorem zx_body {k : Nat} {xv v : Int32} {S : Nat → Nat} {post : Int32 → Prop} (hk : k ≤ 8) (hk0 : k ≠ 0) (h4 : k = 4 → ∃ m r, m ≤ 200 ∧ r ≤ 200 ∧ xv = nI (256 * r + m) ∧ v = nI m) (hn4 : k ≠ 4 → xv = v)
    (h5 : 4 < k → ∃ m, m < 16 ∧ v = nI m ∧ a_nodeSize m = nI (S m) ∧ S m < 2 ^ 31) (H : post (nI (sz_l k v S))) : wpX_sizeOfBody post (f_frameAt, f_frameLength, f_frameSort, f_frameFlags, f_frameStream, f_down, f_entryCount, f_most, f_typeSeen, f_lastSender, f_sentLength, a_payload, a_life, a_theyEnded, a_weEnded, a_finishing, a_codes, a_windowIn, a_windowOut, a_headers, a_headerCount, a_entries, a_kinds, a_repeats, a_messageCount, a_text, a_nodeCount, a_nodeTypes, a_valueCount, a_valueOwners, a_values, a_skippedCount, a_reader, a_chainNode, a_chainEnd, a_queue, a_queueLength, a_sent, a_nodeSize, a_nodePlace) (nI k + (-1)) xv := by
  have yk := xr_k2 k hk
  have yk2 := yr_k k hk
  unfold wpX_sizeOfBody
  dsimp only
  unfold sz_l sz_b at H
  refine br_f (fun z => hk0 (yk2.2.2.1.mp z)) (br_c (fun z => ?_) (fun z => ?_))
  · have k5 : 4 < k := by
      rcases Nat.lt_or_ge 4 k with w | w
      · exact w
      · exact absurd (Int32.lt_of_lt_of_le z (yk2.2.2.2.2.1.mpr w)) (by decide)
    have kn : k ≠ 1 ∧ k ≠ 2 ∧ k ≠ 3 ∧ k ≠ 4 ∧ 3 < k := ⟨by omega, by omega, by omega, by omega, by omega⟩
    obtain ⟨m, m1, m2, m3, m4⟩ := h5 k5
    have exv := hn4 kn.2.2.2.1
    have in16 : vp_in (nI m) 16 := vp_in_nI m1 (by decide)
    have hcl : (nI m).toNatClampNeg = m := nI_clamp (sz_16 m1)
    rw [if_neg kn.1, if_neg kn.2.1, if_neg kn.2.2.1, if_neg kn.2.2.2.1, if_pos kn.2.2.2.2, m2, hcl, Nat.add_comm, ← nI_add] at H
    rw [exv, m2, hcl, m3, nI_l m4]
    exact ⟨in16, zx_size (Nat.lt_trans m4 (by decide)) ⟨in16, H⟩⟩
  · refine br_c (fun z0 => ?_) (fun z0 => ?_)
    · have k1 := yk.2.1.mp z0
      subst k1
      rw [if_pos rfl, if_neg (by decide), Nat.add_zero] at H
      rw [hn4 (by decide), zx_ext]
      exact zx_size (sz_ux_lt v) H
    · have k1 : k ≠ 1 := fun w => z0 (yk.2.1.mpr w)
      rw [if_neg k1] at H
      refine br_c (fun z1 => ?_) (fun z1 => ?_)
      · have k2 := yk.2.2.1.mp z1
        subst k2
        rw [if_pos rfl, if_neg (by decide), Nat.add_zero] at H
        rw [hn4 (by decide)]
        unfold wpX_zigzag
        dsimp only
        rw [zx_z]
        exact zx_size (Nat.lt_trans (BitVec.isLt _) (by decide)) H
      · have k2 : k ≠ 2 := fun w => z1 (yk.2.2.1.mpr w)
        rw [if_neg k2] at H
        refine br_c (fun z2 => ?_) (fun z2 => ?_)
        · have k3 := yk.2.2.2.1.mp z2
          subst k3
          rw [if_pos rfl, if_neg (by decide), Nat.add_zero] at H
          exact H
        · have k3 : k ≠ 3 := fun w => z2 (yk.2.2.2.1.mpr w)
          rw [if_neg k3] at H
          refine br_c (fun z3 => ?_) (fun z3 => True.intro)
          have k4 := yk.2.2.2.2.1.mp z3
          obtain ⟨m, r, m1, m2, m3, m4⟩ := h4 k4
          subst k4
          have hm31 : m < 2 ^ 31 := Nat.lt_of_le_of_lt m1 (by decide)
          rw [if_pos rfl, if_pos (by decide), m4, nI_clamp hm31, Nat.add_comm, ← nI_add] at H
          rw [m3, lo_and m2 m1, nI_l hm31]
          exact zx_size (Nat.lt_trans hm31 (by decide)) H
end
