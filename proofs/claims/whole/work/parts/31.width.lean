/-! Z1: the widths of numbers -/
section
def sz_ct : Nat → Nat → Nat
  | 0, _ => 0
  | f + 1, r => if r = 0 then 0 else 1 + sz_ct f (r / 128)
theorem sz_ct_0 : ∀ f, sz_ct f 0 = 0
  | 0 => rfl
  | f + 1 => by rw [sz_ct, if_pos rfl]
theorem sz_wd_ct : ∀ f x, sz_wd f x = 1 + sz_ct f (x / 128)
  | 0, x => rfl
  | f + 1, x => by
    rw [sz_wd, sz_ct]
    by_cases h : x / 128 = 0
    · rw [if_pos h, if_pos h]
    · rw [if_neg h, if_neg h, sz_wd_ct f (x / 128)]
variable {f_frameAt f_frameLength f_frameSort f_frameFlags f_frameStream f_down f_entryCount f_most f_typeSeen f_lastSender f_sentLength : Int32} {a_payload a_life a_theyEnded a_weEnded a_finishing a_codes a_windowIn a_windowOut a_headers a_headerCount a_entries a_kinds a_repeats a_messageCount a_text a_nodeCount a_nodeTypes a_valueCount a_valueOwners a_values a_skippedCount a_reader a_chainNode a_chainEnd a_queue a_queueLength a_sent a_nodeSize a_nodePlace : Nat → Int32}
theorem zx_sv {post : Int32 → Prop} : ∀ f j a r, j + f = 10 → r < 2 ^ 62 → post (nI (a + sz_ct f r)) → wX_sizeOfVarint_11 post f_frameAt f_frameLength f_frameSort f_frameFlags f_frameStream f_down f_entryCount f_most f_typeSeen f_lastSender f_sentLength a_payload a_life a_theyEnded a_weEnded a_finishing a_codes a_windowIn a_windowOut a_headers a_headerCount a_entries a_kinds a_repeats a_messageCount a_text a_nodeCount a_nodeTypes a_valueCount a_valueOwners a_values a_skippedCount a_reader a_chainNode a_chainEnd a_queue a_queueLength a_sent a_nodeSize a_nodePlace (f + 1) (nI a) (lN r) (nI j)
  | 0, j, a, r, hj, hr, H => by
    rw [wX_sizeOfVarint_11]
    exact pk_le 10 j (fun _ => H) (fun g => absurd g (by omega))
  | f + 1, j, a, r, hj, hr, H => by
    rw [wX_sizeOfVarint_11]
    refine pk_le 10 j (fun g => absurd g (by omega)) (fun g => ?_)
    rw [sz_ct] at H
    by_cases h0 : r = 0
    · subst h0
      rw [if_pos rfl] at H
      exact br_t rfl H
    · rw [if_neg h0] at H
      refine br_f (fun z => h0 ((pk_lEQ (a := r) (b := 0) (by omega) (by omega)).mp z)) (nm_r (nI_1 _) (nm_r (e' := lN (r / 128)) (wb_shr (k := 7) (by omega) (by omega)) (nm_r (nI_1 _) ?_)))
      refine zx_sv f (j + 1) (a + 1) (r / 128) (by omega) (by omega) ?_
      rw [show a + 1 + sz_ct f (r / 128) = a + (1 + sz_ct f (r / 128)) by omega]
      exact H
theorem zx_size {post : Int32 → Prop} {n : Nat} (hn : n < 2 ^ 64) (H : post (nI (sz_w n))) : wpX_sizeOfVarint post (f_frameAt, f_frameLength, f_frameSort, f_frameFlags, f_frameStream, f_down, f_entryCount, f_most, f_typeSeen, f_lastSender, f_sentLength, a_payload, a_life, a_theyEnded, a_weEnded, a_finishing, a_codes, a_windowIn, a_windowOut, a_headers, a_headerCount, a_entries, a_kinds, a_repeats, a_messageCount, a_text, a_nodeCount, a_nodeTypes, a_valueCount, a_valueOwners, a_values, a_skippedCount, a_reader, a_chainNode, a_chainEnd, a_queue, a_queueLength, a_sent, a_nodeSize, a_nodePlace) (lN n) := by
  unfold wpX_sizeOfVarint
  refine nm_r (e' := lN (n / 128)) (wb_shr (k := 7) hn (by omega)) ⟨10, zx_sv 9 1 1 (n / 128) rfl (by omega) ?_⟩
  rw [← sz_wd_ct]; exact H
theorem zy_w7 {post : Int32 → Prop} : ∀ f g a r, f ≤ g → r < 128 ^ f → r < 2 ^ 31 → post (nI (a + sz_ct g r)) → wY_width_7 post (f + 1) (nI a) (nI r)
  | 0, g, a, r, hg, hr, hr2, H => by
    have : r = 0 := by
      have : r < 1 := hr
      omega
    subst this
    rw [sz_ct_0] at H
    rw [wY_width_7]
    exact br_t rfl H
  | f + 1, g, a, r, hg, hr, hr2, H => by
    obtain ⟨g, rfl⟩ : ∃ g', g = g' + 1 := ⟨g - 1, by omega⟩
    rw [wY_width_7]
    rw [sz_ct] at H
    by_cases h0 : r = 0
    · subst h0
      rw [if_pos rfl] at H
      exact br_t rfl H
    · rw [if_neg h0] at H
      have hlt : r / 128 < 128 ^ f := by
        rw [Nat.pow_succ] at hr
        exact Nat.div_lt_of_lt_mul (by rw [Nat.mul_comm]; exact hr)
      refine br_f (fun z => h0 ((nI_eq (a := r) (b := 0) hr2 (by omega)).mp z)) (nm_r (nI_1 _) (nm_r (e' := nI (r / 128)) (pk_ushrN (by omega) 7 7 (by decide)) ?_))
      refine zy_w7 f g (a + 1) (r / 128) (by omega) hlt (by omega) ?_
      rw [show a + 1 + sz_ct g (r / 128) = a + (1 + sz_ct g (r / 128)) by omega]
      exact H
theorem zy_width {post : Int32 → Prop} {x : Int32} (H : post (nI (sz_w x.toBitVec.toNat))) : wpY_width post x := by
  obtain ⟨n, hn, rfl⟩ := wb_of32 x
  rw [pk_tn hn] at H
  unfold wpY_width
  refine nm_r (e' := nI (n / 128)) (pk_ushrN hn 7 7 (by decide)) ⟨5, zy_w7 4 9 1 (n / 128) (by omega) (by omega) (by omega) ?_⟩
  rw [← sz_wd_ct]; exact H
end
