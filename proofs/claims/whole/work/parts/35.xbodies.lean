/-! Z5: the component's sizes of fields -/
section
variable {f_frameAt f_frameLength f_frameSort f_frameFlags f_frameStream f_down f_entryCount f_most f_typeSeen f_lastSender f_sentLength : Int32} {a_payload a_life a_theyEnded a_weEnded a_finishing a_codes a_windowIn a_windowOut a_headers a_headerCount a_entries a_kinds a_repeats a_messageCount a_text a_nodeCount a_nodeTypes a_valueCount a_valueOwners a_values a_skippedCount a_reader a_chainNode a_chainEnd a_queue a_queueLength a_sent a_nodeSize a_nodePlace : Nat → Int32} {s a n L : Nat} {K : Nat → Nat} {R : Nat → Bool} {D : pm_D} {dep : Nat → Nat} {S : Nat → Nat}
theorem zx_b20 {post : Int32 → Prop} (hs : s < 8) (hD : cr_XD K s a_nodeCount a_nodeTypes a_valueCount a_valueOwners a_values D) (I : pm_DI K L dep D) (hL : L ≤ 200) (hn : n ≤ 15) (ha : a < pm_nn D) (hK8 : ∀ j, K j ≤ 8)
    (hS : ∀ m, a < m → m < pm_nn D → a_nodeSize m = nI (S m) ∧ S m < 2 ^ 31)
    (H : post (nI (sz_sm D a n (fun j => sz_l (K (sz_j D a n)) (pm_va D j) S) (pm_nv D)))) : ∀ f i, i + f = pm_nv D →
    wX_sizeOfBodies_20 post (nI s) (nI a) (nI n) (nI (K (sz_j D a n)) + (-1)) f_frameAt f_frameLength f_frameSort f_frameFlags f_frameStream f_down f_entryCount f_most f_typeSeen f_lastSender f_sentLength a_payload a_life a_theyEnded a_weEnded a_finishing a_codes a_windowIn a_windowOut a_headers a_headerCount a_entries a_kinds a_repeats a_messageCount a_text a_nodeCount a_nodeTypes a_valueCount a_valueOwners a_values a_skippedCount a_reader a_chainNode a_chainEnd a_queue a_queueLength a_sent a_nodeSize a_nodePlace (f + 1) (nI (sz_sm D a n (fun j => sz_l (K (sz_j D a n)) (pm_va D j) S) i)) (nI i)
  | 0, i, hi => by
    have hnv := I.2.2.1
    have : i = pm_nv D := by omega
    subst this
    rw [wX_sizeOfBodies_20]
    refine ⟨(xr_c8 hs).1, ?_⟩
    rw [(xr_c8 hs).2, hD.2.1]
    exact pk_le (pm_nv D) (pm_nv D) (fun _ => H) (fun g => absurd g (by omega))
  | f + 1, i, hi => by
    have hnv := I.2.2.1
    have hnn := I.2.1
    rw [wX_sizeOfBodies_20]
    refine ⟨(xr_c8 hs).1, ?_⟩
    rw [(xr_c8 hs).2, hD.2.1]
    refine pk_le (pm_nv D) i (fun g => absurd g (by omega)) (fun g => ?_)
    obtain ⟨c1, c2, c3⟩ := xr_c48 (s := s) (a := i) hs (by omega)
    rw [c1, c3, (hD.2.2.2 i g).1]
    obtain ⟨b1, b2⟩ := xr_DB I i g
    have ho := lo_own (D := D) (a := a) (n := n) (by omega) hn b1 b2
    have ih := zx_b20 hs hD I hL hn ha hK8 hS H f (i + 1) (by omega)
    rw [sz_sm] at ih
    refine ⟨c2, br_c (fun w => ⟨c2, ?_⟩) (fun w => ?_)⟩
    · have hw := ho.mp w
      have e1 : pm_vn D i = a := (nI_eq (by omega) (by omega)).mp hw.1
      have e2 : pm_vm D i = n := (nI_eq (by omega) (by omega)).mp hw.2
      have ek : pm_kk K D i = K (sz_j D a n) := by
        unfold sz_j; simp only [pm_kk]; rw [e1, e2]
      rw [if_pos ⟨e1, e2⟩] at ih
      have hv := (hD.2.2.2 i g).2
      obtain ⟨v1, v2, v3, v4, v5, v6⟩ := I.2.2.2.2.2.1 i g
      rw [ek] at hv v4 v5 v6
      refine zx_body (v := pm_va D i) (S := S) (hK8 _) v4 (fun z4 => ?_) (fun z4 => ?_) (fun z5 => ?_) (nm_r (nI_add _ _) (nm_r (nI_1 _) ih))
      · obtain ⟨m, m1, m2⟩ := v5 z4
        rw [if_pos z4, m1, nI_add] at hv
        exact ⟨m, pm_fr D i, by clear v5 v6; omega, by clear v5 v6; omega, hv, m1⟩
      · rw [if_neg z4] at hv; exact hv
      · obtain ⟨m, m1, m2, m3, m4⟩ := v6 z5
        rw [e1] at m2
        obtain ⟨s1, s2⟩ := hS m m2 m3
        exact ⟨m, Nat.lt_of_lt_of_le m3 hnn, m1, s1, s2⟩
    · rw [if_neg (fun z => w (ho.mpr ⟨by rw [z.1], by rw [z.2]⟩)), Nat.add_zero] at ih
      exact nm_r (nI_1 _) ih
end
