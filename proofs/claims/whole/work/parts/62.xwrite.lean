/-! W7: the component writes a message -/
section
variable {f_frameAt f_frameLength f_frameSort f_frameFlags f_frameStream f_down f_entryCount f_most f_typeSeen f_lastSender f_sentLength : Int32} {a_payload a_life a_theyEnded a_weEnded a_finishing a_codes a_windowIn a_windowOut a_headers a_headerCount a_entries a_kinds a_repeats a_messageCount a_text a_nodeCount a_nodeTypes a_valueCount a_valueOwners a_values a_skippedCount a_reader a_chainNode a_chainEnd a_queue a_queueLength a_sent a_nodeSize a_nodePlace : Nat → Int32} {B : Nat → Nat} {K : Nat → Nat} {R : Nat → Bool} {L : Nat} {dep : Nat → Nat} {D : pm_D} {G tx : Nat → Nat} {a n s : Nat}
/-- what a value brings, in the component's loop -/
def xh_l (B : Nat → Nat) (K : Nat → Nat) (R : Nat → Bool) (D : pm_D) (a n : Nat) (pk : Bool) (j : Nat) : List Nat :=
  (if pk = true then [] else [8 * n + pm_w (K (sz_j D a n))]) ++ ct_l B (K (sz_j D a n)) (pm_va D j) (pm_fr D j) (ct_S B K R D)
theorem xf_136 {post : Int32 → SX → Prop} {J : Int32 → Int32 → Int32 → Int32 → Int32 → Int32 → Int32 → Int32 → Int32 → Int32 → Int32 → Int32 → Int32 → (Nat → Int32) → (Nat → Int32) → (Nat → Int32) → (Nat → Int32) → (Nat → Int32) → (Nat → Int32) → (Nat → Int32) → (Nat → Int32) → (Nat → Int32) → (Nat → Int32) → (Nat → Int32) → (Nat → Int32) → (Nat → Int32) → (Nat → Int32) → (Nat → Int32) → (Nat → Int32) → (Nat → Int32) → (Nat → Int32) → (Nat → Int32) → (Nat → Int32) → (Nat → Int32) → (Nat → Int32) → (Nat → Int32) → (Nat → Int32) → (Nat → Int32) → (Nat → Int32) → (Nat → Int32) → (Nat → Int32) → (Nat → Int32) → Prop} {k at' E : Nat} {Q P : Nat → Nat} {np : Nat → Int32} {x8 x9 : Int32} (hs : s < 8) (hB : yr_B tx s B) (hK8 : ∀ j, K j ≤ 8) (hD : cr_XD K s a_nodeCount a_nodeTypes a_valueCount a_valueOwners a_values D) (I : pm_DI K L dep D) (hL : L ≤ 200)
    (hns : ∀ m, m < pm_nn D → a_nodeSize m = nI (sz_S K R D m)) (hk : k < pm_nv D) (e1 : pm_vn D k = a) (e2 : pm_vm D k = n) (hE4 : E ≤ 4000)
    (hJ : wr_J B K R D G a n k Q np P at' E) (hat : ct_at G at' (ct_l B (K (sz_j D a n)) (pm_va D k) (pm_fr D k) (ct_S B K R D))) (hlen : at' + (ct_l B (K (sz_j D a n)) (pm_va D k) (pm_fr D k) (ct_S B K R D)).length ≤ E)
    (H : ∀ Q' np' P', wr_J B K R D G a n (k + 1) Q' np' P' (at' + (ct_l B (K (sz_j D a n)) (pm_va D k) (pm_fr D k) (ct_S B K R D)).length) E →
      J (nI (at' + (ct_l B (K (sz_j D a n)) (pm_va D k) (pm_fr D k) (ct_S B K R D)).length)) (nI (k + 1)) f_frameAt f_frameLength f_frameSort f_frameFlags f_frameStream f_down f_entryCount f_most f_typeSeen f_lastSender f_sentLength a_payload a_life a_theyEnded a_weEnded a_finishing a_codes a_windowIn a_windowOut a_headers a_headerCount a_entries a_kinds a_repeats a_messageCount (an_f tx) a_nodeCount a_nodeTypes a_valueCount a_valueOwners a_values a_skippedCount a_reader a_chainNode a_chainEnd (an_f Q') a_queueLength a_sent a_nodeSize (np')) :
    wX_writeField_136 post J (nI s) (nI a) (nI n) (nI at') (nI (K (sz_j D a n)) + (-1)) x8 x9 (nI k) f_frameAt f_frameLength f_frameSort f_frameFlags f_frameStream f_down f_entryCount f_most f_typeSeen f_lastSender f_sentLength a_payload a_life a_theyEnded a_weEnded a_finishing a_codes a_windowIn a_windowOut a_headers a_headerCount a_entries a_kinds a_repeats a_messageCount (an_f tx) a_nodeCount a_nodeTypes a_valueCount a_valueOwners a_values a_skippedCount a_reader a_chainNode a_chainEnd (an_f Q) a_queueLength a_sent a_nodeSize (np) := by
  have hnn := I.2.1
  have hnv := I.2.2.1
  obtain ⟨v1, v2, v3, v4, v5, v6⟩ := I.2.2.2.2.2.1 k hk
  have ek : pm_kk K D k = K (sz_j D a n) := sz_kk e1 e2
  obtain ⟨g1, g2, g3⟩ := xr_c48 (s := s) (a := k) hs (by omega)
  have hx := (hD.2.2.2 k hk).2
  unfold wX_writeField_136
  rw [g1, g3, hx]
  refine ⟨g2, ?_⟩
  rw [ek] at v4 v5 v6 ⊢
  generalize hkk : K (sz_j D a n) = kk at *
  refine xq_body (fr := pm_fr D k) (v := pm_va D k) (S := sz_S K R D) (g := ct_S B K R D) hs hB (by rw [← hkk]; exact hK8 _) v4 (fun z => ?_) (fun z => if_neg z) (fun z => ?_) (by omega) (fun z => ?_) (fun m hm16 z w el => ?_)
  · obtain ⟨m, m1, m2⟩ := v5 z
    rw [if_pos z, m1, nI_add]
    exact ⟨m, rfl, rfl, by omega⟩
  · obtain ⟨m, m1, m2, m3, m4⟩ := v6 z
    have h31 := sz_S_le (R := R) I hL m
    exact ⟨m, by omega, m1, hns m m3, by omega, ct_S_len m⟩
  · refine nm_r (nI_1 k) (H _ _ P (wr_Jeq (fun m => (wr_skip (fun q => ?_)).symm) (wr_Jput hJ hat)))
    have := q.2.2
    rw [ek] at this
    omega
  · obtain ⟨m', m1, m2, m3, m4⟩ := v6 z
    have em : m' = m := (nI_eq (by omega) (by omega)).mp (m1.symm.trans w)
    subst em
    rw [el] at hat hlen H
    obtain ⟨h1, h2⟩ := ct_at_app.mp hat
    rw [List.length_append, ct_S_len] at hlen H
    have hJ2 := wr_Jput hJ h1
    have hJ3 := wr_Jnew I hk e1 e2 (by rw [ek]; exact z) w (by omega) m3 hJ2 h2 (by omega) hE4
    rw [← Nat.add_assoc] at H
    exact nm_r (nI_1 k) (H _ _ _ hJ3)
theorem xf_88 {post : Int32 → SX → Prop} {F E : Nat} {pk : Bool} {x8 x9 : Int32} (hs : s < 8) (hB : yr_B tx s B) (hK8 : ∀ j, K j ≤ 8) (hD : cr_XD K s a_nodeCount a_nodeTypes a_valueCount a_valueOwners a_values D) (I : pm_DI K L dep D) (hL : L ≤ 200)
    (hns : ∀ m, m < pm_nn D → a_nodeSize m = nI (sz_S K R D m)) (ha : a < 16) (hn : n ≤ 15) (hx8 : (pk = true ∧ ¬ x8 = 0) ∨ (pk = false ∧ x8 = 0)) (hx9 : K (sz_j D a n) ≠ 0 → x9 = nI (8 * n + pm_w (K (sz_j D a n)))) (hE4 : E ≤ 4000) (hFE : F ≤ E)
    (H : ∀ Q' np' P', wr_J B K R D G a n (pm_nv D) Q' np' P' F E → post (nI F) (f_frameAt, f_frameLength, f_frameSort, f_frameFlags, f_frameStream, f_down, f_entryCount, f_most, f_typeSeen, f_lastSender, f_sentLength, a_payload, a_life, a_theyEnded, a_weEnded, a_finishing, a_codes, a_windowIn, a_windowOut, a_headers, a_headerCount, a_entries, a_kinds, a_repeats, a_messageCount, an_f tx, a_nodeCount, a_nodeTypes, a_valueCount, a_valueOwners, a_values, a_skippedCount, a_reader, a_chainNode, a_chainEnd, an_f Q', a_queueLength, a_sent, a_nodeSize, np')) :
    ∀ r k at' Q np P, k + r = pm_nv D → wr_J B K R D G a n k Q np P at' E → ct_at G at' (ct_sf D a n (xh_l B K R D a n pk) r k) → at' + (ct_sf D a n (xh_l B K R D a n pk) r k).length = F →
    wX_writeField_88 post (nI s) (nI a) (nI n) (nI (K (sz_j D a n)) + (-1)) x8 x9 (r + 1) (nI at') (nI k) f_frameAt f_frameLength f_frameSort f_frameFlags f_frameStream f_down f_entryCount f_most f_typeSeen f_lastSender f_sentLength a_payload a_life a_theyEnded a_weEnded a_finishing a_codes a_windowIn a_windowOut a_headers a_headerCount a_entries a_kinds a_repeats a_messageCount (an_f tx) a_nodeCount a_nodeTypes a_valueCount a_valueOwners a_values a_skippedCount a_reader a_chainNode a_chainEnd (an_f Q) a_queueLength a_sent a_nodeSize (np)
  | 0, k, at', Q, np, P, hk, hJ, hat, hF => by
    obtain ⟨c1, c2⟩ := xr_c8 hs
    have hnv := I.2.2.1
    have hF' : at' + 0 = F := hF
    have ek : k = pm_nv D := by omega
    subst ek
    rw [wX_writeField_88]
    dsimp only
    rw [c2, hD.2.1]
    refine ⟨c1, pk_le (pm_nv D) (pm_nv D) (fun _ => ?_) (fun w => by omega)⟩
    have e : F = at' := by omega
    subst e
    exact H Q np P hJ
  | r + 1, k, at', Q, np, P, hk, hJ, hat, hF => by
    obtain ⟨c1, c2⟩ := xr_c8 hs
    have hnv := I.2.2.1
    obtain ⟨g1, g2, g3⟩ := xr_c48 (s := s) (a := k) hs (by omega)
    have hkv : k < pm_nv D := by omega
    obtain ⟨b1, b2⟩ := xr_DB I k hkv
    have ho := (hD.2.2.2 k hkv).1
    have eo : nI a * 16 + nI n = nI (16 * a + n) := by rw [show (16 : Int32) = nI 16 from rfl, pk_mul, nI_add, Nat.mul_comm]
    have hw5 : pm_w (K (sz_j D a n)) ≤ 5 := by
      unfold pm_w
      split
      · omega
      · split <;> omega
    rw [wX_writeField_88]
    dsimp only
    rw [c2, hD.2.1, g1, g3, ho, eo]
    rw [ct_sf] at hat hF
    refine ⟨c1, pk_le (pm_nv D) k (fun w => by omega) (fun _ => ⟨g2, pk_eq (16 * pm_vn D k + pm_vm D k) (16 * a + n) (fun z => ?_) (fun z => ?_)⟩)⟩
    · have z1 : pm_vn D k = a := by omega
      have z2 : pm_vm D k = n := by omega
      rw [if_pos ⟨z1, z2⟩] at hat hF
      obtain ⟨h1, h2⟩ := ct_at_app.mp hat
      rw [List.length_append] at hF
      rcases hx8 with ⟨p1, p2⟩ | ⟨p1, p2⟩
      · have exh : xh_l B K R D a n pk k = ct_l B (K (sz_j D a n)) (pm_va D k) (pm_fr D k) (ct_S B K R D) := by
          unfold xh_l
          rw [if_pos p1, List.nil_append]
        rw [exh] at h1 h2 hF
        refine br_f p2 ?_
        refine xf_136 hs hB hK8 hD I hL hns hkv z1 z2 hE4 hJ h1 (by omega) (fun Q' np' P' hJ' => ?_)
        exact xf_88 hs hB hK8 hD I hL hns ha hn (Or.inl ⟨p1, p2⟩) hx9 hE4 hFE H r (k + 1) _ Q' np' P' (by omega) hJ' h2 (by omega)
      · have exh : xh_l B K R D a n pk k = [8 * n + pm_w (K (sz_j D a n))] ++ ct_l B (K (sz_j D a n)) (pm_va D k) (pm_fr D k) (ct_S B K R D) := by
          unfold xh_l
          rw [if_neg (by rw [p1]; decide)]
        rw [exh] at h1 h2 hF
        obtain ⟨h3, h4⟩ := ct_at_app.mp h1
        rw [List.length_append] at h2 hF
        have e1 : ([8 * n + pm_w (K (sz_j D a n))] : List Nat).length = 1 := rfl
        rw [e1] at h2 h4 hF
        have ev : ct_v (8 * n + pm_w (K (sz_j D a n))) = [8 * n + pm_w (K (sz_j D a n))] := ct_v_1 (by omega)
        refine br_t p2 ?_
        have hK0 : K (sz_j D a n) ≠ 0 := by
          rw [← sz_kk (K := K) z1 z2]
          exact (I.2.2.2.2.2.1 k hkv).2.2.2.1
        rw [hx9 hK0, nI_l (by omega)]
        refine xq_v (by omega) (by rw [ev, e1]; omega) ?_
        rw [ev, e1]
        have hJ1 := wr_Jput hJ h3
        rw [e1] at hJ1
        refine xf_136 hs hB hK8 hD I hL hns hkv z1 z2 hE4 hJ1 h4 (by omega) (fun Q' np' P' hJ' => ?_)
        refine xf_88 hs hB hK8 hD I hL hns ha hn (Or.inr ⟨p1, p2⟩) (fun _ => rfl) hE4 hFE H r (k + 1) _ Q' np' P' (by omega) hJ' ?_ (by omega)
        rw [Nat.add_assoc]
        exact h2
    · rw [if_neg (fun q => z (by rw [q.1, q.2])), List.nil_append] at hat hF
      refine nm_r (nI_1 k) (xf_88 hs hB hK8 hD I hL hns ha hn hx8 hx9 hE4 hFE H r (k + 1) at' Q np P (by omega) (wr_Jeq (fun m => (wr_skip (fun q => z (by rw [q.1, q.2.1]))).symm) hJ) hat hF)
end
