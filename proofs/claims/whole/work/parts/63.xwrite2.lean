/-! W8: the component writes fields and nodes -/
section
variable {f_frameAt f_frameLength f_frameSort f_frameFlags f_frameStream f_down f_entryCount f_most f_typeSeen f_lastSender f_sentLength : Int32} {a_payload a_life a_theyEnded a_weEnded a_finishing a_codes a_windowIn a_windowOut a_headers a_headerCount a_entries a_kinds a_repeats a_messageCount a_text a_nodeCount a_nodeTypes a_valueCount a_valueOwners a_values a_skippedCount a_reader a_chainNode a_chainEnd a_queue a_queueLength a_sent a_nodeSize a_nodePlace : Nat → Int32} {B : Nat → Nat} {K : Nat → Nat} {R : Nat → Bool} {L : Nat} {dep : Nat → Nat} {D : pm_D} {G tx : Nat → Nat} {a n s : Nat}
theorem xw_wire0 {post : Int32 → Prop} {k : Nat} (hk : k ≤ 8) (H : ∀ x, (k ≠ 0 → x = nI (pm_w k)) → post x) : wpX_wireOf post (f_frameAt, f_frameLength, f_frameSort, f_frameFlags, f_frameStream, f_down, f_entryCount, f_most, f_typeSeen, f_lastSender, f_sentLength, a_payload, a_life, a_theyEnded, a_weEnded, a_finishing, a_codes, a_windowIn, a_windowOut, a_headers, a_headerCount, a_entries, a_kinds, a_repeats, a_messageCount, a_text, a_nodeCount, a_nodeTypes, a_valueCount, a_valueOwners, a_values, a_skippedCount, a_reader, a_chainNode, a_chainEnd, a_queue, a_queueLength, a_sent, a_nodeSize, a_nodePlace) (nI k + (-1)) := by
  by_cases h0 : k = 0
  · subst h0
    unfold wpX_wireOf
    exact br_f (by decide) (br_f (by decide) (br_f (by decide) (H 2 (fun w => absurd rfl w))))
  · exact xw_wire hk h0 (H _ (fun _ => rfl))
theorem xf_72 {post : Int32 → SX → Prop} {F E at' : Nat} {pk : Bool} {x8 : Int32} {Q P : Nat → Nat} {np : Nat → Int32} (hs : s < 8) (hB : yr_B tx s B) (hK8 : ∀ j, K j ≤ 8) (hD : cr_XD K s a_nodeCount a_nodeTypes a_valueCount a_valueOwners a_values D) (I : pm_DI K L dep D) (hL : L ≤ 200)
    (hns : ∀ m, m < pm_nn D → a_nodeSize m = nI (sz_S K R D m)) (ha : a < 16) (hn : n ≤ 15) (hx8 : (pk = true ∧ ¬ x8 = 0) ∨ (pk = false ∧ x8 = 0)) (hE4 : E ≤ 4000) (hFE : F ≤ E)
    (hJ : wr_J B K R D G a n 0 Q np P at' E) (hat : ct_at G at' (ct_sf D a n (xh_l B K R D a n pk) (pm_nv D) 0)) (hF : at' + (ct_sf D a n (xh_l B K R D a n pk) (pm_nv D) 0).length = F)
    (H : ∀ Q' np' P', wr_J B K R D G a n (pm_nv D) Q' np' P' F E → post (nI F) (f_frameAt, f_frameLength, f_frameSort, f_frameFlags, f_frameStream, f_down, f_entryCount, f_most, f_typeSeen, f_lastSender, f_sentLength, a_payload, a_life, a_theyEnded, a_weEnded, a_finishing, a_codes, a_windowIn, a_windowOut, a_headers, a_headerCount, a_entries, a_kinds, a_repeats, a_messageCount, an_f tx, a_nodeCount, a_nodeTypes, a_valueCount, a_valueOwners, a_values, a_skippedCount, a_reader, a_chainNode, a_chainEnd, an_f Q', a_queueLength, a_sent, a_nodeSize, np')) :
    wX_writeField_72 post (nI s) (nI a) (nI n) (nI at') (nI (K (sz_j D a n)) + (-1)) x8 f_frameAt f_frameLength f_frameSort f_frameFlags f_frameStream f_down f_entryCount f_most f_typeSeen f_lastSender f_sentLength a_payload a_life a_theyEnded a_weEnded a_finishing a_codes a_windowIn a_windowOut a_headers a_headerCount a_entries a_kinds a_repeats a_messageCount (an_f tx) a_nodeCount a_nodeTypes a_valueCount a_valueOwners a_values a_skippedCount a_reader a_chainNode a_chainEnd (an_f Q) a_queueLength a_sent a_nodeSize (np) := by
  unfold wX_writeField_72
  refine xw_wire0 (hK8 _) (fun x hx => nm_e ⟨pm_nv D + 1, ?_⟩)
  refine xf_88 hs hB hK8 hD I hL hns ha hn hx8 (fun w => ?_) hE4 hFE H (pm_nv D) 0 at' Q np P (by omega) hJ hat hF
  rw [hx w, show (8 : Int32) = nI 8 from rfl, pk_mul, nI_add, Nat.mul_comm]
theorem xf_field {post : Int32 → SX → Prop} {E at' : Nat} {Q P : Nat → Nat} {np : Nat → Int32} (hs : s < 8) (hB : yr_B tx s B) (hK : cr_K a_kinds a_repeats K R) (hD : cr_XD K s a_nodeCount a_nodeTypes a_valueCount a_valueOwners a_values D) (I : pm_DI K L dep D) (hL : L ≤ 200)
    (hns : ∀ m, m < pm_nn D → a_nodeSize m = nI (sz_S K R D m)) (ha : a < pm_nn D) (h1 : 1 ≤ n) (hn : n ≤ 15) (hE4 : E ≤ 4000)
    (hJ : wr_J B K R D G a n 0 Q np P at' E) (hat : ct_at G at' (ct_f B K R D (ct_S B K R D) a n)) (hlen : at' + (ct_f B K R D (ct_S B K R D) a n).length ≤ E)
    (H : ∀ Q' np' P', wr_J B K R D G a (n + 1) 0 Q' np' P' (at' + (ct_f B K R D (ct_S B K R D) a n).length) E → post (nI (at' + (ct_f B K R D (ct_S B K R D) a n).length)) (f_frameAt, f_frameLength, f_frameSort, f_frameFlags, f_frameStream, f_down, f_entryCount, f_most, f_typeSeen, f_lastSender, f_sentLength, a_payload, a_life, a_theyEnded, a_weEnded, a_finishing, a_codes, a_windowIn, a_windowOut, a_headers, a_headerCount, a_entries, a_kinds, a_repeats, a_messageCount, an_f tx, a_nodeCount, a_nodeTypes, a_valueCount, a_valueOwners, a_values, a_skippedCount, a_reader, a_chainNode, a_chainEnd, an_f Q', a_queueLength, a_sent, a_nodeSize, np')) :
    wpX_writeField post (f_frameAt, f_frameLength, f_frameSort, f_frameFlags, f_frameStream, f_down, f_entryCount, f_most, f_typeSeen, f_lastSender, f_sentLength, a_payload, a_life, a_theyEnded, a_weEnded, a_finishing, a_codes, a_windowIn, a_windowOut, a_headers, a_headerCount, a_entries, a_kinds, a_repeats, a_messageCount, an_f tx, a_nodeCount, a_nodeTypes, a_valueCount, a_valueOwners, a_values, a_skippedCount, a_reader, a_chainNode, a_chainEnd, an_f Q, a_queueLength, a_sent, a_nodeSize, np) (nI s) (nI a) (nI n) (nI at') := by
  have hnn := I.2.1
  have hty := (I.2.2.2.2.1 a ha).1
  have hj : sz_j D a n < 64 := by
    unfold sz_j
    omega
  have hcl : (nI (16 * pm_nt D a + n)).toNatClampNeg = sz_j D a n := nI_clamp (by unfold sz_j at hj; omega)
  have hg : (fun m => (ct_S B K R D m).length) = sz_S K R D := funext (fun m => ct_S_len m)
  obtain ⟨b1, b2⟩ := sz_bd_le (R := R) I hL ha h1 hn
  have hH' : ∀ F Q' np' P', F = at' + (ct_f B K R D (ct_S B K R D) a n).length → wr_J B K R D G a n (pm_nv D) Q' np' P' F E → post (nI F) (f_frameAt, f_frameLength, f_frameSort, f_frameFlags, f_frameStream, f_down, f_entryCount, f_most, f_typeSeen, f_lastSender, f_sentLength, a_payload, a_life, a_theyEnded, a_weEnded, a_finishing, a_codes, a_windowIn, a_windowOut, a_headers, a_headerCount, a_entries, a_kinds, a_repeats, a_messageCount, an_f tx, a_nodeCount, a_nodeTypes, a_valueCount, a_valueOwners, a_values, a_skippedCount, a_reader, a_chainNode, a_chainEnd, an_f Q', a_queueLength, a_sent, a_nodeSize, np') := by
    intro F Q' np' P' e hJ'
    subst e
    exact H Q' np' P' (wr_Jeq (fun m => wr_field) hJ')
  unfold wpX_writeField
  refine xw_fo hs hD ha (by omega) ⟨vp_in_nI hj (by omega), nm_r (e' := nI (K (sz_j D a n)) + (-1)) (by rw [hcl]; exact hK.2.1 _ hj) ?_⟩
  refine zx_bd (R := R) hs hK hD I hL hn ha (fun m _ g => hns m g) ?_
  refine zx_packed hs hK hD I hn ha (fun p => ?_) (fun p => ?_)
  · -- packed
    have hrow : ct_sf D a n (xh_l B K R D a n true) (pm_nv D) 0 = ct_row B K D (ct_S B K R D) a n (pm_nv D) := by
      rw [ct_sf_all]
      refine ct_sm_g _ (fun j _ _ _ => ?_)
      unfold xh_l ct_l
      rw [if_pos rfl, if_neg (by omega)]
      rfl
    have hrl : (ct_row B K D (ct_S B K R D) a n (pm_nv D)).length = sz_bd K D (sz_S K R D) a n := by
      rw [ct_row_len, hg, sz_bd_r p.1]; rfl
    have ef : ct_f B K R D (ct_S B K R D) a n = (if sz_bd K D (sz_S K R D) a n = 0 then [] else ct_hd n (sz_bd K D (sz_S K R D) a n)) ++ ct_row B K D (ct_S B K R D) a n (pm_nv D) := by
      unfold ct_f
      rw [if_pos p, hrl]
    rw [ef] at hat hlen hH'
    rw [List.length_append, hrl] at hlen hH'
    refine pk_le (sz_bd K D (sz_S K R D) a n) 0 (fun z => ?_) (fun z => br_f (by decide) ?_)
    · rw [if_pos (by omega), List.nil_append] at hat
      rw [if_pos (by omega)] at hlen hH'
      rw [← hrow] at hat
      rw [List.length_nil] at hlen hH'
      exact xf_72 (F := at' + (0 + sz_bd K D (sz_S K R D) a n)) hs hB hK.1 hD I hL hns (by omega) hn (Or.inl ⟨rfl, by decide⟩) hE4 (by omega) hJ hat (by rw [hrow, hrl]; omega) (fun Q' np' P' hJ' => hH' _ Q' np' P' rfl hJ')
    · rw [if_neg (by omega)] at hat hlen hH'
      have hl1 : (ct_hd n (sz_bd K D (sz_S K R D) a n)).length = 1 + (ct_v (sz_bd K D (sz_S K R D) a n)).length := by
        unfold ct_hd; rw [List.length_cons]; omega
      obtain ⟨q1, q2⟩ := ct_at_app.mp hat
      have q1' : ct_at G at' ([8 * n + 2] ++ ct_v (sz_bd K D (sz_S K R D) a n)) := q1
      obtain ⟨q3, q4⟩ := ct_at_app.mp q1'
      have e1 : ([8 * n + 2] : List Nat).length = 1 := rfl
      rw [e1] at q4
      rw [hl1] at hlen hH' q2
      have ev : ct_v (8 * n + 2) = [8 * n + 2] := ct_v_1 (by omega)
      have en : nI n * 8 + 2 = nI (8 * n + 2) := by rw [show (8 : Int32) = nI 8 from rfl, pk_mul, show (2 : Int32) = nI 2 from rfl, nI_add, Nat.mul_comm]
      rw [en, nI_l (n := 8 * n + 2) (by omega)]
      refine xq_v (x := 8 * n + 2) (by omega) (by rw [ev, e1]; omega) ?_
      rw [ev, e1]
      dsimp only
      rw [nI_l (n := sz_bd K D (sz_S K R D) a n) (by omega)]
      have hJ1 := wr_Jput hJ q3
      rw [e1] at hJ1
      have hJ2 := wr_Jput hJ1 q4
      refine xq_v (x := sz_bd K D (sz_S K R D) a n) (by omega) (by omega) ?_
      dsimp only
      rw [← hrow, ← Nat.add_assoc] at q2
      exact xf_72 (F := at' + (1 + (ct_v (sz_bd K D (sz_S K R D) a n)).length + sz_bd K D (sz_S K R D) a n)) hs hB hK.1 hD I hL hns (by omega) hn (Or.inl ⟨rfl, by decide⟩) hE4 (by omega) hJ2 q2 (by rw [hrow, hrl]; omega) (fun Q' np' P' hJ' => hH' _ Q' np' P' rfl hJ')
  · have hone : ct_sf D a n (xh_l B K R D a n false) (pm_nv D) 0 = ct_f B K R D (ct_S B K R D) a n := by
      rw [ct_sf_all]
      unfold ct_f
      rw [if_neg p]
      rfl
    have h72 : wX_writeField_72 post (nI s) (nI a) (nI n) (nI at') (nI (K (sz_j D a n)) + (-1)) 0 f_frameAt f_frameLength f_frameSort f_frameFlags f_frameStream f_down f_entryCount f_most f_typeSeen f_lastSender f_sentLength a_payload a_life a_theyEnded a_weEnded a_finishing a_codes a_windowIn a_windowOut a_headers a_headerCount a_entries a_kinds a_repeats a_messageCount (an_f tx) a_nodeCount a_nodeTypes a_valueCount a_valueOwners a_values a_skippedCount a_reader a_chainNode a_chainEnd (an_f Q) a_queueLength a_sent a_nodeSize (np) :=
      xf_72 (pk := false) (F := at' + (ct_f B K R D (ct_S B K R D) a n).length) hs hB hK.1 hD I hL hns (by omega) hn (Or.inr ⟨rfl, rfl⟩) hE4 hlen hJ (by rw [hone]; exact hat) (by rw [hone]) (fun Q' np' P' hJ' => hH' _ Q' np' P' rfl hJ')
    exact br_c (fun _ => h72) (fun _ => br_t rfl h72)
theorem xf_80 {post : SX → Prop} {J : Int32 → Int32 → Int32 → Int32 → Int32 → Int32 → Int32 → Int32 → Int32 → Int32 → Int32 → Int32 → (Nat → Int32) → (Nat → Int32) → (Nat → Int32) → (Nat → Int32) → (Nat → Int32) → (Nat → Int32) → (Nat → Int32) → (Nat → Int32) → (Nat → Int32) → (Nat → Int32) → (Nat → Int32) → (Nat → Int32) → (Nat → Int32) → (Nat → Int32) → (Nat → Int32) → (Nat → Int32) → (Nat → Int32) → (Nat → Int32) → (Nat → Int32) → (Nat → Int32) → (Nat → Int32) → (Nat → Int32) → (Nat → Int32) → (Nat → Int32) → (Nat → Int32) → (Nat → Int32) → (Nat → Int32) → (Nat → Int32) → (Nat → Int32) → Prop} {x2 : Int32} {E : Nat} (hs : s < 8) (hB : yr_B tx s B) (hK : cr_K a_kinds a_repeats K R) (hD : cr_XD K s a_nodeCount a_nodeTypes a_valueCount a_valueOwners a_values D) (I : pm_DI K L dep D) (hL : L ≤ 200)
    (hns : ∀ m, m < pm_nn D → a_nodeSize m = nI (sz_S K R D m)) (ha : a < pm_nn D) (hE4 : E ≤ 4000)
    (H : ∀ Q' np' P', wr_J B K R D G a 16 0 Q' np' P' E E → J (nI (a + 1)) f_frameAt f_frameLength f_frameSort f_frameFlags f_frameStream f_down f_entryCount f_most f_typeSeen f_lastSender f_sentLength a_payload a_life a_theyEnded a_weEnded a_finishing a_codes a_windowIn a_windowOut a_headers a_headerCount a_entries a_kinds a_repeats a_messageCount (an_f tx) a_nodeCount a_nodeTypes a_valueCount a_valueOwners a_values a_skippedCount a_reader a_chainNode a_chainEnd (an_f Q') a_queueLength a_sent a_nodeSize (np')) :
    ∀ r n at' Q np P, 1 ≤ n → n + r = 16 → wr_J B K R D G a n 0 Q np P at' E → ct_at G at' (ct_nf (ct_f B K R D (ct_S B K R D) a) r n) → at' + (ct_nf (ct_f B K R D (ct_S B K R D) a) r n).length = E →
    wX_writeMessage_80 post J (nI s) x2 (nI a) (r + 1) (nI at') (nI n) f_frameAt f_frameLength f_frameSort f_frameFlags f_frameStream f_down f_entryCount f_most f_typeSeen f_lastSender f_sentLength a_payload a_life a_theyEnded a_weEnded a_finishing a_codes a_windowIn a_windowOut a_headers a_headerCount a_entries a_kinds a_repeats a_messageCount (an_f tx) a_nodeCount a_nodeTypes a_valueCount a_valueOwners a_values a_skippedCount a_reader a_chainNode a_chainEnd (an_f Q) a_queueLength a_sent a_nodeSize (np)
  | 0, n, at', Q, np, P, h1, hr, hJ, hat, hE => by
    have en : n = 16 := by omega
    subst en
    have e : E = at' := by
      have : at' + 0 = E := hE
      omega
    subst e
    rw [wX_writeMessage_80]
    exact br_t (by decide) (nm_r (nI_1 a) (H Q np P hJ))
  | r + 1, n, at', Q, np, P, h1, hr, hJ, hat, hE => by
    rw [ct_nf] at hat hE
    obtain ⟨q1, q2⟩ := ct_at_app.mp hat
    rw [List.length_append] at hE
    rw [wX_writeMessage_80]
    refine pk_le 16 n (fun w => by omega) (fun _ => xf_field hs hB hK hD I hL hns ha h1 (by omega) hE4 hJ q1 (by omega) (fun Q' np' P' hJ' => nm_r (nI_1 n) ?_))
    exact xf_80 hs hB hK hD I hL hns ha hE4 H r (n + 1) _ Q' np' P' (by omega) (by omega) hJ' q2 (by omega)
theorem xf_57 {post : SX → Prop} {x2 : Int32} (hs : s < 8) (hB : yr_B tx s B) (hK : cr_K a_kinds a_repeats K R) (hD : cr_XD K s a_nodeCount a_nodeTypes a_valueCount a_valueOwners a_values D) (I : pm_DI K L dep D) (hL : L ≤ 200)
    (hns : ∀ m, m < pm_nn D → a_nodeSize m = nI (sz_S K R D m))
    (H : ∀ np' : Nat → Int32, post (f_frameAt, f_frameLength, f_frameSort, f_frameFlags, f_frameStream, f_down, f_entryCount, f_most, f_typeSeen, f_lastSender, f_sentLength, a_payload, a_life, a_theyEnded, a_weEnded, a_finishing, a_codes, a_windowIn, a_windowOut, a_headers, a_headerCount, a_entries, a_kinds, a_repeats, a_messageCount, an_f tx, a_nodeCount, a_nodeTypes, a_valueCount, a_valueOwners, a_values, a_skippedCount, a_reader, a_chainNode, a_chainEnd, an_f G, upd a_queueLength s (a_queueLength s + (3 + x2)), a_sent, a_nodeSize, np')) :
    ∀ r a Q np P at', a + (r + 1) = pm_nn D → np a = nI at' → ct_at G at' (ct_S B K R D a) → at' + sz_S K R D a ≤ 4000 → wr_J B K R D G a 1 0 Q np P at' (at' + sz_S K R D a) →
    wX_writeMessage_57 post (nI s) x2 (r + 1 + 1) (nI a) f_frameAt f_frameLength f_frameSort f_frameFlags f_frameStream f_down f_entryCount f_most f_typeSeen f_lastSender f_sentLength a_payload a_life a_theyEnded a_weEnded a_finishing a_codes a_windowIn a_windowOut a_headers a_headerCount a_entries a_kinds a_repeats a_messageCount (an_f tx) a_nodeCount a_nodeTypes a_valueCount a_valueOwners a_values a_skippedCount a_reader a_chainNode a_chainEnd (an_f Q) a_queueLength a_sent a_nodeSize (np) := by
  intro r
  induction r with
  | zero =>
    intro a Q np P at' har hnp hat h4 hJ
    obtain ⟨c1, c2⟩ := xr_c8 hs
    have hnn := I.2.1
    have hall : ct_nf (ct_f B K R D (ct_S B K R D) a) 15 1 = ct_S B K R D a := by rw [ct_nf_all, ct_S_e I (by omega)]; rfl
    rw [wX_writeMessage_57]
    dsimp only
    rw [c2, hD.1]
    refine ⟨c1, pk_le (pm_nn D) a (fun w => by omega) (fun _ => ⟨vp_in_nI (by omega) (by omega), nm_r (e' := nI at') (by rw [nI_clamp (by omega)]; exact hnp) ⟨16, ?_⟩⟩)⟩
    refine xf_80 hs hB hK hD I hL hns (by omega) h4 (fun Q' np' P' hJ' => ?_) 15 1 at' Q np P (by omega) (by omega) hJ (by rw [hall]; exact hat) (by rw [hall, ct_S_len])
    have hQ : Q' = G := wr_Jend (by omega) hJ'
    subst hQ
    rw [wX_writeMessage_57]
    dsimp only
    rw [c2, hD.1]
    exact ⟨c1, pk_le (pm_nn D) (a + 1) (fun _ => ⟨c1, c1, nm_e (H np')⟩) (fun w => by omega)⟩
  | succ r ih =>
    intro a Q np P at' har hnp hat h4 hJ
    obtain ⟨c1, c2⟩ := xr_c8 hs
    have hnn := I.2.1
    have hall : ct_nf (ct_f B K R D (ct_S B K R D) a) 15 1 = ct_S B K R D a := by rw [ct_nf_all, ct_S_e I (by omega)]; rfl
    rw [wX_writeMessage_57]
    dsimp only
    rw [c2, hD.1]
    refine ⟨c1, pk_le (pm_nn D) a (fun w => by omega) (fun _ => ⟨vp_in_nI (by omega) (by omega), nm_r (e' := nI at') (by rw [nI_clamp (by omega)]; exact hnp) ⟨16, ?_⟩⟩)⟩
    refine xf_80 hs hB hK hD I hL hns (by omega) h4 (fun Q' np' P' hJ' => ?_) 15 1 at' Q np P (by omega) (by omega) hJ (by rw [hall]; exact hat) (by rw [hall, ct_S_len])
    obtain ⟨p1, p2, p3, p4⟩ := wr_Jnode I (by omega) hJ'
    exact ih (a + 1) Q' np' P' (P' (a + 1)) (by omega) p1 p2 p3 p4
theorem xf_message {post : SX → Prop} {ql Q1 : Nat → Nat} {q N : Nat} (hs : s < 8) (hB : yr_B tx s B) (hK : cr_K a_kinds a_repeats K R) (hD : cr_XD K s a_nodeCount a_nodeTypes a_valueCount a_valueOwners a_values D) (I : pm_DI K L dep D) (hL : L ≤ 200)
    (hns : ∀ m, m < pm_nn D → a_nodeSize m = nI (sz_S K R D m)) (hq : ql s = q) (hN : N = sz_S K R D 0) (hle : q + 3 + N ≤ 500)
    (H : ∀ np' : Nat → Int32, post (f_frameAt, f_frameLength, f_frameSort, f_frameFlags, f_frameStream, f_down, f_entryCount, f_most, f_typeSeen, f_lastSender, f_sentLength, a_payload, a_life, a_theyEnded, a_weEnded, a_finishing, a_codes, a_windowIn, a_windowOut, a_headers, a_headerCount, a_entries, a_kinds, a_repeats, a_messageCount, an_f tx, a_nodeCount, a_nodeTypes, a_valueCount, a_valueOwners, a_values, a_skippedCount, a_reader, a_chainNode, a_chainEnd, an_f (ct_put Q1 (500 * s + q) ([0, N / 256, N % 256] ++ ct_S B K R D 0)), an_f (pm_u ql s (q + (3 + N))), a_sent, a_nodeSize, np')) :
    wpX_writeMessage post (f_frameAt, f_frameLength, f_frameSort, f_frameFlags, f_frameStream, f_down, f_entryCount, f_most, f_typeSeen, f_lastSender, f_sentLength, a_payload, a_life, a_theyEnded, a_weEnded, a_finishing, a_codes, a_windowIn, a_windowOut, a_headers, a_headerCount, a_entries, a_kinds, a_repeats, a_messageCount, an_f tx, a_nodeCount, a_nodeTypes, a_valueCount, a_valueOwners, a_values, a_skippedCount, a_reader, a_chainNode, a_chainEnd, an_f Q1, an_f ql, a_sent, a_nodeSize, a_nodePlace) (nI s) (nI N) := by
  obtain ⟨c1, c2⟩ := xr_c8 hs
  have eq : nI s * 500 + an_f ql s = nI (500 * s + q) := by rw [an_fa, hq, show (500 : Int32) = nI 500 from rfl, pk_mul, nI_add, Nat.mul_comm]
  have e1 : nI (500 * s + q) + 1 = nI (500 * s + q + 1) := nI_1 _
  have e2 : nI (500 * s + q) + 2 = nI (500 * s + q + 2) := nI_add _ 2
  have e3 : nI (500 * s + q) + 3 = nI (500 * s + q + 3) := nI_add _ 3
  have e8 : nI N >>> ((8 : Int32) &&& 31) = nI (N / 256) := by
    rw [pk_shrN (by omega) _ 8 (by decide)]
  have e255 : nI N &&& 255 = nI (N % 256) := by
    rw [pk_andN (by omega) 8 (by decide)]
  have hGat := cp_at ([0, N / 256, N % 256] ++ ct_S B K R D 0) Q1 (500 * s + q)
  generalize hG : ct_put Q1 (500 * s + q) ([0, N / 256, N % 256] ++ ct_S B K R D 0) = G at *
  obtain ⟨g1, g2⟩ := ct_at_app.mp hGat
  have e33 : ([0, N / 256, N % 256] : List Nat).length = 3 := rfl
  rw [e33] at g2
  unfold wpX_writeMessage
  dsimp only
  rw [c2, eq]
  refine ⟨c1, nm_e ?_⟩
  rw [e1, e2, e3, nI_clamp (n := 500 * s + q) (by omega), nI_clamp (n := 500 * s + q + 1) (by omega), nI_clamp (n := 500 * s + q + 2) (by omega), e8, e255]
  refine ⟨vp_in_nI (by omega) (by omega), nm_r (e' := an_f (pm_u Q1 (500 * s + q) 0)) (an_fu Q1 (500 * s + q) 0) ⟨vp_in_nI (by omega) (by omega), nm_r (an_fu _ _ _) ⟨vp_in_nI (by omega) (by omega), nm_r (an_fu _ _ _) (nm_e ⟨pm_nn D + 1, ?_⟩)⟩⟩⟩
  have h0 := I.1
  obtain ⟨r, hr⟩ : ∃ r, pm_nn D = r + 1 := ⟨pm_nn D - 1, by omega⟩
  rw [hr]
  refine xf_57 (P := fun _ => 0) hs hB hK hD I hL hns (fun np' => ?_) r 0 _ _ (500 * s + q + 3) (by omega) pk_us g2 (by omega) ⟨fun j => ?_, fun m hm => ?_⟩
  · have eL : upd (an_f ql) s (an_f ql s + (3 + nI N)) = an_f (pm_u ql s (q + (3 + N))) := by
      rw [an_fa, hq, show (3 : Int32) = nI 3 from rfl, nI_add, nI_add, an_fu]
    rw [eL]
    exact H np'
  · have h := wr_step (G := G) (Q := Q1) (U := fun _ => False) (at' := 500 * s + q) (E := 500 * s + q + 3 + sz_S K R D 0) (l := [0, N / 256, N % 256]) (fun j => ?_) g1 j
    · rcases h with w | w | w
      · exact Or.inl w
      · exact Or.inr (Or.inl w)
      · exact absurd w id
    · by_cases z : 500 * s + q ≤ j ∧ j < 500 * s + q + 3 + sz_S K R D 0
      · exact Or.inr (Or.inl z)
      · left
        rw [← hG]
        refine (cp_out _ Q1 (500 * s + q) j ?_).symm
        rw [List.length_append, e33, ct_S_len]
        omega
  · obtain ⟨w1, w2, j, j1, j2, j3, j4⟩ := hm
    have := (I.2.2.2.2.2.1 j j1).2.1
    rcases j4 with w | ⟨w, w2 | ⟨w2, w3⟩⟩ <;> omega
end
