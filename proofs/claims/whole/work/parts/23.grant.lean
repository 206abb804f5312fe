/-! V: grant, field, the beginning -/
section
variable {f_frameAt f_frameLength f_frameSort f_frameFlags f_frameStream f_down f_entryCount f_most f_typeSeen f_lastSender f_sentLength : Int32} {a_payload a_life a_theyEnded a_weEnded a_finishing a_codes a_windowIn a_windowOut a_headers a_headerCount a_entries a_kinds a_repeats a_messageCount a_text a_nodeCount a_nodeTypes a_valueCount a_valueOwners a_values a_skippedCount a_reader a_chainNode a_chainEnd a_queue a_queueLength a_sent a_nodeSize a_nodePlace : Nat → Int32} {yf_down yf_heads yf_paid yf_payload yf_wants yf_name yf_first yf_counts yf_enters yf_most yf_many yf_sent yf_last yf_nodes yf_values yf_skipped yf_pos yf_there yf_number yf_at : Int32} {ya_kind ya_repeated ya_how ya_code ya_coming ya_going ya_type ya_headers ya_header ya_queued ya_otherEnded ya_ended ya_finishing ya_queue ya_prefix ya_length ya_got ya_high ya_whole ya_has ya_bytes ya_frame ya_payloads ya_table ya_out ya_nodeType ya_valueNode ya_valueNumber ya_value ya_from ya_limit ya_inside ya_sizes : Nat → Int32}
theorem i_vc_grant {k : Nat} {u : SX} {v : SY} (I : i_Rel k u v) (hk : k + 6 ≤ 3072) (v1 : Int32) (v2 : Int32) : wpX_grant (fun r u' => wpY_grant (fun r' v' => r' = r ∧ i_Rel (k + 6) u' v') v v1 v2) u v1 v2 := by
  have J := i_up I
  obtain ⟨⟨⟨K, R, z⟩, ⟨fAt, n, so, fl, st, h, p, m, M, l⟩, ⟨wi, wo, ql, hc, Q, tx⟩, ⟨f_down, f_typeSeen, yf_payload, yf_wants, yf_name, yf_first, yf_counts, yf_enters, yf_nodes, yf_values, yf_skipped, yf_pos, yf_there, yf_number, yf_at⟩, ⟨a_payload, a_life, a_theyEnded, a_weEnded, a_finishing, a_codes, a_headers, a_entries, a_kinds, a_repeats, a_messageCount⟩, ⟨a_nodeCount, a_nodeTypes, a_valueCount, a_valueOwners, a_values, a_skippedCount, a_reader, a_chainNode, a_chainEnd, a_nodeSize, a_nodePlace⟩, ⟨ya_type, ya_otherEnded, ya_prefix, ya_length, ya_got, ya_high, ya_has, ya_frame, ya_payloads⟩, ⟨ya_table, ya_nodeType, ya_valueNode, ya_valueNumber, ya_value, ya_from, ya_limit, ya_inside, ya_sizes⟩⟩, rfl, rfl, hD, hl, hH, hO, hQ, hX, hS, hq, hT, hK, hF, hM⟩ := I
  dsimp only [cr_x, cr_y] at J ⊢
  have core : ∀ s, s < 8 → f_down = 0 → (∀ (P : Int32 → SY → Prop), wY_grant_34 P (nI s) v2 (f_down) (nI h) (nI p) yf_payload yf_wants yf_name yf_first yf_counts yf_enters (nI M) (nI m) (nI z.2) (nI (if l = 0 then 7 else l)) yf_nodes yf_values yf_skipped yf_pos yf_there yf_number yf_at (a_kinds) (a_repeats) (a_life) (a_codes) (an_f wi) (an_f wo) ya_type (an_f hc) (a_headers) (an_f ql) ya_otherEnded (a_weEnded) (a_finishing) (an_g Q) ya_prefix ya_length ya_got ya_high (a_messageCount) ya_has (an_g tx) ya_frame ya_payloads ya_table (an_g z.1) ya_nodeType ya_valueNode ya_valueNumber ya_value ya_from ya_limit ya_inside ya_sizes → wpY_grant P (f_down, nI h, nI p, yf_payload, yf_wants, yf_name, yf_first, yf_counts, yf_enters, nI M, nI m, nI z.2, nI (if l = 0 then 7 else l), yf_nodes, yf_values, yf_skipped, yf_pos, yf_there, yf_number, yf_at, a_kinds, a_repeats, a_life, a_codes, an_f wi, an_f wo, ya_type, an_f hc, a_headers, an_f ql, ya_otherEnded, a_weEnded, a_finishing, an_g Q, ya_prefix, ya_length, ya_got, ya_high, a_messageCount, ya_has, an_g tx, ya_frame, ya_payloads, ya_table, an_g z.1, ya_nodeType, ya_valueNode, ya_valueNumber, ya_value, ya_from, ya_limit, ya_inside, ya_sizes) (nI s) v2) →
      wX_grant_22 (fun r u' => wpY_grant (fun r' v' => r' = r ∧ i_Rel (k + 6) u' v') (f_down, nI h, nI p, yf_payload, yf_wants, yf_name, yf_first, yf_counts, yf_enters, nI M, nI m, nI z.2, nI (if l = 0 then 7 else l), yf_nodes, yf_values, yf_skipped, yf_pos, yf_there, yf_number, yf_at, a_kinds, a_repeats, a_life, a_codes, an_f wi, an_f wo, ya_type, an_f hc, a_headers, an_f ql, ya_otherEnded, a_weEnded, a_finishing, an_g Q, ya_prefix, ya_length, ya_got, ya_high, a_messageCount, ya_has, an_g tx, ya_frame, ya_payloads, ya_table, an_g z.1, ya_nodeType, ya_valueNode, ya_valueNumber, ya_value, ya_from, ya_limit, ya_inside, ya_sizes) (nI s) v2) (nI s) v2 (nI fAt) (nI n) (nI so) (nI fl) (nI st) f_down (nI m) (nI M) f_typeSeen (nI l) (nI z.2) a_payload a_life a_theyEnded a_weEnded a_finishing a_codes (an_f wi) (an_f wo) a_headers (an_f hc) a_entries a_kinds a_repeats a_messageCount (an_f tx) a_nodeCount a_nodeTypes a_valueCount a_valueOwners a_values a_skippedCount a_reader a_chainNode a_chainEnd (an_f Q) (an_f ql) (an_f z.1) a_nodeSize a_nodePlace := by
    intro s hs hd HY
    obtain ⟨g1, g2⟩ := xr_c8 hs
    have hw := (hS.2 s hs).2.2.2.2.1
    unfold wX_grant_22
    refine br_c (fun y => HY _ (yn_lo y (br_f (by decide) ⟨rfl, J⟩))) (fun y => br_c (fun y2 => HY _ (yn_hi y ?_ (br_f (by decide) ⟨rfl, J⟩))) (fun y2 => ?_))
    · intro w
      exact absurd (Int32.lt_of_lt_of_le y2 w) (by decide)
    have h0 : ¬ v2 < 0 := fun w => y (Int32.lt_trans w (by decide))
    obtain ⟨c, hc31, rfl⟩ := nI_of h0
    have hc1 : 1 ≤ c := by
      rcases Nat.eq_zero_or_pos c with w | w
      · subst w; exact absurd (by decide) y
      · exact w
    have hc2 : c ≤ 255 := by
      rcases Nat.lt_or_ge 255 c with w | w
      · exact absurd ((nI_ltI (a := 255) (b := c) (by omega) hc31).mpr w) y2
      · exact w
    have hle : nI c ≤ 255 := (nI_leI (a := c) (b := 255) (by omega) (by omega)).mpr hc2
    rw [g2, an_fa, nI_add]
    refine ⟨g1, pk_le (wi s + c) 255 (fun w => ?_) (fun w => ?_)⟩
    · refine ⟨g1, g1, nm_r (an_fu wi s (wi s + c)) ?_⟩
      refine xo_short (a := 3) (b := 0) (c := s) (d := c) hO.1 ⟨g1, HY _ ?_⟩
      unfold wY_grant_34
      refine yn_in y hle (br_t rfl ?_)
      rw [g2, an_fa, nI_add]
      refine ⟨g1, pk_le (wi s + c) 255 (fun _ => ?_) (fun w' => absurd w' (by omega))⟩
      refine ⟨g1, g1, nm_r (an_fu wi s (wi s + c)) ?_⟩
      refine yo_frame (a := 1) (b := 3) (c := 0) (d := s) hO.1 (yo_put (an_b1 _) (ou_L_le [1, 3, 0, s] hO.1) ⟨g1, rfl, ?_⟩)
      refine ⟨((K, R, ou_L z [1, 3, 0, s, c]), (fAt, n, so, fl, st, h, p, m, M, l), (pm_u wi s (wi s + c), wo, ql, hc, Q, tx), (f_down, f_typeSeen, yf_payload, yf_wants, yf_name, yf_first, yf_counts, yf_enters, yf_nodes, yf_values, yf_skipped, yf_pos, yf_there, yf_number, yf_at), (a_payload, a_life, a_theyEnded, a_weEnded, a_finishing, a_codes, a_headers, a_entries, a_kinds, a_repeats, a_messageCount), (a_nodeCount, a_nodeTypes, a_valueCount, a_valueOwners, a_values, a_skippedCount, a_reader, a_chainNode, a_chainEnd, a_nodeSize, a_nodePlace), (ya_type, ya_otherEnded, ya_prefix, ya_length, ya_got, ya_high, ya_has, ya_frame, ya_payloads), (ya_table, ya_nodeType, ya_valueNode, ya_valueNumber, ya_value, ya_from, ya_limit, ya_inside, ya_sizes)), rfl, rfl, hD, hl, hH, ?_, hQ, hX, ?_, hq, hT, hK, hF, fun s' h1' h8' => cr_m_k (by omega) (hM s' h1' h8')⟩
      · refine ou_L_I hO (fun b hb => ?_)
        simp only [List.mem_cons, List.not_mem_nil, or_false] at hb
        rcases hb with hb | hb | hb | hb | hb <;> omega
      · refine ⟨hS.1, fun i hi => ?_⟩
        obtain ⟨s1, s2, s3, s4, s5, s6, s7, s8, s9, s10⟩ := hS.2 i hi
        refine ⟨s1, s2, s3, s4, ?_, s6, s7, s8, s9, s10⟩
        by_cases y3 : i = s
        · subst y3; rw [pm_us]; omega
        · rw [pm_un y3]; exact s5
    · refine HY _ ?_
      unfold wY_grant_34
      refine yn_in y hle (br_t rfl ?_)
      rw [g2, an_fa, nI_add]
      exact ⟨g1, pk_le (wi s + c) 255 (fun w' => absurd w' (by omega)) (fun _ => ⟨rfl, J⟩)⟩
  unfold wpX_grant
  refine br_c (fun hd => ?_) (fun hd => ?_)
  · rcases lk_c v1 with ⟨h1, h2, h3, h4⟩ | ⟨h1, h2, h3, h4, h5⟩ | ⟨s, hs, rfl⟩
    · refine br_f h4 (xs_open_n (Or.inl h2) (br_t rfl ?_))
      unfold wpY_grant
      exact br_t hd (yn_lo h1 (br_f (by decide) ⟨rfl, J⟩))
    · refine br_f h5 (xs_open_n (Or.inr ⟨h2, h4⟩) (br_t rfl ?_))
      unfold wpY_grant
      exact br_t hd (yn_hi h1 h3 (br_f (by decide) ⟨rfl, J⟩))
    · obtain ⟨g1, g2, g3, g4, g5⟩ := lk_s s hs
      by_cases h0 : s = 0
      · subst h0
        refine br_t rfl (core 0 hs hd (fun P HP => ?_))
        unfold wpY_grant
        exact br_t hd (yn_in g1 g2 (br_t rfl (br_t (by decide) HP)))
      · obtain ⟨g6, g7⟩ := g4 (by omega)
        have hnle : ¬ nI s ≤ 0 := by
          intro w
          have := (nI_leI (a := s) (b := 0) (by omega) (by omega)).mp w
          omega
        refine br_f g7 ?_
        by_cases ho : a_life s = 1
        · refine xs_open_t (by omega) hs ho (br_f (by decide) (core s hs hd (fun P HP => ?_)))
          unfold wpY_grant
          rw [g5]
          exact br_t hd (yn_in g1 g2 (br_t rfl (br_f hnle ⟨lk_in hs, br_t ho HP⟩)))
        · refine xs_open_f (by omega) hs ho (br_t rfl ?_)
          unfold wpY_grant
          rw [g5]
          exact br_t hd (yn_in g1 g2 (br_t rfl (br_f hnle ⟨lk_in hs, br_f ho ⟨rfl, J⟩⟩)))
  · unfold wpY_grant
    exact br_f hd ⟨rfl, J⟩
end
