/-! Y5: byteOf -/
section
variable {f_frameAt f_frameLength f_frameSort f_frameFlags f_frameStream f_down f_entryCount f_most f_typeSeen f_lastSender f_sentLength : Int32} {a_payload a_life a_theyEnded a_weEnded a_finishing a_codes a_windowIn a_windowOut a_headers a_headerCount a_entries a_kinds a_repeats a_messageCount a_text a_nodeCount a_nodeTypes a_valueCount a_valueOwners a_values a_skippedCount a_reader a_chainNode a_chainEnd a_queue a_queueLength a_sent a_nodeSize a_nodePlace : Nat → Int32} {yf_down yf_heads yf_paid yf_payload yf_wants yf_name yf_first yf_counts yf_enters yf_most yf_many yf_sent yf_last yf_nodes yf_values yf_skipped yf_pos yf_there yf_number yf_at : Int32} {ya_kind ya_repeated ya_how ya_code ya_coming ya_going ya_type ya_headers ya_header ya_queued ya_otherEnded ya_ended ya_finishing ya_queue ya_prefix ya_length ya_got ya_high ya_whole ya_has ya_bytes ya_frame ya_payloads ya_table ya_out ya_nodeType ya_valueNode ya_valueNumber ya_value ya_from ya_limit ya_inside ya_sizes : Nat → Int32}
theorem i_vc_byteOf {k : Nat} {u : SX} {v : SY} (I : i_Rel k u v) (hk : k + 6 ≤ 3072) (v1 : Int32) (v2 : Int32) (v3 : Int32) (v4 : Int32) (v5 : Int32) : wpX_byteOf (fun r => wpY_byteOf (fun r' v' => r' = r ∧ i_Rel (k + 6) u v') v v1 v2 v3 v4 v5) u v1 v2 v3 v4 v5 := by
  have J := i_up I
  obtain ⟨⟨⟨K, R, z⟩, ⟨fAt, n, so, fl, st, h, p, m, M, l⟩, ⟨wi, wo, ql, hc, Q, tx⟩, ⟨f_down, f_typeSeen, yf_payload, yf_wants, yf_name, yf_first, yf_counts, yf_enters, yf_nodes, yf_values, yf_skipped, yf_pos, yf_there, yf_number, yf_at⟩, ⟨a_payload, a_life, a_theyEnded, a_weEnded, a_finishing, a_codes, a_headers, a_entries, a_kinds, a_repeats, a_messageCount⟩, ⟨a_nodeCount, a_nodeTypes, a_valueCount, a_valueOwners, a_values, a_skippedCount, a_reader, a_chainNode, a_chainEnd, a_nodeSize, a_nodePlace⟩, ⟨ya_type, ya_otherEnded, ya_prefix, ya_length, ya_got, ya_high, ya_has, ya_frame, ya_payloads⟩, ⟨ya_table, ya_nodeType, ya_valueNode, ya_valueNumber, ya_value, ya_from, ya_limit, ya_inside, ya_sizes⟩⟩, rfl, rfl, hD, hl, hH, hO, hQ, hX, hS, hq, hT, hK, hF, hM⟩ := I
  have hC : cr_C k ((K, R, z), (fAt, n, so, fl, st, h, p, m, M, l), (wi, wo, ql, hc, Q, tx), (f_down, f_typeSeen, yf_payload, yf_wants, yf_name, yf_first, yf_counts, yf_enters, yf_nodes, yf_values, yf_skipped, yf_pos, yf_there, yf_number, yf_at), (a_payload, a_life, a_theyEnded, a_weEnded, a_finishing, a_codes, a_headers, a_entries, a_kinds, a_repeats, a_messageCount), (a_nodeCount, a_nodeTypes, a_valueCount, a_valueOwners, a_values, a_skippedCount, a_reader, a_chainNode, a_chainEnd, a_nodeSize, a_nodePlace), (ya_type, ya_otherEnded, ya_prefix, ya_length, ya_got, ya_high, ya_has, ya_frame, ya_payloads), (ya_table, ya_nodeType, ya_valueNode, ya_valueNumber, ya_value, ya_from, ya_limit, ya_inside, ya_sizes)) := ⟨hD, hl, hH, hO, hQ, hX, hS, hq, hT, hK, hF, hM⟩
  dsimp only [cr_x, cr_y] at J ⊢
  unfold wpX_byteOf wpY_byteOf wpY_nth
  dsimp only
  rcases lo_field (by omega) hC v1 v2 v3 with ⟨hx, hy⟩ | ⟨s, c, dep, L, s1, s8, rfl, l1, d2, d3, HO, hh⟩
  · exact hx _ (br_t rfl (hy _ ⟨1, lo_nth0 (br_t (by decide) ⟨rfl, J⟩)⟩))
  have hv := d2.1.2.2.1
  rcases hh with ⟨hx, hno⟩ | ⟨hx, a, q, rfl, rfl, ha, q1, q2⟩
  · refine hx _ (br_t rfl (HO _ (fun z' hz => ⟨pm_nv (pm_d c) + 1, lo_nth hz hv (pm_nv (pm_d c)) 0 0 (by omega) ?_⟩)))
    rw [(lo_none hno).2 v4, if_neg (by omega)]
    exact br_t (by decide) ⟨rfl, lo_J hC z'⟩
  · have hnn := d2.1.2.1
    have hty := (d2.1.2.2.2.2.1 a ha).1
    have hj : 16 * pm_nt (pm_d c) a + q < 64 := by omega
    refine hx _ (br_f (by decide) ?_)
    unfold wpX_findValue
    refine ⟨pm_nv (pm_d c) + 1, lo_fv s8 d3 hv q2 (by omega) (xr_DB d2.1) (pm_nv (pm_d c)) 0 0 (by omega) ?_⟩
    have hle := lo_f_le (D := pm_d c) (x := nI a) (y := nI q) (w := v4) (pm_nv (pm_d c)) 0 0
    have hsp := lo_f_s (D := pm_d c) (x := nI a) (y := nI q) (w := v4) (pm_nv (pm_d c)) 0 0
    refine lo_fo s8 d3 ha (by omega) ⟨vp_in_nI hj (by omega), nm_r (by rw [nI_clamp (by omega), hK.2.1 _ hj]) ?_⟩
    have HN : ¬ lo_f (pm_d c) (nI a) (nI q) v4 (pm_nv (pm_d c)) 0 0 < pm_nv (pm_d c) → ∀ (z' : yr_Z), yr_ok c (pm_pos c) z' → ∀ (post : Int32 → SY → Prop), post (-1) (f_down, nI h, nI p, yf_payload, yf_wants, yf_name, yf_first, yf_counts, yf_enters, nI M, nI m, nI z.2, nI (if l = 0 then 7 else l), z'.1, z'.2.1, z'.2.2.1, z'.2.2.2.1, nI L, z'.2.2.2.2.1, z'.2.2.2.2.2.1, a_kinds, a_repeats, a_life, a_codes, an_f wi, an_f wo, ya_type, an_f hc, a_headers, an_f ql, ya_otherEnded, a_weEnded, a_finishing, an_g Q, ya_prefix, ya_length, ya_got, ya_high, a_messageCount, ya_has, an_g tx, ya_frame, ya_payloads, ya_table, an_g z.1, z'.2.2.2.2.2.2.1, z'.2.2.2.2.2.2.2.1, z'.2.2.2.2.2.2.2.2.1, z'.2.2.2.2.2.2.2.2.2.1, z'.2.2.2.2.2.2.2.2.2.2.1, z'.2.2.2.2.2.2.2.2.2.2.2.1, z'.2.2.2.2.2.2.2.2.2.2.2.2, ya_sizes) → ∃ n13, wY_nth_13 post (nI a) (nI q) v4 1 (f_down) (nI h) (nI p) yf_payload yf_wants yf_name yf_first yf_counts yf_enters (nI M) (nI m) (nI z.2) (nI (if l = 0 then 7 else l)) (z'.1) (z'.2.1) (z'.2.2.1) (z'.2.2.2.1) (nI L) (z'.2.2.2.2.1) (z'.2.2.2.2.2.1) (a_kinds) (a_repeats) (a_life) (a_codes) (an_f wi) (an_f wo) ya_type (an_f hc) (a_headers) (an_f ql) ya_otherEnded (a_weEnded) (a_finishing) (an_g Q) ya_prefix ya_length ya_got ya_high (a_messageCount) ya_has (an_g tx) ya_frame ya_payloads ya_table (an_g z.1) (z'.2.2.2.2.2.2.1) (z'.2.2.2.2.2.2.2.1) (z'.2.2.2.2.2.2.2.2.1) (z'.2.2.2.2.2.2.2.2.2.1) (z'.2.2.2.2.2.2.2.2.2.2.1) (z'.2.2.2.2.2.2.2.2.2.2.2.1) (z'.2.2.2.2.2.2.2.2.2.2.2.2) ya_sizes n13 0 0 := by
      intro g z' hz post H
      refine ⟨pm_nv (pm_d c) + 1, lo_nth hz hv (pm_nv (pm_d c)) 0 0 (by omega) ?_⟩
      rw [if_neg g]; exact H
    have HP : lo_f (pm_d c) (nI a) (nI q) v4 (pm_nv (pm_d c)) 0 0 < pm_nv (pm_d c) → ∀ (z' : yr_Z), yr_ok c (pm_pos c) z' → ∀ (post : Int32 → SY → Prop), post (nI (lo_f (pm_d c) (nI a) (nI q) v4 (pm_nv (pm_d c)) 0 0)) (f_down, nI h, nI p, yf_payload, yf_wants, yf_name, yf_first, yf_counts, yf_enters, nI M, nI m, nI z.2, nI (if l = 0 then 7 else l), z'.1, z'.2.1, z'.2.2.1, z'.2.2.2.1, nI L, z'.2.2.2.2.1, z'.2.2.2.2.2.1, a_kinds, a_repeats, a_life, a_codes, an_f wi, an_f wo, ya_type, an_f hc, a_headers, an_f ql, ya_otherEnded, a_weEnded, a_finishing, an_g Q, ya_prefix, ya_length, ya_got, ya_high, a_messageCount, ya_has, an_g tx, ya_frame, ya_payloads, ya_table, an_g z.1, z'.2.2.2.2.2.2.1, z'.2.2.2.2.2.2.2.1, z'.2.2.2.2.2.2.2.2.1, z'.2.2.2.2.2.2.2.2.2.1, z'.2.2.2.2.2.2.2.2.2.2.1, z'.2.2.2.2.2.2.2.2.2.2.2.1, z'.2.2.2.2.2.2.2.2.2.2.2.2, ya_sizes) → ∃ n13, wY_nth_13 post (nI a) (nI q) v4 1 (f_down) (nI h) (nI p) yf_payload yf_wants yf_name yf_first yf_counts yf_enters (nI M) (nI m) (nI z.2) (nI (if l = 0 then 7 else l)) (z'.1) (z'.2.1) (z'.2.2.1) (z'.2.2.2.1) (nI L) (z'.2.2.2.2.1) (z'.2.2.2.2.2.1) (a_kinds) (a_repeats) (a_life) (a_codes) (an_f wi) (an_f wo) ya_type (an_f hc) (a_headers) (an_f ql) ya_otherEnded (a_weEnded) (a_finishing) (an_g Q) ya_prefix ya_length ya_got ya_high (a_messageCount) ya_has (an_g tx) ya_frame ya_payloads ya_table (an_g z.1) (z'.2.2.2.2.2.2.1) (z'.2.2.2.2.2.2.2.1) (z'.2.2.2.2.2.2.2.2.1) (z'.2.2.2.2.2.2.2.2.2.1) (z'.2.2.2.2.2.2.2.2.2.2.1) (z'.2.2.2.2.2.2.2.2.2.2.2.1) (z'.2.2.2.2.2.2.2.2.2.2.2.2) ya_sizes n13 0 0 := by
      intro g z' hz post H
      refine ⟨pm_nv (pm_d c) + 1, lo_nth hz hv (pm_nv (pm_d c)) 0 0 (by omega) ?_⟩
      rw [if_pos g]; exact H
    generalize lo_f (pm_d c) (nI a) (nI q) v4 (pm_nv (pm_d c)) 0 0 = i at *
    by_cases g : i < pm_nv (pm_d c)
    · rw [if_pos g]
      refine br_f (nI_pos (by omega)) ?_
      obtain ⟨e4, e5⟩ := lo_val d3 d2.1 l1 ha q2 g (hsp (by omega))
      obtain ⟨c1, c2, c3⟩ := xr_c48 (s := s) (a := i) s8 (by omega)
      have ej : 16 * nI (pm_nt (pm_d c) a) + nI q = nI (16 * pm_nt (pm_d c) a + q) := by
        rw [show (16 : Int32) = nI 16 from rfl, pk_mul, nI_add]
      -- the reference, to the field's kind
      have HK : ∀ (r : Int32), (∀ (z' : yr_Z), yr_ok c (pm_pos c) z' → z'.2.2.2.2.2.2.1 a = nI (pm_nt (pm_d c) a)) := by
        intro r z' hz
        exact hz.2.2.2.2.2.1.1 a ha
      rw [c3]
      refine br_c (fun w => ?_) (fun w => ?_)
      · have h4 := (yr_k _ (hK.1 _)).2.2.2.2.2.1.mp w
        obtain ⟨mm, m1, m2, m3, m4⟩ := e4 h4
        rw [m4, lo_and (by omega) m1, lo_shr (by omega) m1]
        rcases lk_ix (x := v5) mm (by omega) with x0 | ⟨x0, x1, x2⟩ | ⟨jj, hjj, rfl, x0, x1, x2⟩
        · refine br_t x0 (HO _ (fun z' hz => HP g z' hz _ ?_))
          refine br_f (nI_pos (by omega)) ⟨vp_in_nI (by omega) (by omega), ?_⟩
          dsimp only
          rw [nI_clamp (show a < 2 ^ 31 by omega), HK 0 z' hz, ej, nI_clamp (show 16 * pm_nt (pm_d c) a + q < 2 ^ 31 by omega), hK.2.1 _ hj]
          exact ⟨vp_in_nI hj (by omega), br_t w ⟨vp_in_nI (by omega) (by omega), yn_lo x0 (br_f (by decide) ⟨rfl, lo_J hC z'⟩)⟩⟩
        · refine br_f x0 ⟨c2, br_f (fun y => ?_) (HO _ (fun z' hz => HP g z' hz _ ?_))⟩
          · exact absurd (Int32.lt_of_le_of_lt x1 y) (Int32.lt_irrefl)
          refine br_f (nI_pos (by omega)) ⟨vp_in_nI (by omega) (by omega), ?_⟩
          dsimp only
          rw [nI_clamp (show a < 2 ^ 31 by omega), HK 0 z' hz, ej, nI_clamp (show 16 * pm_nt (pm_d c) a + q < 2 ^ 31 by omega), hK.2.1 _ hj]
          refine ⟨vp_in_nI hj (by omega), br_t w ⟨vp_in_nI (by omega) (by omega), yn_hi x0 ?_ (br_f (by decide) ⟨rfl, lo_J hC z'⟩)⟩⟩
          rw [nI_clamp (by omega), (hz.2.2.2.2.2.1.2 i g).2.2.1, m2]
          exact x2
        · have hB := yr_by (i := pm_fr (pm_d c) i + jj) (cr_by_B (s := s) hX) s8 (by omega)
          have hBt : cr_by tx s (pm_fr (pm_d c) i + jj) = tx (200 * s + (pm_fr (pm_d c) i + jj)) := by
            unfold cr_by; rw [if_pos (by omega)]
          have eX : nI s * 200 + nI (pm_fr (pm_d c) i) + nI jj = nI (200 * s + (pm_fr (pm_d c) i + jj)) := by
            rw [show (200 : Int32) = nI 200 from rfl, pk_mul, nI_add, nI_add]
            exact congrArg nI (by omega)
          have eY : 200 * nI s + nI (pm_fr (pm_d c) i) + nI jj = 200 * nI s + nI (pm_fr (pm_d c) i + jj) := by
            rw [Int32.add_assoc, nI_add]
          refine br_f x0 ⟨c2, br_t ?_ ⟨c2, ?_⟩⟩
          · exact (nI_ltI (by omega) (by omega)).mpr hjj
          rw [eX, nI_clamp (show 200 * s + (pm_fr (pm_d c) i + jj) < 2 ^ 31 by omega), an_fa, ← hBt]
          refine ⟨vp_in_nI (by omega) (by omega), HO _ (fun z' hz => HP g z' hz _ ?_)⟩
          refine br_f (nI_pos (by omega)) ⟨vp_in_nI (by omega) (by omega), ?_⟩
          dsimp only
          rw [nI_clamp (show a < 2 ^ 31 by omega), HK 0 z' hz, ej, nI_clamp (show 16 * pm_nt (pm_d c) a + q < 2 ^ 31 by omega), hK.2.1 _ hj]
          refine ⟨vp_in_nI hj (by omega), br_t w ⟨vp_in_nI (by omega) (by omega), yn_in x0 ?_ (br_t rfl ⟨vp_in_nI (by omega) (by omega), ?_⟩)⟩⟩
          · rw [nI_clamp (by omega), (hz.2.2.2.2.2.1.2 i g).2.2.1, m2]
            exact x2
          · rw [nI_clamp (show i < 2 ^ 31 by omega), (hz.2.2.2.2.2.1.2 i g).2.2.2, eY]
            exact ⟨hB.1, hB.2, lo_J hC z'⟩
      · refine HO _ (fun z' hz => HP g z' hz _ ?_)
        refine br_f (nI_pos (by omega)) ⟨vp_in_nI (by omega) (by omega), ?_⟩
        dsimp only
        rw [nI_clamp (show a < 2 ^ 31 by omega), HK 0 z' hz, ej, nI_clamp (show 16 * pm_nt (pm_d c) a + q < 2 ^ 31 by omega), hK.2.1 _ hj]
        exact ⟨vp_in_nI hj (by omega), br_f w ⟨rfl, lo_J hC z'⟩⟩
    · rw [if_neg g]
      exact br_t (by decide) (HO _ (fun z' hz => HN g z' hz _ (br_t (by decide) ⟨rfl, lo_J hC z'⟩)))
end
