/-! Y4: calls that look at a message: value, byteOf -/
section
variable {f_frameAt f_frameLength f_frameSort f_frameFlags f_frameStream f_down f_entryCount f_most f_typeSeen f_lastSender f_sentLength : Int32} {a_payload a_life a_theyEnded a_weEnded a_finishing a_codes a_windowIn a_windowOut a_headers a_headerCount a_entries a_kinds a_repeats a_messageCount a_text a_nodeCount a_nodeTypes a_valueCount a_valueOwners a_values a_skippedCount a_reader a_chainNode a_chainEnd a_queue a_queueLength a_sent a_nodeSize a_nodePlace : Nat → Int32} {yf_down yf_heads yf_paid yf_payload yf_wants yf_name yf_first yf_counts yf_enters yf_most yf_many yf_sent yf_last yf_nodes yf_values yf_skipped yf_pos yf_there yf_number yf_at : Int32} {ya_kind ya_repeated ya_how ya_code ya_coming ya_going ya_type ya_headers ya_header ya_queued ya_otherEnded ya_ended ya_finishing ya_queue ya_prefix ya_length ya_got ya_high ya_whole ya_has ya_bytes ya_frame ya_payloads ya_table ya_out ya_nodeType ya_valueNode ya_valueNumber ya_value ya_from ya_limit ya_inside ya_sizes : Nat → Int32}
theorem lo_fo {s a q : Nat} {K : Nat → Nat} {D : pm_D} {post : Int32 → Prop} (hs : s < 8) (hD : cr_XD K s a_nodeCount a_nodeTypes a_valueCount a_valueOwners a_values D) (ha : a < pm_nn D) (ha' : a < 16)
    (H : post (nI (16 * pm_nt D a + q))) : wpX_fieldOf post (f_frameAt, f_frameLength, f_frameSort, f_frameFlags, f_frameStream, f_down, f_entryCount, f_most, f_typeSeen, f_lastSender, f_sentLength, a_payload, a_life, a_theyEnded, a_weEnded, a_finishing, a_codes, a_windowIn, a_windowOut, a_headers, a_headerCount, a_entries, a_kinds, a_repeats, a_messageCount, a_text, a_nodeCount, a_nodeTypes, a_valueCount, a_valueOwners, a_values, a_skippedCount, a_reader, a_chainNode, a_chainEnd, a_queue, a_queueLength, a_sent, a_nodeSize, a_nodePlace) (nI s) (nI a) (nI q) := by
  unfold wpX_fieldOf
  obtain ⟨c1, c2⟩ := xr_c16 (s := s) (a := a) hs ha'
  have e : nI (pm_nt D a) * 16 + nI q = nI (16 * pm_nt D a + q) := by
    rw [show (16 : Int32) = nI 16 from rfl, pk_mul, nI_add, Nat.mul_comm]
  dsimp only
  rw [c2, hD.2.2.1 a ha, e]
  exact ⟨c1, H⟩
/-- a value's own words -/
theorem lo_val {s a q i L : Nat} {K : Nat → Nat} {D : pm_D} {dep : Nat → Nat} (hD : cr_XD K s a_nodeCount a_nodeTypes a_valueCount a_valueOwners a_values D) (I : pm_DI K L dep D) (hL : L ≤ 200) (ha : a < pm_nn D) (hq : q ≤ 15) (hi : i < pm_nv D)
    (h : nI (pm_vn D i) = nI a ∧ nI (pm_vm D i) = nI q) :
    (K (16 * pm_nt D a + q) = 4 → ∃ m, m ≤ 200 ∧ pm_va D i = nI m ∧ pm_fr D i + m ≤ L ∧ a_values (48 * s + i) = nI (256 * pm_fr D i + m)) ∧
    (K (16 * pm_nt D a + q) ≠ 4 → a_values (48 * s + i) = pm_va D i) := by
  obtain ⟨v1, v2, v3, v4, v5, v6⟩ := I.2.2.2.2.2.1 i hi
  have hnn := I.2.1
  have e1 : pm_vn D i = a := (nI_eq (by omega) (by omega)).mp h.1
  have e2 : pm_vm D i = q := (nI_eq (by omega) (by omega)).mp h.2
  have ek : pm_kk K D i = K (16 * pm_nt D a + q) := by
    simp only [pm_kk]; rw [e1, e2]
  have hv := (hD.2.2.2 i hi).2
  rw [ek] at hv v5
  constructor
  · intro h4
    obtain ⟨m, m1, m2⟩ := v5 h4
    rw [if_pos h4, m1, nI_add] at hv
    exact ⟨m, by omega, m1, m2, hv⟩
  · intro h4
    rw [if_neg h4] at hv
    exact hv
theorem lo_and {f m : Nat} (hf : f ≤ 200) (hm : m ≤ 200) : nI (256 * f + m) &&& 255 = nI m := by
  rw [pk_andN (by omega) 8 (by decide)]
  exact congrArg nI (by omega)
theorem lo_shr {f m : Nat} (hf : f ≤ 200) (hm : m ≤ 200) : nI (256 * f + m) >>> ((8 : Int32) &&& 31) = nI f := by
  rw [pk_shrN (by omega) _ 8 (by decide)]
  exact congrArg nI (by omega)
theorem i_vc_value {k : Nat} {u : SX} {v : SY} (I : i_Rel k u v) (hk : k + 6 ≤ 3072) (v1 : Int32) (v2 : Int32) (v3 : Int32) (v4 : Int32) : wpX_value (fun r => wpY_value (fun r' v' => r' = r ∧ i_Rel (k + 6) u v') v v1 v2 v3 v4) u v1 v2 v3 v4 := by
  have J := i_up I
  obtain ⟨⟨⟨K, R, z⟩, ⟨fAt, n, so, fl, st, h, p, m, M, l⟩, ⟨wi, wo, ql, hc, Q, tx⟩, ⟨f_down, f_typeSeen, yf_payload, yf_wants, yf_name, yf_first, yf_counts, yf_enters, yf_nodes, yf_values, yf_skipped, yf_pos, yf_there, yf_number, yf_at⟩, ⟨a_payload, a_life, a_theyEnded, a_weEnded, a_finishing, a_codes, a_headers, a_entries, a_kinds, a_repeats, a_messageCount⟩, ⟨a_nodeCount, a_nodeTypes, a_valueCount, a_valueOwners, a_values, a_skippedCount, a_reader, a_chainNode, a_chainEnd, a_nodeSize, a_nodePlace⟩, ⟨ya_type, ya_otherEnded, ya_prefix, ya_length, ya_got, ya_high, ya_has, ya_frame, ya_payloads⟩, ⟨ya_table, ya_nodeType, ya_valueNode, ya_valueNumber, ya_value, ya_from, ya_limit, ya_inside, ya_sizes⟩⟩, rfl, rfl, hD, hl, hH, hO, hQ, hX, hS, hq, hT, hK, hF, hM⟩ := I
  have hC : cr_C k ((K, R, z), (fAt, n, so, fl, st, h, p, m, M, l), (wi, wo, ql, hc, Q, tx), (f_down, f_typeSeen, yf_payload, yf_wants, yf_name, yf_first, yf_counts, yf_enters, yf_nodes, yf_values, yf_skipped, yf_pos, yf_there, yf_number, yf_at), (a_payload, a_life, a_theyEnded, a_weEnded, a_finishing, a_codes, a_headers, a_entries, a_kinds, a_repeats, a_messageCount), (a_nodeCount, a_nodeTypes, a_valueCount, a_valueOwners, a_values, a_skippedCount, a_reader, a_chainNode, a_chainEnd, a_nodeSize, a_nodePlace), (ya_type, ya_otherEnded, ya_prefix, ya_length, ya_got, ya_high, ya_has, ya_frame, ya_payloads), (ya_table, ya_nodeType, ya_valueNode, ya_valueNumber, ya_value, ya_from, ya_limit, ya_inside, ya_sizes)) := ⟨hD, hl, hH, hO, hQ, hX, hS, hq, hT, hK, hF, hM⟩
  dsimp only [cr_x, cr_y] at J ⊢
  unfold wpX_value wpY_value wpY_nth
  dsimp only
  rcases lo_field (by omega) hC v1 v2 v3 with ⟨hx, hy⟩ | ⟨s, c, dep, L, s1, s8, rfl, l1, d2, d3, HO, hh⟩
  · exact hx _ (br_t rfl (hy _ ⟨1, lo_nth0 (br_f (by decide) ⟨rfl, J⟩)⟩))
  have hv := d2.1.2.2.1
  rcases hh with ⟨hx, hno⟩ | ⟨hx, a, q, rfl, rfl, ha, q1, q2⟩
  · refine hx _ (br_t rfl (HO _ (fun z' hz => ⟨pm_nv (pm_d c) + 1, lo_nth hz hv (pm_nv (pm_d c)) 0 0 (by omega) ?_⟩)))
    rw [(lo_none hno).2 v4, if_neg (by omega)]
    exact br_f (by decide) ⟨rfl, lo_J hC z'⟩
  · have hnn := d2.1.2.1
    refine hx _ (br_f (by decide) ?_)
    unfold wpX_findValue
    refine ⟨pm_nv (pm_d c) + 1, lo_fv s8 d3 hv q2 (by omega) (xr_DB d2.1) (pm_nv (pm_d c)) 0 0 (by omega) ?_⟩
    have hle := lo_f_le (D := pm_d c) (x := nI a) (y := nI q) (w := v4) (pm_nv (pm_d c)) 0 0
    have hsp := lo_f_s (D := pm_d c) (x := nI a) (y := nI q) (w := v4) (pm_nv (pm_d c)) 0 0
    have HY : ∀ r, (r = if lo_f (pm_d c) (nI a) (nI q) v4 (pm_nv (pm_d c)) 0 0 < pm_nv (pm_d c) then pm_va (pm_d c) (lo_f (pm_d c) (nI a) (nI q) v4 (pm_nv (pm_d c)) 0 0) else 0) →
        wpY_open (fun r_1 u => match u with | (yf_down, yf_heads, yf_paid, yf_payload, yf_wants, yf_name, yf_first, yf_counts, yf_enters, yf_most, yf_many, yf_sent, yf_last, yf_nodes, yf_values, yf_skipped, yf_pos, yf_there, yf_number, yf_at, ya_kind, ya_repeated, ya_how, ya_code, ya_coming, ya_going, ya_type, ya_headers, ya_header, ya_queued, ya_otherEnded, ya_ended, ya_finishing, ya_queue, ya_prefix, ya_length, ya_got, ya_high, ya_whole, ya_has, ya_bytes, ya_frame, ya_payloads, ya_table, ya_out, ya_nodeType, ya_valueNode, ya_valueNumber, ya_value, ya_from, ya_limit, ya_inside, ya_sizes) => ∃ n13, wY_nth_13 (fun r_1 u => match u with | (yf_down, yf_heads, yf_paid, yf_payload, yf_wants, yf_name, yf_first, yf_counts, yf_enters, yf_most, yf_many, yf_sent, yf_last, yf_nodes, yf_values, yf_skipped, yf_pos, yf_there, yf_number, yf_at, ya_kind, ya_repeated, ya_how, ya_code, ya_coming, ya_going, ya_type, ya_headers, ya_header, ya_queued, ya_otherEnded, ya_ended, ya_finishing, ya_queue, ya_prefix, ya_length, ya_got, ya_high, ya_whole, ya_has, ya_bytes, ya_frame, ya_payloads, ya_table, ya_out, ya_nodeType, ya_valueNode, ya_valueNumber, ya_value, ya_from, ya_limit, ya_inside, ya_sizes) => (0 ≤ r_1 → vp_in r_1 48 ∧ (ya_value r_1.toNatClampNeg = r ∧ i_Rel (k + 6) (nI fAt, nI n, nI so, nI fl, nI st, f_down, nI m, nI M, f_typeSeen, nI l, nI z.2, a_payload, a_life, a_theyEnded, a_weEnded, a_finishing, a_codes, an_f wi, an_f wo, a_headers, an_f hc, a_entries, a_kinds, a_repeats, a_messageCount, an_f tx, a_nodeCount, a_nodeTypes, a_valueCount, a_valueOwners, a_values, a_skippedCount, a_reader, a_chainNode, a_chainEnd, an_f Q, an_f ql, an_f z.1, a_nodeSize, a_nodePlace) (yf_down, yf_heads, yf_paid, yf_payload, yf_wants, yf_name, yf_first, yf_counts, yf_enters, yf_most, yf_many, yf_sent, yf_last, yf_nodes, yf_values, yf_skipped, yf_pos, yf_there, yf_number, yf_at, ya_kind, ya_repeated, ya_how, ya_code, ya_coming, ya_going, ya_type, ya_headers, ya_header, ya_queued, ya_otherEnded, ya_ended, ya_finishing, ya_queue, ya_prefix, ya_length, ya_got, ya_high, ya_whole, ya_has, ya_bytes, ya_frame, ya_payloads, ya_table, ya_out, ya_nodeType, ya_valueNode, ya_valueNumber, ya_value, ya_from, ya_limit, ya_inside, ya_sizes))) ∧ (¬ 0 ≤ r_1 → (0 = r ∧ i_Rel (k + 6) (nI fAt, nI n, nI so, nI fl, nI st, f_down, nI m, nI M, f_typeSeen, nI l, nI z.2, a_payload, a_life, a_theyEnded, a_weEnded, a_finishing, a_codes, an_f wi, an_f wo, a_headers, an_f hc, a_entries, a_kinds, a_repeats, a_messageCount, an_f tx, a_nodeCount, a_nodeTypes, a_valueCount, a_valueOwners, a_values, a_skippedCount, a_reader, a_chainNode, a_chainEnd, an_f Q, an_f ql, an_f z.1, a_nodeSize, a_nodePlace) (yf_down, yf_heads, yf_paid, yf_payload, yf_wants, yf_name, yf_first, yf_counts, yf_enters, yf_most, yf_many, yf_sent, yf_last, yf_nodes, yf_values, yf_skipped, yf_pos, yf_there, yf_number, yf_at, ya_kind, ya_repeated, ya_how, ya_code, ya_coming, ya_going, ya_type, ya_headers, ya_header, ya_queued, ya_otherEnded, ya_ended, ya_finishing, ya_queue, ya_prefix, ya_length, ya_got, ya_high, ya_whole, ya_has, ya_bytes, ya_frame, ya_payloads, ya_table, ya_out, ya_nodeType, ya_valueNode, ya_valueNumber, ya_value, ya_from, ya_limit, ya_inside, ya_sizes)))) (nI a) (nI q) v4 r_1 yf_down yf_heads yf_paid yf_payload yf_wants yf_name yf_first yf_counts yf_enters yf_most yf_many yf_sent yf_last yf_nodes yf_values yf_skipped yf_pos yf_there yf_number yf_at ya_kind ya_repeated ya_how ya_code ya_coming ya_going ya_type ya_headers ya_header ya_queued ya_otherEnded ya_ended ya_finishing ya_queue ya_prefix ya_length ya_got ya_high ya_whole ya_has ya_bytes ya_frame ya_payloads ya_table ya_out ya_nodeType ya_valueNode ya_valueNumber ya_value ya_from ya_limit ya_inside ya_sizes n13 0 0) (f_down, nI h, nI p, yf_payload, yf_wants, yf_name, yf_first, yf_counts, yf_enters, nI M, nI m, nI z.2, nI (if l = 0 then 7 else l), yf_nodes, yf_values, yf_skipped, yf_pos, yf_there, yf_number, yf_at, a_kinds, a_repeats, a_life, a_codes, an_f wi, an_f wo, ya_type, an_f hc, a_headers, an_f ql, ya_otherEnded, a_weEnded, a_finishing, an_g Q, ya_prefix, ya_length, ya_got, ya_high, a_messageCount, ya_has, an_g tx, ya_frame, ya_payloads, ya_table, an_g z.1, ya_nodeType, ya_valueNode, ya_valueNumber, ya_value, ya_from, ya_limit, ya_inside, ya_sizes) (nI s) := by
      intro r hr
      refine HO _ (fun z' hz => ⟨pm_nv (pm_d c) + 1, lo_nth hz hv (pm_nv (pm_d c)) 0 0 (by omega) ?_⟩)
      by_cases g : lo_f (pm_d c) (nI a) (nI q) v4 (pm_nv (pm_d c)) 0 0 < pm_nv (pm_d c)
      · rw [if_pos g] at hr ⊢
        refine br_t (nI_pos' (by omega)) ⟨vp_in_nI (by omega) (by omega), ?_, lo_J hC z'⟩
        rw [nI_clamp (by omega), hr]
        exact (hz.2.2.2.2.2.1.2 _ g).2.2.1
      · rw [if_neg g] at hr ⊢
        exact br_f (by decide) ⟨hr.symm, lo_J hC z'⟩
    generalize lo_f (pm_d c) (nI a) (nI q) v4 (pm_nv (pm_d c)) 0 0 = i at *
    by_cases g : i < pm_nv (pm_d c)
    · rw [if_pos g] at HY ⊢
      obtain ⟨e4, e5⟩ := lo_val d3 d2.1 l1 ha q2 g (hsp (by omega))
      have hty := (d2.1.2.2.2.2.1 a ha).1
      have hj : 16 * pm_nt (pm_d c) a + q < 64 := by omega
      refine br_t (nI_pos' (by omega)) (lo_fo s8 d3 ha (by omega) ⟨vp_in_nI hj (by omega), nm_r (by rw [nI_clamp (by omega), hK.2.1 _ hj]) ?_⟩)
      obtain ⟨c1, c2, c3⟩ := xr_c48 (s := s) (a := i) s8 (by omega)
      rw [c3]
      refine br_c (fun w => ⟨c2, ?_⟩) (fun w => ⟨c2, ?_⟩)
      · have h4 := (yr_k _ (hK.1 _)).2.2.2.2.2.1.mp w
        obtain ⟨mm, m1, m2, m3, m4⟩ := e4 h4
        rw [m4, lo_and (by omega) m1]
        exact HY _ m2.symm
      · have h4 : K (16 * pm_nt (pm_d c) a + q) ≠ 4 := fun y => w ((yr_k _ (hK.1 _)).2.2.2.2.2.1.mpr y)
        rw [e5 h4]
        exact HY _ rfl
    · rw [if_neg g] at HY ⊢
      exact br_f (by decide) (HY _ rfl)
end
