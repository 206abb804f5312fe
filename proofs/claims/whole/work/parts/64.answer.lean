/-! W9: answer -/
section
theorem ct_vd_256 : ∀ f x, x < 128 ^ (f + 1) → ∀ b, b ∈ ct_vd f x → b < 256
  | 0, x, h, b, hb => by
    have : b = x := List.mem_singleton.mp hb
    omega
  | f + 1, x, h, b, hb => by
    rw [ct_vd] at hb
    split at hb
    · have : b = x := List.mem_singleton.mp hb
      omega
    · rcases List.mem_cons.mp hb with e | e
      · omega
      · refine ct_vd_256 f (x / 128) ?_ b e
        rw [Nat.pow_succ] at h
        exact Nat.div_lt_of_lt_mul (by omega)
theorem ct_v_256 {x : Nat} (h : x < 2 ^ 64) : ∀ b, b ∈ ct_v x → b < 256 := ct_vd_256 9 x (Nat.lt_trans h (by decide))
variable {B : Nat → Nat} {K : Nat → Nat} {R : Nat → Bool} {L : Nat} {dep : Nat → Nat} {D : pm_D} {a n : Nat} {g : Nat → List Nat}
theorem ct_b_256 {k st : Nat} {x : Int32} (hB : ∀ i, B i < 256) (hg : k = 0 ∨ 4 < k → ∀ b, b ∈ g x.toNatClampNeg → b < 256) : ∀ b, b ∈ ct_b B k x st g → b < 256 := by
  intro b hb
  unfold ct_b at hb
  split at hb
  · exact ct_v_256 (sz_ux_lt x) b hb
  split at hb
  · exact ct_v_256 (Nat.lt_trans (BitVec.isLt _) (by decide)) b hb
  split at hb
  · unfold ct_4 at hb
    simp only [List.mem_cons, List.not_mem_nil, or_false] at hb
    rcases hb with e | e | e | e <;> omega
  split at hb
  · obtain ⟨i, _, e⟩ := List.mem_map.mp hb
    rw [← e]; exact hB _
  · exact hg (by omega) b hb
theorem ct_sm_m {h : Nat → List Nat} {P : Nat → Prop} : ∀ c, (∀ j, j < c → pm_vn D j = a → pm_vm D j = n → ∀ b, b ∈ h j → P b) → ∀ b, b ∈ ct_sm D a n h c → P b
  | 0, _, b, hb => absurd hb (List.not_mem_nil)
  | c + 1, H, b, hb => by
    rw [ct_sm] at hb
    rcases List.mem_append.mp hb with e | e
    · exact ct_sm_m c (fun j hj => H j (by omega)) b e
    · by_cases z : pm_vn D c = a ∧ pm_vm D c = n
      · rw [if_pos z] at e
        exact H c (by omega) z.1 z.2 b e
      · rw [if_neg z] at e
        exact absurd e (List.not_mem_nil)
theorem ct_ns_m {h : Nat → List Nat} {P : Nat → Prop} : ∀ m, (∀ i, 1 ≤ i → i ≤ m → ∀ b, b ∈ h i → P b) → ∀ b, b ∈ ct_ns h m → P b
  | 0, _, b, hb => absurd hb (List.not_mem_nil)
  | m + 1, H, b, hb => by
    rw [ct_ns] at hb
    rcases List.mem_append.mp hb with e | e
    · exact ct_ns_m m (fun i h1 h2 => H i h1 (by omega)) b e
    · exact H (m + 1) (by omega) (by omega) b e
theorem ct_S_256 (I : pm_DI K L dep D) (hL : L ≤ 200) (hB : ∀ i, B i < 256) : ∀ t a, a < pm_nn D → pm_nn D - a ≤ t → ∀ b, b ∈ ct_S B K R D a → b < 256
  | 0, a, ha, ht, _, _ => by omega
  | t + 1, a, ha, ht, b, hb => by
    have hg : (fun m => (ct_S B K R D m).length) = sz_S K R D := funext (fun m => ct_S_len m)
    have hnn := I.2.1
    rw [ct_S_e I ha] at hb
    refine ct_ns_m (P := fun b => b < 256) 15 (fun n n1 n15 b hb => ?_) b hb
    obtain ⟨b1, b2⟩ := sz_bd_le (R := R) I hL ha n1 n15
    have hval : ∀ j, j < pm_nv D → pm_vn D j = a → pm_vm D j = n → ∀ b, b ∈ ct_b B (K (sz_j D a n)) (pm_va D j) (pm_fr D j) (ct_S B K R D) → b < 256 := by
      intro j hj z1 z2
      obtain ⟨v1, v2, v3, v4, v5, v6⟩ := I.2.2.2.2.2.1 j hj
      rw [sz_kk z1 z2] at v4 v5 v6
      refine ct_b_256 hB (fun w => ?_)
      rcases w with w | w
      · exact absurd w v4
      · obtain ⟨m, m1, m2, m3, m4⟩ := v6 w
        rw [m1, nI_clamp (by omega)]
        exact ct_S_256 I hL hB t m m3 (by omega)
    have hw5 : pm_w (K (sz_j D a n)) ≤ 5 := by
      unfold pm_w
      split
      · omega
      · split <;> omega
    unfold ct_f at hb
    by_cases p : K (sz_j D a n) < 4 ∧ R (sz_j D a n) = true
    · rw [if_pos p] at hb
      have hrl : (ct_row B K D (ct_S B K R D) a n (pm_nv D)).length = sz_bd K D (sz_S K R D) a n := by
        rw [ct_row_len, hg, sz_bd_r p.1]; rfl
      rcases List.mem_append.mp hb with e | e
      · split at e
        · exact absurd e (List.not_mem_nil)
        · rw [hrl] at e
          rcases List.mem_cons.mp e with e | e
          · omega
          · exact ct_v_256 (by omega) b e
      · exact ct_sm_m (P := fun b => b < 256) _ (fun j hj z1 z2 => hval j hj z1 z2) b e
    · rw [if_neg p] at hb
      refine ct_sm_m (P := fun b => b < 256) _ (fun j hj z1 z2 b hb => ?_) b hb
      have hlv : sz_l (K (sz_j D a n)) (pm_va D j) (sz_S K R D) ≤ sz_bd K D (sz_S K R D) a n := sz_sm_1 (h := fun j => sz_l (K (sz_j D a n)) (pm_va D j) (sz_S K R D)) (pm_nv D) j hj z1 z2
      have hbl : (ct_b B (K (sz_j D a n)) (pm_va D j) (pm_fr D j) (ct_S B K R D)).length = sz_b (K (sz_j D a n)) (pm_va D j) (sz_S K R D) := by rw [ct_b_len, hg]
      have hb31 : sz_b (K (sz_j D a n)) (pm_va D j) (sz_S K R D) < 2 ^ 31 := by
        unfold sz_l at hlv
        omega
      rcases List.mem_cons.mp hb with e | e
      · omega
      · unfold ct_l at e
        rcases List.mem_append.mp e with e | e
        · split at e
          · rw [hbl] at e
            exact ct_v_256 (by omega) b e
          · exact absurd e (List.not_mem_nil)
        · exact hval j hj z1 z2 b e
theorem cr_S_ql {life th ot we fi co : Nat → Int32} {wi wo ql : Nat → Nat} {s x : Nat} (hfi : fi s = 0) (hx : x ≤ 500) (hS : cr_S life th ot we fi co wi wo ql) : cr_S life th ot we fi co wi wo (pm_u ql s x) := by
  refine ⟨hS.1, fun i hi => ?_⟩
  obtain ⟨s1, s2, s3, s4, s5, s6, s7, s8, s9, s10⟩ := hS.2 i hi
  by_cases y : i = s
  · subst y
    rw [pm_us]
    refine ⟨s1, s2, s3, s4, s5, s6, hx, s8, s9, fun w => ?_⟩
    have := (s10 w).1
    rw [hfi] at this
    exact absurd this (by decide)
  · rw [pm_un y]
    exact ⟨s1, s2, s3, s4, s5, s6, s7, s8, s9, s10⟩
theorem i_vc_answer {k : Nat} {u : SX} {v : SY} (I : i_Rel k u v) (hk : k + 6 ≤ 3072) (v1 : Int32) : wpX_answer (fun r u' => wpY_answer (fun r' v' => r' = r ∧ i_Rel (k + 6) u' v') v v1) u v1 := by
  have J := i_up I
  obtain ⟨⟨⟨K, R, z⟩, ⟨fAt, n, so, fl, st, h, p, m, M, l⟩, ⟨wi, wo, ql, hc, Q, tx⟩, ⟨f_down, f_typeSeen, yf_payload, yf_wants, yf_name, yf_first, yf_counts, yf_enters, yf_nodes, yf_values, yf_skipped, yf_pos, yf_there, yf_number, yf_at⟩, ⟨a_payload, a_life, a_theyEnded, a_weEnded, a_finishing, a_codes, a_headers, a_entries, a_kinds, a_repeats, a_messageCount⟩, ⟨a_nodeCount, a_nodeTypes, a_valueCount, a_valueOwners, a_values, a_skippedCount, a_reader, a_chainNode, a_chainEnd, a_nodeSize, a_nodePlace⟩, ⟨ya_type, ya_otherEnded, ya_prefix, ya_length, ya_got, ya_high, ya_has, ya_frame, ya_payloads⟩, ⟨ya_table, ya_nodeType, ya_valueNode, ya_valueNumber, ya_value, ya_from, ya_limit, ya_inside, ya_sizes⟩⟩, rfl, rfl, hD, hl, hH, hO, hQ, hX, hS, hq, hT, hK, hF, hM⟩ := I
  have hC : cr_C k ((K, R, z), (fAt, n, so, fl, st, h, p, m, M, l), (wi, wo, ql, hc, Q, tx), (f_down, f_typeSeen, yf_payload, yf_wants, yf_name, yf_first, yf_counts, yf_enters, yf_nodes, yf_values, yf_skipped, yf_pos, yf_there, yf_number, yf_at), (a_payload, a_life, a_theyEnded, a_weEnded, a_finishing, a_codes, a_headers, a_entries, a_kinds, a_repeats, a_messageCount), (a_nodeCount, a_nodeTypes, a_valueCount, a_valueOwners, a_values, a_skippedCount, a_reader, a_chainNode, a_chainEnd, a_nodeSize, a_nodePlace), (ya_type, ya_otherEnded, ya_prefix, ya_length, ya_got, ya_high, ya_has, ya_frame, ya_payloads), (ya_table, ya_nodeType, ya_valueNode, ya_valueNumber, ya_value, ya_from, ya_limit, ya_inside, ya_sizes)) := ⟨hD, hl, hH, hO, hQ, hX, hS, hq, hT, hK, hF, hM⟩
  dsimp only [cr_x, cr_y] at J ⊢
  unfold wpX_answer
  refine br_c (fun hd => ?_) (fun hd => ?_)
  rotate_left
  · unfold wpY_answer
    exact br_f hd ⟨rfl, J⟩
  rcases lk_c v1 with ⟨h1, h2, h3, h4⟩ | ⟨h1, h2, h3, h4, h5⟩ | ⟨s, hs, rfl⟩
  · refine xs_open_n (Or.inl h2) (br_t rfl ?_)
    unfold wpY_answer
    exact br_t hd (ys_open_n (Or.inl h2) (br_t rfl ⟨rfl, J⟩))
  · refine xs_open_n (Or.inr ⟨h2, h4⟩) (br_t rfl ?_)
    unfold wpY_answer
    exact br_t hd (ys_open_n (Or.inr ⟨h2, h3⟩) (br_t rfl ⟨rfl, J⟩))
  by_cases h0 : s = 0
  · subst h0
    refine xs_open_n (Or.inl (by decide)) (br_t rfl ?_)
    unfold wpY_answer
    exact br_t hd (ys_open_n (Or.inl (by decide)) (br_t rfl ⟨rfl, J⟩))
  by_cases ho : a_life s = 1
  rotate_left
  · refine xs_open_f (by omega) hs ho (br_t rfl ?_)
    unfold wpY_answer
    exact br_t hd (ys_open_f (by omega) hs (Or.inl ho) (br_t rfl ⟨rfl, J⟩))
  obtain ⟨g1, g2⟩ := xr_c8 hs
  refine xs_open_t (by omega) hs ho (br_f (by decide) ?_)
  rw [g2]
  by_cases hfi : a_finishing s = 0
  rotate_left
  · refine ⟨g1, br_f hfi ?_⟩
    unfold wpY_answer
    refine br_t hd (ys_open_t (by omega) hs ho hd (br_f (by decide) ?_))
    rw [g2]
    exact ⟨g1, br_f hfi ⟨rfl, J⟩⟩
  refine ⟨g1, br_t hfi (lo_X (by omega) hs (by omega) (hM s (by omega) hs) (fun w => ?_) (fun w => br_t rfl ?_))⟩
  rotate_left
  · unfold wpY_answer
    refine br_t hd (ys_open_t (by omega) hs ho hd (br_f (by decide) ?_))
    rw [g2]
    exact ⟨g1, br_t hfi ⟨g1, br_t w ⟨rfl, J⟩⟩⟩
  obtain ⟨c, dep, L, l1, d2, d3, d4, HO⟩ := lo_M hC (show 1 ≤ s by omega) hs w
  have hDI := d2.1
  have hBy := cr_by_B (s := s) hX
  have h31 := sz_S_le (R := R) hDI l1 0
  refine br_f (by decide) (zx_measure hs hK d3 hDI l1 (fun ns hns => ?_))
  dsimp only
  have e5 : an_f ql s + 3 + nI (sz_S K R (pm_d c) 0) = nI (ql s + 3 + sz_S K R (pm_d c) 0) := by
    rw [an_fa, show (3 : Int32) = nI 3 from rfl, nI_add, nI_add]
  have hql := (hS.2 s hs).2.2.2.2.2.2.1
  -- the reference up to the size
  have HY : ∀ (q : Int32 → SY → Prop), (∀ (z' : yr_Z) (ns' : Nat → Int32), yr_ok c (pm_pos c) z' → (∀ m, m < pm_nn (pm_d c) → ns' m = nI (sz_S K R (pm_d c) m)) →
      ((ql s + 3 + sz_S K R (pm_d c) 0 ≤ 500 → wpY_append (fun u => match u with | (yf_down, yf_heads, yf_paid, yf_payload, yf_wants, yf_name, yf_first, yf_counts, yf_enters, yf_most, yf_many, yf_sent, yf_last, yf_nodes, yf_values, yf_skipped, yf_pos, yf_there, yf_number, yf_at, ya_kind, ya_repeated, ya_how, ya_code, ya_coming, ya_going, ya_type, ya_headers, ya_header, ya_queued, ya_otherEnded, ya_ended, ya_finishing, ya_queue, ya_prefix, ya_length, ya_got, ya_high, ya_whole, ya_has, ya_bytes, ya_frame, ya_payloads, ya_table, ya_out, ya_nodeType, ya_valueNode, ya_valueNumber, ya_value, ya_from, ya_limit, ya_inside, ya_sizes) => wpY_append (fun u => match u with | (yf_down, yf_heads, yf_paid, yf_payload, yf_wants, yf_name, yf_first, yf_counts, yf_enters, yf_most, yf_many, yf_sent, yf_last, yf_nodes, yf_values, yf_skipped, yf_pos, yf_there, yf_number, yf_at, ya_kind, ya_repeated, ya_how, ya_code, ya_coming, ya_going, ya_type, ya_headers, ya_header, ya_queued, ya_otherEnded, ya_ended, ya_finishing, ya_queue, ya_prefix, ya_length, ya_got, ya_high, ya_whole, ya_has, ya_bytes, ya_frame, ya_payloads, ya_table, ya_out, ya_nodeType, ya_valueNode, ya_valueNumber, ya_value, ya_from, ya_limit, ya_inside, ya_sizes) => wpY_append (fun u => match u with | (yf_down, yf_heads, yf_paid, yf_payload, yf_wants, yf_name, yf_first, yf_counts, yf_enters, yf_most, yf_many, yf_sent, yf_last, yf_nodes, yf_values, yf_skipped, yf_pos, yf_there, yf_number, yf_at, ya_kind, ya_repeated, ya_how, ya_code, ya_coming, ya_going, ya_type, ya_headers, ya_header, ya_queued, ya_otherEnded, ya_ended, ya_finishing, ya_queue, ya_prefix, ya_length, ya_got, ya_high, ya_whole, ya_has, ya_bytes, ya_frame, ya_payloads, ya_table, ya_out, ya_nodeType, ya_valueNode, ya_valueNumber, ya_value, ya_from, ya_limit, ya_inside, ya_sizes) => wpY_write (fun u => match u with | (yf_down, yf_heads, yf_paid, yf_payload, yf_wants, yf_name, yf_first, yf_counts, yf_enters, yf_most, yf_many, yf_sent, yf_last, yf_nodes, yf_values, yf_skipped, yf_pos, yf_there, yf_number, yf_at, ya_kind, ya_repeated, ya_how, ya_code, ya_coming, ya_going, ya_type, ya_headers, ya_header, ya_queued, ya_otherEnded, ya_ended, ya_finishing, ya_queue, ya_prefix, ya_length, ya_got, ya_high, ya_whole, ya_has, ya_bytes, ya_frame, ya_payloads, ya_table, ya_out, ya_nodeType, ya_valueNode, ya_valueNumber, ya_value, ya_from, ya_limit, ya_inside, ya_sizes) => wpY_pump (fun u => match u with | (yf_down, yf_heads, yf_paid, yf_payload, yf_wants, yf_name, yf_first, yf_counts, yf_enters, yf_most, yf_many, yf_sent, yf_last, yf_nodes, yf_values, yf_skipped, yf_pos, yf_there, yf_number, yf_at, ya_kind, ya_repeated, ya_how, ya_code, ya_coming, ya_going, ya_type, ya_headers, ya_header, ya_queued, ya_otherEnded, ya_ended, ya_finishing, ya_queue, ya_prefix, ya_length, ya_got, ya_high, ya_whole, ya_has, ya_bytes, ya_frame, ya_payloads, ya_table, ya_out, ya_nodeType, ya_valueNode, ya_valueNumber, ya_value, ya_from, ya_limit, ya_inside, ya_sizes) => q (nI (sz_S K R (pm_d c) 0)) (yf_down, yf_heads, yf_paid, yf_payload, yf_wants, yf_name, yf_first, yf_counts, yf_enters, yf_most, yf_many, yf_sent, yf_last, yf_nodes, yf_values, yf_skipped, yf_pos, yf_there, yf_number, yf_at, ya_kind, ya_repeated, ya_how, ya_code, ya_coming, ya_going, ya_type, ya_headers, ya_header, ya_queued, ya_otherEnded, ya_ended, ya_finishing, ya_queue, ya_prefix, ya_length, ya_got, ya_high, ya_whole, ya_has, ya_bytes, ya_frame, ya_payloads, ya_table, ya_out, ya_nodeType, ya_valueNode, ya_valueNumber, ya_value, ya_from, ya_limit, ya_inside, ya_sizes)) (yf_down, yf_heads, yf_paid, yf_payload, yf_wants, yf_name, yf_first, yf_counts, yf_enters, yf_most, yf_many, yf_sent, yf_last, yf_nodes, yf_values, yf_skipped, yf_pos, yf_there, yf_number, yf_at, ya_kind, ya_repeated, ya_how, ya_code, ya_coming, ya_going, ya_type, ya_headers, ya_header, ya_queued, ya_otherEnded, ya_ended, ya_finishing, ya_queue, ya_prefix, ya_length, ya_got, ya_high, ya_whole, ya_has, ya_bytes, ya_frame, ya_payloads, ya_table, ya_out, ya_nodeType, ya_valueNode, ya_valueNumber, ya_value, ya_from, ya_limit, ya_inside, ya_sizes)) (yf_down, yf_heads, yf_paid, yf_payload, yf_wants, yf_name, yf_first, yf_counts, yf_enters, yf_most, yf_many, yf_sent, yf_last, yf_nodes, yf_values, yf_skipped, yf_pos, yf_there, yf_number, yf_at, ya_kind, ya_repeated, ya_how, ya_code, ya_coming, ya_going, ya_type, ya_headers, ya_header, ya_queued, ya_otherEnded, ya_ended, ya_finishing, ya_queue, ya_prefix, ya_length, ya_got, ya_high, ya_whole, ya_has, ya_bytes, ya_frame, ya_payloads, ya_table, ya_out, ya_nodeType, ya_valueNode, ya_valueNumber, ya_value, ya_from, ya_limit, ya_inside, ya_sizes) (nI s)) (yf_down, yf_heads, yf_paid, yf_payload, yf_wants, yf_name, yf_first, yf_counts, yf_enters, yf_most, yf_many, yf_sent, yf_last, yf_nodes, yf_values, yf_skipped, yf_pos, yf_there, yf_number, yf_at, ya_kind, ya_repeated, ya_how, ya_code, ya_coming, ya_going, ya_type, ya_headers, ya_header, ya_queued, ya_otherEnded, ya_ended, ya_finishing, ya_queue, ya_prefix, ya_length, ya_got, ya_high, ya_whole, ya_has, ya_bytes, ya_frame, ya_payloads, ya_table, ya_out, ya_nodeType, ya_valueNode, ya_valueNumber, ya_value, ya_from, ya_limit, ya_inside, ya_sizes) (nI s) (nI (sz_S K R (pm_d c) 0))) (yf_down, yf_heads, yf_paid, yf_payload, yf_wants, yf_name, yf_first, yf_counts, yf_enters, yf_most, yf_many, yf_sent, yf_last, yf_nodes, yf_values, yf_skipped, yf_pos, yf_there, yf_number, yf_at, ya_kind, ya_repeated, ya_how, ya_code, ya_coming, ya_going, ya_type, ya_headers, ya_header, ya_queued, ya_otherEnded, ya_ended, ya_finishing, ya_queue, ya_prefix, ya_length, ya_got, ya_high, ya_whole, ya_has, ya_bytes, ya_frame, ya_payloads, ya_table, ya_out, ya_nodeType, ya_valueNode, ya_valueNumber, ya_value, ya_from, ya_limit, ya_inside, ya_sizes) (nI s) (nI (sz_S K R (pm_d c) 0) >>> ((8 : Int32) &&& 31))) (f_down, nI h, nI p, yf_payload, yf_wants, yf_name, yf_first, yf_counts, yf_enters, nI M, nI m, nI z.2, nI (if l = 0 then 7 else l), z'.1, z'.2.1, z'.2.2.1, z'.2.2.2.1, (nI L), z'.2.2.2.2.1, z'.2.2.2.2.2.1, a_kinds, a_repeats, a_life, a_codes, an_f wi, an_f wo, ya_type, an_f hc, a_headers, an_f ql, ya_otherEnded, a_weEnded, a_finishing, an_g Q, ya_prefix, ya_length, ya_got, ya_high, a_messageCount, ya_has, an_g tx, ya_frame, ya_payloads, ya_table, an_g z.1, z'.2.2.2.2.2.2.1, z'.2.2.2.2.2.2.2.1, z'.2.2.2.2.2.2.2.2.1, z'.2.2.2.2.2.2.2.2.2.1, z'.2.2.2.2.2.2.2.2.2.2.1, z'.2.2.2.2.2.2.2.2.2.2.2.1, z'.2.2.2.2.2.2.2.2.2.2.2.2, ns') (nI s) 0) ∧
       (500 < ql s + 3 + sz_S K R (pm_d c) 0 → q (-3) (f_down, nI h, nI p, yf_payload, yf_wants, yf_name, yf_first, yf_counts, yf_enters, nI M, nI m, nI z.2, nI (if l = 0 then 7 else l), z'.1, z'.2.1, z'.2.2.1, z'.2.2.2.1, (nI L), z'.2.2.2.2.1, z'.2.2.2.2.2.1, a_kinds, a_repeats, a_life, a_codes, an_f wi, an_f wo, ya_type, an_f hc, a_headers, an_f ql, ya_otherEnded, a_weEnded, a_finishing, an_g Q, ya_prefix, ya_length, ya_got, ya_high, a_messageCount, ya_has, an_g tx, ya_frame, ya_payloads, ya_table, an_g z.1, z'.2.2.2.2.2.2.1, z'.2.2.2.2.2.2.2.1, z'.2.2.2.2.2.2.2.2.1, z'.2.2.2.2.2.2.2.2.2.1, z'.2.2.2.2.2.2.2.2.2.2.1, z'.2.2.2.2.2.2.2.2.2.2.2.1, z'.2.2.2.2.2.2.2.2.2.2.2.2, ns')))) → wpY_answer q (f_down, nI h, nI p, yf_payload, yf_wants, yf_name, yf_first, yf_counts, yf_enters, nI M, nI m, nI z.2, nI (if l = 0 then 7 else l), yf_nodes, yf_values, yf_skipped, yf_pos, yf_there, yf_number, yf_at, a_kinds, a_repeats, a_life, a_codes, an_f wi, an_f wo, ya_type, an_f hc, a_headers, an_f ql, ya_otherEnded, a_weEnded, a_finishing, an_g Q, ya_prefix, ya_length, ya_got, ya_high, a_messageCount, ya_has, an_g tx, ya_frame, ya_payloads, ya_table, an_g z.1, ya_nodeType, ya_valueNode, ya_valueNumber, ya_value, ya_from, ya_limit, ya_inside, ya_sizes) (nI s) := by
    intro q hq'
    unfold wpY_answer
    refine br_t hd (ys_open_t (by omega) hs ho hd (br_f (by decide) ?_))
    rw [g2]
    refine ⟨g1, br_t hfi ⟨g1, br_f (by rw [w]; decide) ?_⟩⟩
    unfold wpY_size
    refine HO _ (fun z' hz => br_f (by decide) (zy_measure hK hz.2.2.2.2.2.1 hDI l1 hz.1 hz.2.1 (fun ns' hns' => ?_)))
    have e0 := hns' 0 hDI.1
    dsimp only
    rw [e0, e5]
    have h := hq' z' ns' hz hns'
    exact ⟨g1, pk_le (ql s + 3 + sz_S K R (pm_d c) 0) 500 (fun w5 => h.1 w5) (fun w5 => h.2 w5)⟩
  rw [e5]
  refine ⟨g1, pk_le (ql s + 3 + sz_S K R (pm_d c) 0) 500 (fun w5 => ?_) (fun w5 => ?_)⟩
  rotate_left
  · refine HY _ (fun z' ns' hz hns' => ⟨fun w => by omega, fun _ => ⟨rfl, ?_⟩⟩)
    have hC' : cr_C k ((K, R, z), (fAt, n, so, fl, st, h, p, m, M, l), (wi, wo, ql, hc, Q, tx), (f_down, f_typeSeen, yf_payload, yf_wants, yf_name, yf_first, yf_counts, yf_enters, yf_nodes, yf_values, yf_skipped, yf_pos, yf_there, yf_number, yf_at), (a_payload, a_life, a_theyEnded, a_weEnded, a_finishing, a_codes, a_headers, a_entries, a_kinds, a_repeats, a_messageCount), (a_nodeCount, a_nodeTypes, a_valueCount, a_valueOwners, a_values, a_skippedCount, a_reader, a_chainNode, a_chainEnd, ns, a_nodePlace), (ya_type, ya_otherEnded, ya_prefix, ya_length, ya_got, ya_high, ya_has, ya_frame, ya_payloads), (ya_table, ya_nodeType, ya_valueNode, ya_valueNumber, ya_value, ya_from, ya_limit, ya_inside, ns')) := hC
    exact lo_J hC' z'
  -- it is written
  refine xf_message (B := cr_by tx s) (q := ql s) (N := sz_S K R (pm_d c) 0) hs hBy hK d3 hDI l1 hns rfl rfl w5 (fun np' => ?_)
  dsimp only
  have hN : (ct_S (cr_by tx s) K R (pm_d c) 0).length = sz_S K R (pm_d c) 0 := ct_S_len 0
  have hS' := cr_S_ql (x := ql s + (3 + sz_S K R (pm_d c) 0)) hfi (by omega) hS
  have hQ' : cr_B (ct_put Q (500 * s + ql s) ([0, sz_S K R (pm_d c) 0 / 256, sz_S K R (pm_d c) 0 % 256] ++ ct_S (cr_by tx s) K R (pm_d c) 0)) := by
    refine cp_B _ Q _ (fun b hb => ?_) hQ
    rcases List.mem_append.mp hb with e | e
    · simp only [List.mem_cons, List.not_mem_nil, or_false] at e
      rcases e with e | e | e <;> omega
    · exact ct_S_256 hDI l1 hBy.2.1 _ 0 hDI.1 (Nat.le_refl _) b e
  generalize hNN : sz_S K R (pm_d c) 0 = N at *
  obtain ⟨life', we', wo', ql', Q', z', l', r1, r2, r3, r4, r5, r6, r7, r8⟩ := pu_all (a_life := a_life) (a_weEnded := a_weEnded) (z := z) (l := l) (yf_payload := yf_payload) (yf_wants := yf_wants) (yf_name := yf_name) (yf_first := yf_first) (yf_counts := yf_counts) (yf_enters := yf_enters) (ya_type := ya_type) (ya_otherEnded := ya_otherEnded) (ya_prefix := ya_prefix) (ya_length := ya_length) (ya_got := ya_got) (ya_high := ya_high) (ya_has := ya_has) (ya_frame := ya_frame) (ya_payloads := ya_payloads) (ya_table := ya_table) (yf_heads := nI h) (yf_paid := nI p) (yf_most := nI M) (yf_many := nI m) (ya_kind := a_kinds) (ya_repeated := a_repeats) (ya_coming := an_f wi) (ya_headers := an_f hc) (ya_header := a_headers) (ya_whole := a_messageCount) (ya_bytes := an_g tx) hS' hO hQ' hl
  refine r7 _ ?_
  dsimp only
  refine HY _ (fun zz ns' hz hns' => ⟨fun _ => ?_, fun w => by omega⟩)
  have e8 : nI N >>> ((8 : Int32) &&& 31) = nI (N / 256) := by
    rw [pk_shrN (by omega) _ 8 (by decide)]
  rw [e8, hd, hz.2.1]
  have eql : an_f ql = an_f (pm_u ql s (ql s)) := by rw [pm_id rfl]
  rw [eql]
  refine yw_1 (b := 0) hs (by omega) (an_b1 0) (yw_1 (b := N / 256) hs (by omega) (an_b1 _) (yw_1 (b := N % 256) hs (by omega) (an_low _ _ (by rw [pk_tn (by omega)]; omega)) ?_))
  refine yz_write (B := cr_by tx s) (D := pm_d c) (dep := dep) (L := L) (K := K) (R := R) (q1 := ql s + 1 + 1 + 1) hs hBy hK hz.2.2.2.2.2.1 hDI l1 hns' (by rw [hN]; omega) (fun lim' ins' => ?_)
  have eQ : ct_put (pm_u (pm_u (pm_u Q (500 * s + ql s) 0) (500 * s + (ql s + 1)) (N / 256)) (500 * s + (ql s + 1 + 1)) (N % 256)) (500 * s + (ql s + 1 + 1 + 1)) (ct_S (cr_by tx s) K R (pm_d c) 0) = ct_put Q (500 * s + ql s) ([0, N / 256, N % 256] ++ ct_S (cr_by tx s) K R (pm_d c) 0) := cp_app [0, N / 256, N % 256] _ Q (500 * s + ql s)
  have eq2 : ql s + 1 + 1 + 1 + (ct_S (cr_by tx s) K R (pm_d c) 0).length = ql s + (3 + N) := by rw [hN]; omega
  rw [eQ, eq2]
  dsimp only
  refine r8 (zz.1, nI (pm_nv (pm_d c)), zz.2.2.1, zz.2.2.2.1, zz.2.2.2.2.1, zz.2.2.2.2.2.1, zz.2.2.2.2.2.2.1, zz.2.2.2.2.2.2.2.1, zz.2.2.2.2.2.2.2.2.1, zz.2.2.2.2.2.2.2.2.2.1, zz.2.2.2.2.2.2.2.2.2.2.1, lim', ins') (nI L) ns' _ ?_
  dsimp only
  exact ⟨rfl, ((K, R, z'), (fAt, n, so, fl, st, h, p, m, M, l'), (wi, wo', ql', hc, Q', tx), (0, f_typeSeen, yf_payload, yf_wants, yf_name, yf_first, yf_counts, yf_enters, zz.1, nI (pm_nv (pm_d c)), zz.2.2.1, zz.2.2.2.1, nI L, zz.2.2.2.2.1, zz.2.2.2.2.2.1), (a_payload, life', a_theyEnded, we', a_finishing, a_codes, a_headers, a_entries, a_kinds, a_repeats, a_messageCount), (a_nodeCount, a_nodeTypes, a_valueCount, a_valueOwners, a_values, a_skippedCount, a_reader, a_chainNode, a_chainEnd, ns, np'), (ya_type, ya_otherEnded, ya_prefix, ya_length, ya_got, ya_high, ya_has, ya_frame, ya_payloads), (ya_table, zz.2.2.2.2.2.2.1, zz.2.2.2.2.2.2.2.1, zz.2.2.2.2.2.2.2.2.1, zz.2.2.2.2.2.2.2.2.2.1, zz.2.2.2.2.2.2.2.2.2.2.1, lim', ins', ns')), rfl, rfl, Or.inl rfl, r4, hH, r2, r3, hX, r1, fun _ => r5, hT, hK, fun _ => cr_F_life r6 (hF hd), fun s' h1' h8' => cr_m_k (by omega) (cr_m_life (r6 s') (hM s' h1' h8'))⟩
end
