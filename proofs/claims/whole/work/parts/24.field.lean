/-! W: field, the beginning -/
section
variable {f_frameAt f_frameLength f_frameSort f_frameFlags f_frameStream f_down f_entryCount f_most f_typeSeen f_lastSender f_sentLength : Int32} {a_payload a_life a_theyEnded a_weEnded a_finishing a_codes a_windowIn a_windowOut a_headers a_headerCount a_entries a_kinds a_repeats a_messageCount a_text a_nodeCount a_nodeTypes a_valueCount a_valueOwners a_values a_skippedCount a_reader a_chainNode a_chainEnd a_queue a_queueLength a_sent a_nodeSize a_nodePlace : Nat → Int32} {yf_down yf_heads yf_paid yf_payload yf_wants yf_name yf_first yf_counts yf_enters yf_most yf_many yf_sent yf_last yf_nodes yf_values yf_skipped yf_pos yf_there yf_number yf_at : Int32} {ya_kind ya_repeated ya_how ya_code ya_coming ya_going ya_type ya_headers ya_header ya_queued ya_otherEnded ya_ended ya_finishing ya_queue ya_prefix ya_length ya_got ya_high ya_whole ya_has ya_bytes ya_frame ya_payloads ya_table ya_out ya_nodeType ya_valueNode ya_valueNumber ya_value ya_from ya_limit ya_inside ya_sizes : Nat → Int32}
theorem xf_36 {x1 x2 x3 x4 : Int32} {post : Int32 → SX → Prop} : ∀ r i, i + r = 8 → 1 ≤ i →
    ((∃ s, i ≤ s ∧ s < 8 ∧ a_life s ≠ 0) → post 0 (f_frameAt, f_frameLength, f_frameSort, f_frameFlags, f_frameStream, f_down, f_entryCount, f_most, f_typeSeen, f_lastSender, f_sentLength, a_payload, a_life, a_theyEnded, a_weEnded, a_finishing, a_codes, a_windowIn, a_windowOut, a_headers, a_headerCount, a_entries, a_kinds, a_repeats, a_messageCount, a_text, a_nodeCount, a_nodeTypes, a_valueCount, a_valueOwners, a_values, a_skippedCount, a_reader, a_chainNode, a_chainEnd, a_queue, a_queueLength, a_sent, a_nodeSize, a_nodePlace)) →
    ((∀ s, i ≤ s → s < 8 → a_life s = 0) → wX_field_36 post x1 x2 x3 x4 f_frameAt f_frameLength f_frameSort f_frameFlags f_frameStream f_down f_entryCount f_most f_typeSeen f_lastSender f_sentLength a_payload a_life a_theyEnded a_weEnded a_finishing a_codes a_windowIn a_windowOut a_headers a_headerCount a_entries a_kinds a_repeats a_messageCount a_text a_nodeCount a_nodeTypes a_valueCount a_valueOwners a_values a_skippedCount a_reader a_chainNode a_chainEnd a_queue a_queueLength a_sent a_nodeSize a_nodePlace 1 8) → wX_field_36 post x1 x2 x3 x4 f_frameAt f_frameLength f_frameSort f_frameFlags f_frameStream f_down f_entryCount f_most f_typeSeen f_lastSender f_sentLength a_payload a_life a_theyEnded a_weEnded a_finishing a_codes a_windowIn a_windowOut a_headers a_headerCount a_entries a_kinds a_repeats a_messageCount a_text a_nodeCount a_nodeTypes a_valueCount a_valueOwners a_values a_skippedCount a_reader a_chainNode a_chainEnd a_queue a_queueLength a_sent a_nodeSize a_nodePlace (r + 1) (nI i)
  | 0, i, hi, _, _, H1 => by
    have : i = 8 := by omega
    subst this
    exact H1 (fun s h1 h2 => by omega)
  | r + 1, i, hi, h1, H0, H1 => by
    rw [wX_field_36]
    refine pk_le 8 i (fun y => absurd y (by omega)) (fun y => ⟨vp_in_nI y (by omega), ?_⟩)
    rw [nI_clamp (by omega)]
    refine br_c (fun e => nm_r (nI_1 _) (xf_36 r (i + 1) (by omega) (by omega) (fun w => ?_) (fun w => ?_))) (fun e => H0 ⟨i, Nat.le_refl _, y, e⟩)
    · obtain ⟨s, a, b, c⟩ := w
      exact H0 ⟨s, by omega, b, c⟩
    · refine H1 (fun s a b => ?_)
      by_cases g : s = i
      · subst g; exact e
      · exact w s (by omega) b
theorem yf_34 {x1 x2 x3 x4 : Int32} {post : Int32 → SY → Prop} : ∀ r i, i + r = 8 → 1 ≤ i →
    ((∃ s, i ≤ s ∧ s < 8 ∧ ya_how s ≠ 0) → post 0 (yf_down, yf_heads, yf_paid, yf_payload, yf_wants, yf_name, yf_first, yf_counts, yf_enters, yf_most, yf_many, yf_sent, yf_last, yf_nodes, yf_values, yf_skipped, yf_pos, yf_there, yf_number, yf_at, ya_kind, ya_repeated, ya_how, ya_code, ya_coming, ya_going, ya_type, ya_headers, ya_header, ya_queued, ya_otherEnded, ya_ended, ya_finishing, ya_queue, ya_prefix, ya_length, ya_got, ya_high, ya_whole, ya_has, ya_bytes, ya_frame, ya_payloads, ya_table, ya_out, ya_nodeType, ya_valueNode, ya_valueNumber, ya_value, ya_from, ya_limit, ya_inside, ya_sizes)) →
    ((∀ s, i ≤ s → s < 8 → ya_how s = 0) → wY_field_34 post x1 x2 x3 x4 yf_down yf_heads yf_paid yf_payload yf_wants yf_name yf_first yf_counts yf_enters yf_most yf_many yf_sent yf_last yf_nodes yf_values yf_skipped yf_pos yf_there yf_number yf_at ya_kind ya_repeated ya_how ya_code ya_coming ya_going ya_type ya_headers ya_header ya_queued ya_otherEnded ya_ended ya_finishing ya_queue ya_prefix ya_length ya_got ya_high ya_whole ya_has ya_bytes ya_frame ya_payloads ya_table ya_out ya_nodeType ya_valueNode ya_valueNumber ya_value ya_from ya_limit ya_inside ya_sizes 1 8) → wY_field_34 post x1 x2 x3 x4 yf_down yf_heads yf_paid yf_payload yf_wants yf_name yf_first yf_counts yf_enters yf_most yf_many yf_sent yf_last yf_nodes yf_values yf_skipped yf_pos yf_there yf_number yf_at ya_kind ya_repeated ya_how ya_code ya_coming ya_going ya_type ya_headers ya_header ya_queued ya_otherEnded ya_ended ya_finishing ya_queue ya_prefix ya_length ya_got ya_high ya_whole ya_has ya_bytes ya_frame ya_payloads ya_table ya_out ya_nodeType ya_valueNode ya_valueNumber ya_value ya_from ya_limit ya_inside ya_sizes (r + 1) (nI i)
  | 0, i, hi, _, _, H1 => by
    have : i = 8 := by omega
    subst this
    exact H1 (fun s h1 h2 => by omega)
  | r + 1, i, hi, h1, H0, H1 => by
    rw [wY_field_34]
    refine pk_le 8 i (fun y => absurd y (by omega)) (fun y => ⟨vp_in_nI y (by omega), ?_⟩)
    rw [nI_clamp (by omega)]
    refine br_c (fun e => nm_r (nI_1 _) (yf_34 r (i + 1) (by omega) (by omega) (fun w => ?_) (fun w => ?_))) (fun e => H0 ⟨i, Nat.le_refl _, y, e⟩)
    · obtain ⟨s, a, b, c⟩ := w
      exact H0 ⟨s, by omega, b, c⟩
    · refine H1 (fun s a b => ?_)
      by_cases g : s = i
      · subst g; exact e
      · exact w s (by omega) b
/-- the kinds of a field that is given -/
theorem fd_k (x : Int32) : x < -1 ∨ (¬ x < -1 ∧ ¬ x ≤ 7) ∨ (¬ x < -1 ∧ x ≤ 7 ∧ ∃ c, c ≤ 8 ∧ x = nI c + (-1)) := by
  by_cases h1 : x < -1
  · exact Or.inl h1
  · by_cases h2 : x ≤ 7
    · right; right
      refine ⟨h1, h2, ?_⟩
      have m1 : (-1 : Int32).toInt = -1 := by decide
      have m7 : (7 : Int32).toInt = 7 := by decide
      rw [Int32.lt_iff_toInt_lt] at h1
      rw [Int32.le_iff_toInt_le] at h2
      have key : ∀ y : Int, -1 ≤ y → y ≤ 7 → y = -1 ∨ y = 0 ∨ y = 1 ∨ y = 2 ∨ y = 3 ∨ y = 4 ∨ y = 5 ∨ y = 6 ∨ y = 7 := by
        intro y a b; omega
      have inj : ∀ c : Nat, x.toInt = (nI c + (-1)).toInt → x = nI c + (-1) := fun c h => Int32.toInt_inj.mp h
      rcases key x.toInt (by omega) (by omega) with e | e | e | e | e | e | e | e | e
      · exact ⟨0, by omega, inj 0 (by rw [e]; decide)⟩
      · exact ⟨1, by omega, inj 1 (by rw [e]; decide)⟩
      · exact ⟨2, by omega, inj 2 (by rw [e]; decide)⟩
      · exact ⟨3, by omega, inj 3 (by rw [e]; decide)⟩
      · exact ⟨4, by omega, inj 4 (by rw [e]; decide)⟩
      · exact ⟨5, by omega, inj 5 (by rw [e]; decide)⟩
      · exact ⟨6, by omega, inj 6 (by rw [e]; decide)⟩
      · exact ⟨7, by omega, inj 7 (by rw [e]; decide)⟩
      · exact ⟨8, by omega, inj 8 (by rw [e]; decide)⟩
    · exact Or.inr (Or.inl ⟨h1, h2⟩)
/-- an index between two numbers -/
theorem fd_i (x a b : Int32) {lo hi : Nat} (ha : a = nI lo) (hb : b = nI hi) (hlo : lo < 2 ^ 30) (hhi : hi < 2 ^ 30) :
    x < a ∨ (¬ x < a ∧ nI (hi + 1) ≤ x ∧ ¬ x ≤ b) ∨ (∃ j, lo ≤ j ∧ j ≤ hi ∧ x = nI j ∧ ¬ x < a ∧ ¬ nI (hi + 1) ≤ x ∧ x ≤ b) := by
  subst ha hb
  by_cases h1 : x < nI lo
  · exact Or.inl h1
  · have h0 : ¬ x < 0 := by
      intro w
      rw [Int32.lt_iff_toInt_lt] at w h1
      rw [nI_toInt (by omega)] at h1
      have z0 : (0 : Int32).toInt = 0 := by decide
      omega
    obtain ⟨j, hj, rfl⟩ := nI_of h0
    rw [nI_ltI hj (by omega)] at h1
    by_cases h2 : j ≤ hi
    · right; right
      exact ⟨j, by omega, h2, rfl, by rw [nI_ltI hj (by omega)]; exact h1, by rw [nI_leI (by omega) hj]; omega, by rw [nI_leI hj (by omega)]; exact h2⟩
    · right; left
      exact ⟨by rw [nI_ltI hj (by omega)]; exact h1, by rw [nI_leI (by omega) hj]; omega, by rw [nI_leI hj (by omega)]; exact h2⟩
theorem fd_b (v : Int32) : ∃ b : Bool, lw_bz v = (if b = true then 1 else 0) ∧ vp_nar .boolean (lw_bz v) = (if b = true then 1 else 0) := by
  rcases lw_bz_01 v with e | e
  · exact ⟨false, by rw [e]; rfl, by rw [e]; rfl⟩
  · exact ⟨true, by rw [e]; rfl, by rw [e]; rfl⟩
theorem i_vc_field {k : Nat} {u : SX} {v : SY} (I : i_Rel k u v) (hk : k + 6 ≤ 3072) (v1 : Int32) (v2 : Int32) (v3 : Int32) (v4 : Int32) : wpX_field (fun r u' => wpY_field (fun r' v' => r' = r ∧ i_Rel (k + 6) u' v') v v1 v2 v3 (lw_bz v4)) u v1 v2 v3 (lw_bz v4) := by
  have J := i_up I
  obtain ⟨⟨⟨K, R, z⟩, ⟨fAt, n, so, fl, st, h, p, m, M, l⟩, ⟨wi, wo, ql, hc, Q, tx⟩, ⟨f_down, f_typeSeen, yf_payload, yf_wants, yf_name, yf_first, yf_counts, yf_enters, yf_nodes, yf_values, yf_skipped, yf_pos, yf_there, yf_number, yf_at⟩, ⟨a_payload, a_life, a_theyEnded, a_weEnded, a_finishing, a_codes, a_headers, a_entries, a_kinds, a_repeats, a_messageCount⟩, ⟨a_nodeCount, a_nodeTypes, a_valueCount, a_valueOwners, a_values, a_skippedCount, a_reader, a_chainNode, a_chainEnd, a_nodeSize, a_nodePlace⟩, ⟨ya_type, ya_otherEnded, ya_prefix, ya_length, ya_got, ya_high, ya_has, ya_frame, ya_payloads⟩, ⟨ya_table, ya_nodeType, ya_valueNode, ya_valueNumber, ya_value, ya_from, ya_limit, ya_inside, ya_sizes⟩⟩, rfl, rfl, hD, hl, hH, hO, hQ, hX, hS, hq, hT, hK, hF, hM⟩ := I
  dsimp only [cr_x, cr_y] at J ⊢
  unfold wpX_field
  rcases fd_i v1 0 3 (lo := 0) (hi := 3) rfl rfl (by omega) (by omega) with a | ⟨a, b, c⟩ | ⟨t, t1, t2, rfl, a, b, c⟩
  · refine br_t a ?_
    unfold wpY_field
    exact yn_lo a (br_f (by decide) ⟨rfl, J⟩)
  · refine br_f a (br_t b ?_)
    unfold wpY_field
    exact yn_hi a c (br_f (by decide) ⟨rfl, J⟩)
  refine br_f a (br_f b ?_)
  rcases fd_i v2 1 15 (lo := 1) (hi := 15) rfl rfl (by omega) (by omega) with a' | ⟨a', b', c'⟩ | ⟨q, q1, q2, rfl, a', b', c'⟩
  · refine br_t a' ?_
    unfold wpY_field
    exact yn_in a c (br_t rfl (yn_lo a' (br_f (by decide) ⟨rfl, J⟩)))
  · refine br_f a' (br_t b' ?_)
    unfold wpY_field
    exact yn_in a c (br_t rfl (yn_hi a' c' (br_f (by decide) ⟨rfl, J⟩)))
  refine br_f a' (br_f b' ?_)
  rcases fd_k v3 with e | ⟨e, e'⟩ | ⟨e, e', kd, hkd, rfl⟩
  · refine br_t e ?_
    unfold wpY_field
    exact yn_in a c (br_t rfl (yn_in a' c' (br_t rfl (yn_lo e (br_f (by decide) ⟨rfl, J⟩)))))
  · refine br_f e (br_f e' ?_)
    unfold wpY_field
    exact yn_in a c (br_t rfl (yn_in a' c' (br_t rfl (yn_hi e e' (br_f (by decide) ⟨rfl, J⟩)))))
  refine br_f e (br_t e' ⟨8, xf_36 7 1 rfl (Nat.le_refl _) (fun w => ?_) (fun w => ?_)⟩)
  · unfold wpY_field
    refine yn_in a c (br_t rfl (yn_in a' c' (br_t rfl (yn_in e e' (br_t rfl ⟨8, yf_34 7 1 rfl (Nat.le_refl _) (fun _ => ⟨rfl, J⟩) (fun w' => ?_)⟩)))))
    obtain ⟨s, x1, x2, x3⟩ := w
    exact absurd (w' s x1 x2) x3
  · have j1 : nI t * 16 + nI q = nI (16 * t + q) := by
      rw [show (16 : Int32) = nI 16 from rfl, pk_mul, nI_add, Nat.mul_comm]
    have j2 : 16 * nI t + nI q = nI (16 * t + q) := by
      rw [show (16 : Int32) = nI 16 from rfl, pk_mul, nI_add]
    have j3 : vp_in (nI (16 * t + q)) 64 := vp_in_nI (by omega) (by omega)
    have j4 : (nI (16 * t + q)).toNatClampNeg = 16 * t + q := nI_clamp (by omega)
    obtain ⟨b4, hb4, hb4'⟩ := fd_b v4
    rw [wX_field_36]
    refine br_t (by decide) ?_
    rw [j1, j4, hb4']
    refine ⟨j3, nm_e ⟨j3, nm_e ?_⟩⟩
    unfold wpY_field
    refine yn_in a c (br_t rfl (yn_in a' c' (br_t rfl (yn_in e e' (br_t rfl ⟨8, yf_34 7 1 rfl (Nat.le_refl _) (fun w' => ?_) (fun _ => ?_)⟩)))))
    · obtain ⟨s, x1, x2, x3⟩ := w'
      exact absurd (w s x1 x2) x3
    · rw [wY_field_34]
      refine br_t (by decide) ?_
      rw [j2, j4, hb4']
      refine ⟨j3, nm_e ⟨j3, nm_e ⟨rfl, ?_⟩⟩⟩
      refine ⟨((pm_u K (16 * t + q) kd, fun j => if j = 16 * t + q then b4 else R j, z), (fAt, n, so, fl, st, h, p, m, M, l), (wi, wo, ql, hc, Q, tx), (f_down, f_typeSeen, yf_payload, yf_wants, yf_name, yf_first, yf_counts, yf_enters, yf_nodes, yf_values, yf_skipped, yf_pos, yf_there, yf_number, yf_at), (a_payload, a_life, a_theyEnded, a_weEnded, a_finishing, a_codes, a_headers, a_entries, upd a_kinds (16 * t + q) (nI kd + (-1)), upd a_repeats (16 * t + q) (if b4 = true then 1 else 0), a_messageCount), (a_nodeCount, a_nodeTypes, a_valueCount, a_valueOwners, a_values, a_skippedCount, a_reader, a_chainNode, a_chainEnd, a_nodeSize, a_nodePlace), (ya_type, ya_otherEnded, ya_prefix, ya_length, ya_got, ya_high, ya_has, ya_frame, ya_payloads), (ya_table, ya_nodeType, ya_valueNode, ya_valueNumber, ya_value, ya_from, ya_limit, ya_inside, ya_sizes)), rfl, rfl, hD, hl, hH, hO, hQ, hX, hS, hq, hT, ?_, hF, ?_⟩
      · refine ⟨fun j => ?_, fun j hj => ?_, fun j hj => ?_⟩
        · by_cases g : j = 16 * t + q
          · rw [g, pm_us]; exact hkd
          · rw [pm_un g]; exact hK.1 j
        · by_cases g : j = 16 * t + q
          · rw [g, pm_us, pm_upd_eq, if_pos rfl]
          · rw [pm_un g, pm_upd_eq, if_neg g]; exact hK.2.1 j hj
        · show upd a_repeats (16 * t + q) (if b4 = true then 1 else 0) j = if (if j = 16 * t + q then b4 else R j) = true then 1 else 0
          by_cases g : j = 16 * t + q
          · rw [pm_upd_eq, if_pos g, if_pos g]
          · rw [pm_upd_eq, if_neg g, if_neg g]; exact hK.2.2 j hj
      · intro s h1 h8
        have hid := w s h1 h8
        obtain ⟨p', m', y', h1, h2, h3, h4, h5, h6, h7, h8, h9, h10, h11, h12⟩ := hM s h1 h8
        obtain ⟨z1, z2⟩ := h8 hid
        subst z1 z2
        have hha : ya_has s = 0 := h7
        refine ⟨0, 0, y', h1, h2, h3, by omega, h5, h6, h7, fun _ => ⟨rfl, rfl⟩, h9, h10, fun w' => ?_, fun w' => absurd w' (by omega)⟩
        rw [hha] at w'; exact absurd w' (by decide)
end
