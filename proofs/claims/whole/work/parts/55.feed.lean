/-! T17: feed -/
section
theorem fd_sh (x s : Int32) (k : Nat) (hk : k = 0 ∨ k = 8 ∨ k = 16 ∨ k = 24) (hs : (s.toBitVec.smod 32).toNat = k) : (x >>> s).toBitVec.toNat % 256 = x.toBitVec.toNat / 2 ^ k % 256 := by
  have h1 : (x >>> s).toBitVec.toInt = x.toBitVec.toInt >>> k := pk_shr x s k hs
  rw [Int.shiftRight_eq_div_pow, BitVec.toInt_eq_toNat_cond, BitVec.toInt_eq_toNat_cond] at h1
  have b1 := (x >>> s).toBitVec.isLt
  have b2 := x.toBitVec.isLt
  generalize (x >>> s).toBitVec.toNat = A at *
  generalize x.toBitVec.toNat = N at *
  rcases hk with e | e | e | e <;> subst e <;> split at h1 <;> split at h1 <;> omega
theorem fd_by (x : Int32) (j : Nat) (hj : j < 4) : ∃ b, b < 256 ∧ ((x.toUInt32 >>> ((8 * nI j).toUInt32 &&& Int32.toUInt32 31)).toInt32) &&& 255 = nI b ∧ (x >>> ((8 * nI j) &&& 31)) &&& 255 = nI b := by
  have go : ∀ k, (k = 0 ∨ k = 8 ∨ k = 16 ∨ k = 24) → (((8 * nI j).toUInt32 &&& Int32.toUInt32 31).toBitVec % 32).toNat = k → (((8 * nI j) &&& 31).toBitVec.smod 32).toNat = k → ∃ b, b < 256 ∧ ((x.toUInt32 >>> ((8 * nI j).toUInt32 &&& Int32.toUInt32 31)).toInt32) &&& 255 = nI b ∧ (x >>> ((8 * nI j) &&& 31)) &&& 255 = nI b := by
    intro k hk h1 h2
    refine ⟨x.toBitVec.toNat / 2 ^ k % 2 ^ 8, Nat.mod_lt _ (by omega), ?_, ?_⟩
    · rw [pk_and _ 8 (by decide), pk_ushr x (8 * nI j) k h1]
    · rw [pk_and _ 8 (by decide)]
      exact congrArg nI (fd_sh x _ k hk h2)
  have hc : j = 0 ∨ j = 1 ∨ j = 2 ∨ j = 3 := by omega
  rcases hc with e | e | e | e <;> subst e
  · exact go 0 (Or.inl rfl) (by decide) (by decide)
  · exact go 8 (Or.inr (Or.inl rfl)) (by decide) (by decide)
  · exact go 16 (Or.inr (Or.inr (Or.inl rfl))) (by decide) (by decide)
  · exact go 24 (Or.inr (Or.inr (Or.inr rfl))) (by decide) (by decide)
def fd_YK (J : Int32 → Int32 → Int32 → Int32 → Int32 → Int32 → Int32 → Int32 → Int32 → Int32 → Int32 → Int32 → Int32 → Int32 → Int32 → Int32 → Int32 → Int32 → Int32 → Int32 → (Nat → Int32) → (Nat → Int32) → (Nat → Int32) → (Nat → Int32) → (Nat → Int32) → (Nat → Int32) → (Nat → Int32) → (Nat → Int32) → (Nat → Int32) → (Nat → Int32) → (Nat → Int32) → (Nat → Int32) → (Nat → Int32) → (Nat → Int32) → (Nat → Int32) → (Nat → Int32) → (Nat → Int32) → (Nat → Int32) → (Nat → Int32) → (Nat → Int32) → (Nat → Int32) → (Nat → Int32) → (Nat → Int32) → (Nat → Int32) → (Nat → Int32) → (Nat → Int32) → (Nat → Int32) → (Nat → Int32) → (Nat → Int32) → (Nat → Int32) → (Nat → Int32) → (Nat → Int32) → (Nat → Int32) → Prop) : SY → Prop
  | (yf_down, yf_heads, yf_paid, yf_payload, yf_wants, yf_name, yf_first, yf_counts, yf_enters, yf_most, yf_many, yf_sent, yf_last, yf_nodes, yf_values, yf_skipped, yf_pos, yf_there, yf_number, yf_at, ya_kind, ya_repeated, ya_how, ya_code, ya_coming, ya_going, ya_type, ya_headers, ya_header, ya_queued, ya_otherEnded, ya_ended, ya_finishing, ya_queue, ya_prefix, ya_length, ya_got, ya_high, ya_whole, ya_has, ya_bytes, ya_frame, ya_payloads, ya_table, ya_out, ya_nodeType, ya_valueNode, ya_valueNumber, ya_value, ya_from, ya_limit, ya_inside, ya_sizes) => J yf_down yf_heads yf_paid yf_payload yf_wants yf_name yf_first yf_counts yf_enters yf_most yf_many yf_sent yf_last yf_nodes yf_values yf_skipped yf_pos yf_there yf_number yf_at ya_kind ya_repeated ya_how ya_code ya_coming ya_going ya_type ya_headers ya_header ya_queued ya_otherEnded ya_ended ya_finishing ya_queue ya_prefix ya_length ya_got ya_high ya_whole ya_has ya_bytes ya_frame ya_payloads ya_table ya_out ya_nodeType ya_valueNode ya_valueNumber ya_value ya_from ya_limit ya_inside ya_sizes
def fd_XK (J : Int32 → Int32 → Int32 → Int32 → Int32 → Int32 → Int32 → Int32 → Int32 → Int32 → Int32 → (Nat → Int32) → (Nat → Int32) → (Nat → Int32) → (Nat → Int32) → (Nat → Int32) → (Nat → Int32) → (Nat → Int32) → (Nat → Int32) → (Nat → Int32) → (Nat → Int32) → (Nat → Int32) → (Nat → Int32) → (Nat → Int32) → (Nat → Int32) → (Nat → Int32) → (Nat → Int32) → (Nat → Int32) → (Nat → Int32) → (Nat → Int32) → (Nat → Int32) → (Nat → Int32) → (Nat → Int32) → (Nat → Int32) → (Nat → Int32) → (Nat → Int32) → (Nat → Int32) → (Nat → Int32) → (Nat → Int32) → (Nat → Int32) → Prop) : SX → Prop
  | (f_frameAt, f_frameLength, f_frameSort, f_frameFlags, f_frameStream, f_down, f_entryCount, f_most, f_typeSeen, f_lastSender, f_sentLength, a_payload, a_life, a_theyEnded, a_weEnded, a_finishing, a_codes, a_windowIn, a_windowOut, a_headers, a_headerCount, a_entries, a_kinds, a_repeats, a_messageCount, a_text, a_nodeCount, a_nodeTypes, a_valueCount, a_valueOwners, a_values, a_skippedCount, a_reader, a_chainNode, a_chainEnd, a_queue, a_queueLength, a_sent, a_nodeSize, a_nodePlace) => J f_frameAt f_frameLength f_frameSort f_frameFlags f_frameStream f_down f_entryCount f_most f_typeSeen f_lastSender f_sentLength a_payload a_life a_theyEnded a_weEnded a_finishing a_codes a_windowIn a_windowOut a_headers a_headerCount a_entries a_kinds a_repeats a_messageCount a_text a_nodeCount a_nodeTypes a_valueCount a_valueOwners a_values a_skippedCount a_reader a_chainNode a_chainEnd a_queue a_queueLength a_sent a_nodeSize a_nodePlace
theorem fd_loop {post : Int32 → SX → Prop} {x1 : Int32} {N : Nat} (hN : N ≤ 4) : ∀ (r j k : Nat) (g : cr_G) (x3 : Int32), j + r = N → fd_C k g → fd_F g →
    (∀ (g' : cr_G) (x3' : Int32), fd_C (k + r) g' → fd_F g' → (∀ (v : SY) (q : Int32 → SY → Prop), fd_Y g v → (∀ v', fd_Y g' v' → fd_YK (wY_feed_74 q x3') v') → fd_YK (wY_feed_26 q x1 (nI N) (r + 1) x3 (nI j)) v) → fd_XK (wX_feed_137 post x3') (cr_x g')) →
    fd_XK (wX_feed_17 post x1 (nI N) (r + 1) x3 (nI j)) (cr_x g)
  | 0, j, k, ((K, R, z), (fAt, n, so, fl, st, h, p, m, M, l), (wi, wo, ql, hc, Q, tx), (f_down, f_typeSeen, yf_payload, yf_wants, yf_name, yf_first, yf_counts, yf_enters, yf_nodes, yf_values, yf_skipped, yf_pos, yf_there, yf_number, yf_at), (a_payload, a_life, a_theyEnded, a_weEnded, a_finishing, a_codes, a_headers, a_entries, a_kinds, a_repeats, a_messageCount), (a_nodeCount, a_nodeTypes, a_valueCount, a_valueOwners, a_values, a_skippedCount, a_reader, a_chainNode, a_chainEnd, a_nodeSize, a_nodePlace), (ya_type, ya_otherEnded, ya_prefix, ya_length, ya_got, ya_high, ya_has, ya_frame, ya_payloads), (ya_table, ya_nodeType, ya_valueNode, ya_valueNumber, ya_value, ya_from, ya_limit, ya_inside, ya_sizes)), x3, hj, C, F, H => by
    have h := H ((K, R, z), (fAt, n, so, fl, st, h, p, m, M, l), (wi, wo, ql, hc, Q, tx), (f_down, f_typeSeen, yf_payload, yf_wants, yf_name, yf_first, yf_counts, yf_enters, yf_nodes, yf_values, yf_skipped, yf_pos, yf_there, yf_number, yf_at), (a_payload, a_life, a_theyEnded, a_weEnded, a_finishing, a_codes, a_headers, a_entries, a_kinds, a_repeats, a_messageCount), (a_nodeCount, a_nodeTypes, a_valueCount, a_valueOwners, a_values, a_skippedCount, a_reader, a_chainNode, a_chainEnd, a_nodeSize, a_nodePlace), (ya_type, ya_otherEnded, ya_prefix, ya_length, ya_got, ya_high, ya_has, ya_frame, ya_payloads), (ya_table, ya_nodeType, ya_valueNode, ya_valueNumber, ya_value, ya_from, ya_limit, ya_inside, ya_sizes)) x3 C F (fun v q hv hq => by
      obtain ⟨a, t, rfl⟩ := hv
      show wY_feed_26 q x1 (nI N) (0 + 1) x3 (nI j) (f_down) (nI h) (nI p) yf_payload yf_wants yf_name yf_first yf_counts yf_enters (nI M) (nI m) (nI z.2) (nI (if l = 0 then 7 else l)) (a.1) (a.2.1) (a.2.2.1) (a.2.2.2.1) (t) (a.2.2.2.2.1) (a.2.2.2.2.2.1) (a_kinds) (a_repeats) (a_life) (a_codes) (an_f wi) (an_f wo) ya_type (an_f hc) (a_headers) (an_f ql) ya_otherEnded (a_weEnded) (a_finishing) (an_g Q) ya_prefix ya_length ya_got ya_high (a_messageCount) ya_has (an_g tx) ya_frame ya_payloads ya_table (an_g z.1) (a.2.2.2.2.2.2.1) (a.2.2.2.2.2.2.2.1) (a.2.2.2.2.2.2.2.2.1) (a.2.2.2.2.2.2.2.2.2.1) (a.2.2.2.2.2.2.2.2.2.2.1) (a.2.2.2.2.2.2.2.2.2.2.2.1) (a.2.2.2.2.2.2.2.2.2.2.2.2) ya_sizes
      rw [wY_feed_26]
      exact pk_le N j (fun _ => hq _ ⟨a, t, rfl⟩) (fun w => by omega))
    show wX_feed_17 post x1 (nI N) (0 + 1) x3 (nI j) (nI fAt) (nI n) (nI so) (nI fl) (nI st) f_down (nI m) (nI M) f_typeSeen (nI l) (nI z.2) a_payload a_life a_theyEnded a_weEnded a_finishing a_codes (an_f wi) (an_f wo) a_headers (an_f hc) a_entries a_kinds a_repeats a_messageCount (an_f tx) a_nodeCount a_nodeTypes a_valueCount a_valueOwners a_values a_skippedCount a_reader a_chainNode a_chainEnd (an_f Q) (an_f ql) (an_f z.1) a_nodeSize a_nodePlace
    rw [wX_feed_17]
    exact pk_le N j (fun _ => h) (fun w => by omega)
  | r + 1, j, k, ((K, R, z), (fAt, n, so, fl, st, h, p, m, M, l), (wi, wo, ql, hc, Q, tx), (f_down, f_typeSeen, yf_payload, yf_wants, yf_name, yf_first, yf_counts, yf_enters, yf_nodes, yf_values, yf_skipped, yf_pos, yf_there, yf_number, yf_at), (a_payload, a_life, a_theyEnded, a_weEnded, a_finishing, a_codes, a_headers, a_entries, a_kinds, a_repeats, a_messageCount), (a_nodeCount, a_nodeTypes, a_valueCount, a_valueOwners, a_values, a_skippedCount, a_reader, a_chainNode, a_chainEnd, a_nodeSize, a_nodePlace), (ya_type, ya_otherEnded, ya_prefix, ya_length, ya_got, ya_high, ya_has, ya_frame, ya_payloads), (ya_table, ya_nodeType, ya_valueNode, ya_valueNumber, ya_value, ya_from, ya_limit, ya_inside, ya_sizes)), x3, hj, C, F, H => by
    show wX_feed_17 post x1 (nI N) (r + 1 + 1) x3 (nI j) (nI fAt) (nI n) (nI so) (nI fl) (nI st) f_down (nI m) (nI M) f_typeSeen (nI l) (nI z.2) a_payload a_life a_theyEnded a_weEnded a_finishing a_codes (an_f wi) (an_f wo) a_headers (an_f hc) a_entries a_kinds a_repeats a_messageCount (an_f tx) a_nodeCount a_nodeTypes a_valueCount a_valueOwners a_values a_skippedCount a_reader a_chainNode a_chainEnd (an_f Q) (an_f ql) (an_f z.1) a_nodeSize a_nodePlace
    by_cases hd : f_down = 0
    · obtain ⟨b, hb, bx, by'⟩ := fd_by x1 j (by omega)
      have HB : fd_H k b (r + 1) post x1 (nI N) x3 (nI j) ((K, R, z), (fAt, n, so, fl, st, h, p, m, M, l), (wi, wo, ql, hc, Q, tx), (f_down, f_typeSeen, yf_payload, yf_wants, yf_name, yf_first, yf_counts, yf_enters, yf_nodes, yf_values, yf_skipped, yf_pos, yf_there, yf_number, yf_at), (a_payload, a_life, a_theyEnded, a_weEnded, a_finishing, a_codes, a_headers, a_entries, a_kinds, a_repeats, a_messageCount), (a_nodeCount, a_nodeTypes, a_valueCount, a_valueOwners, a_values, a_skippedCount, a_reader, a_chainNode, a_chainEnd, a_nodeSize, a_nodePlace), (ya_type, ya_otherEnded, ya_prefix, ya_length, ya_got, ya_high, ya_has, ya_frame, ya_payloads), (ya_table, ya_nodeType, ya_valueNode, ya_valueNumber, ya_value, ya_from, ya_limit, ya_inside, ya_sizes)) := by
        intro g' e C' F' Y'
        have hrec := fd_loop hN r (j + 1) (k + 1) g' (cond e (x3 + 1) x3) (by omega) C' F' (fun g2 x2 C2 F2 Y2 => by
          refine H g2 x2 ?_ F2 (fun v q hv hq => ?_)
          · have ek : k + 1 + r = k + (r + 1) := by omega
            rw [ek] at C2; exact C2
          · obtain ⟨a, t, rfl⟩ := hv
            show wY_feed_26 q x1 (nI N) (r + 1 + 1) x3 (nI j) (f_down) (nI h) (nI p) yf_payload yf_wants yf_name yf_first yf_counts yf_enters (nI M) (nI m) (nI z.2) (nI (if l = 0 then 7 else l)) (a.1) (a.2.1) (a.2.2.1) (a.2.2.2.1) (t) (a.2.2.2.2.1) (a.2.2.2.2.2.1) (a_kinds) (a_repeats) (a_life) (a_codes) (an_f wi) (an_f wo) ya_type (an_f hc) (a_headers) (an_f ql) ya_otherEnded (a_weEnded) (a_finishing) (an_g Q) ya_prefix ya_length ya_got ya_high (a_messageCount) ya_has (an_g tx) ya_frame ya_payloads ya_table (an_g z.1) (a.2.2.2.2.2.2.1) (a.2.2.2.2.2.2.2.1) (a.2.2.2.2.2.2.2.2.1) (a.2.2.2.2.2.2.2.2.2.1) (a.2.2.2.2.2.2.2.2.2.2.1) (a.2.2.2.2.2.2.2.2.2.2.2.1) (a.2.2.2.2.2.2.2.2.2.2.2.2) ya_sizes
            rw [wY_feed_26]
            refine pk_le N j (fun w => by omega) (fun _ => br_t hd (nm_r by' (Y' a t _ (fun v' hv' => ?_))))
            have h2 := Y2 v' q hv' hq
            obtain ⟨yf_down, yf_heads, yf_paid, yf_payload, yf_wants, yf_name, yf_first, yf_counts, yf_enters, yf_most, yf_many, yf_sent, yf_last, yf_nodes, yf_values, yf_skipped, yf_pos, yf_there, yf_number, yf_at, ya_kind, ya_repeated, ya_how, ya_code, ya_coming, ya_going, ya_type, ya_headers, ya_header, ya_queued, ya_otherEnded, ya_ended, ya_finishing, ya_queue, ya_prefix, ya_length, ya_got, ya_high, ya_whole, ya_has, ya_bytes, ya_frame, ya_payloads, ya_table, ya_out, ya_nodeType, ya_valueNode, ya_valueNumber, ya_value, ya_from, ya_limit, ya_inside, ya_sizes⟩ := v'
            cases e
            · exact br_t rfl (nm_r (nI_1 j) h2)
            · exact br_f (by decide) (nm_e (nm_r (nI_1 j) h2)))
        obtain ⟨⟨K, R, z⟩, ⟨fAt, n, so, fl, st, h, p, m, M, l⟩, ⟨wi, wo, ql, hc, Q, tx⟩, ⟨f_down, f_typeSeen, yf_payload, yf_wants, yf_name, yf_first, yf_counts, yf_enters, yf_nodes, yf_values, yf_skipped, yf_pos, yf_there, yf_number, yf_at⟩, ⟨a_payload, a_life, a_theyEnded, a_weEnded, a_finishing, a_codes, a_headers, a_entries, a_kinds, a_repeats, a_messageCount⟩, ⟨a_nodeCount, a_nodeTypes, a_valueCount, a_valueOwners, a_values, a_skippedCount, a_reader, a_chainNode, a_chainEnd, a_nodeSize, a_nodePlace⟩, ⟨ya_type, ya_otherEnded, ya_prefix, ya_length, ya_got, ya_high, ya_has, ya_frame, ya_payloads⟩, ⟨ya_table, ya_nodeType, ya_valueNode, ya_valueNumber, ya_value, ya_from, ya_limit, ya_inside, ya_sizes⟩⟩ := g'
        show wX_feed_17 post x1 (nI N) (r + 1) (cond e (x3 + 1) x3) (nI j + 1) (nI fAt) (nI n) (nI so) (nI fl) (nI st) f_down (nI m) (nI M) f_typeSeen (nI l) (nI z.2) a_payload a_life a_theyEnded a_weEnded a_finishing a_codes (an_f wi) (an_f wo) a_headers (an_f hc) a_entries a_kinds a_repeats a_messageCount (an_f tx) a_nodeCount a_nodeTypes a_valueCount a_valueOwners a_values a_skippedCount a_reader a_chainNode a_chainEnd (an_f Q) (an_f ql) (an_f z.1) a_nodeSize a_nodePlace
        rw [nI_1]
        exact hrec
      obtain ⟨n1, n2, n3, n4, f0, f1, f2, f3, hh⟩ := F hd
      rw [wX_feed_17]
      refine pk_le N j (fun w => by omega) (fun _ => br_t hd (nm_r bx ?_))
      rcases hh with ⟨h4, e⟩ | ⟨e4, ef, hp, k1, k2, k3, k4, k5, k6, k7, k8, k9, k10⟩
      · exact pk_le 4 fAt (fun w => by omega) (fun _ => fd_h hd hb C h4 e n1 n2 n3 n4 f0 f1 f2 f3 HB)
      · refine pk_le 4 fAt (fun _ => ?_) (fun w => by omega)
        exact fd_p hd hb C e4 ef hp n2 n3 n4 f0 f1 f2 f3 ⟨k1, k2, k3, k4, k5, fun w => (k6 w).1, k7, k8, k9, k10⟩ (fun w => (k6 w).2) HB
    · have h := H ((K, R, z), (fAt, n, so, fl, st, h, p, m, M, l), (wi, wo, ql, hc, Q, tx), (f_down, f_typeSeen, yf_payload, yf_wants, yf_name, yf_first, yf_counts, yf_enters, yf_nodes, yf_values, yf_skipped, yf_pos, yf_there, yf_number, yf_at), (a_payload, a_life, a_theyEnded, a_weEnded, a_finishing, a_codes, a_headers, a_entries, a_kinds, a_repeats, a_messageCount), (a_nodeCount, a_nodeTypes, a_valueCount, a_valueOwners, a_values, a_skippedCount, a_reader, a_chainNode, a_chainEnd, a_nodeSize, a_nodePlace), (ya_type, ya_otherEnded, ya_prefix, ya_length, ya_got, ya_high, ya_has, ya_frame, ya_payloads), (ya_table, ya_nodeType, ya_valueNode, ya_valueNumber, ya_value, ya_from, ya_limit, ya_inside, ya_sizes)) x3 ?_ F (fun v q hv hq => by
        obtain ⟨a, t, rfl⟩ := hv
        show wY_feed_26 q x1 (nI N) (r + 1 + 1) x3 (nI j) (f_down) (nI h) (nI p) yf_payload yf_wants yf_name yf_first yf_counts yf_enters (nI M) (nI m) (nI z.2) (nI (if l = 0 then 7 else l)) (a.1) (a.2.1) (a.2.2.1) (a.2.2.2.1) (t) (a.2.2.2.2.1) (a.2.2.2.2.2.1) (a_kinds) (a_repeats) (a_life) (a_codes) (an_f wi) (an_f wo) ya_type (an_f hc) (a_headers) (an_f ql) ya_otherEnded (a_weEnded) (a_finishing) (an_g Q) ya_prefix ya_length ya_got ya_high (a_messageCount) ya_has (an_g tx) ya_frame ya_payloads ya_table (an_g z.1) (a.2.2.2.2.2.2.1) (a.2.2.2.2.2.2.2.1) (a.2.2.2.2.2.2.2.2.1) (a.2.2.2.2.2.2.2.2.2.1) (a.2.2.2.2.2.2.2.2.2.2.1) (a.2.2.2.2.2.2.2.2.2.2.2.1) (a.2.2.2.2.2.2.2.2.2.2.2.2) ya_sizes
        rw [wY_feed_26]
        exact pk_le N j (fun w => by omega) (fun _ => br_f hd (hq _ ⟨a, t, rfl⟩)))
      · rw [wX_feed_17]
        exact pk_le N j (fun w => by omega) (fun _ => br_f hd h)
      · obtain ⟨hD, hl, hH, hO, hQ, hX, hS, hT, hK, hM⟩ := C
        exact ⟨hD, hl, hH, hO, hQ, hX, hS, hT, hK, fun i i1 i8 => cr_m_k (by omega) (hM i i1 i8)⟩
theorem yo_pd {yf_down yf_heads yf_paid yf_payload yf_wants yf_name yf_first yf_counts yf_enters yf_most yf_many yf_sent yf_last yf_nodes yf_values yf_skipped yf_pos yf_there yf_number yf_at : Int32} {ya_kind ya_repeated ya_how ya_code ya_coming ya_going ya_type ya_headers ya_header ya_queued ya_otherEnded ya_ended ya_finishing ya_queue ya_prefix ya_length ya_got ya_high ya_whole ya_has ya_bytes ya_frame ya_payloads ya_table ya_out ya_nodeType ya_valueNode ya_valueNumber ya_value ya_from ya_limit ya_inside ya_sizes : Nat → Int32} {post : SY → Prop} (hd : ¬ yf_down = 0) (H : post (yf_down, yf_heads, yf_paid, yf_payload, yf_wants, yf_name, yf_first, yf_counts, yf_enters, yf_most, yf_many, yf_sent, yf_last, yf_nodes, yf_values, yf_skipped, yf_pos, yf_there, yf_number, yf_at, ya_kind, ya_repeated, ya_how, ya_code, ya_coming, ya_going, ya_type, ya_headers, ya_header, ya_queued, ya_otherEnded, ya_ended, ya_finishing, ya_queue, ya_prefix, ya_length, ya_got, ya_high, ya_whole, ya_has, ya_bytes, ya_frame, ya_payloads, ya_table, ya_out, ya_nodeType, ya_valueNode, ya_valueNumber, ya_value, ya_from, ya_limit, ya_inside, ya_sizes)) : wpY_pump post (yf_down, yf_heads, yf_paid, yf_payload, yf_wants, yf_name, yf_first, yf_counts, yf_enters, yf_most, yf_many, yf_sent, yf_last, yf_nodes, yf_values, yf_skipped, yf_pos, yf_there, yf_number, yf_at, ya_kind, ya_repeated, ya_how, ya_code, ya_coming, ya_going, ya_type, ya_headers, ya_header, ya_queued, ya_otherEnded, ya_ended, ya_finishing, ya_queue, ya_prefix, ya_length, ya_got, ya_high, ya_whole, ya_has, ya_bytes, ya_frame, ya_payloads, ya_table, ya_out, ya_nodeType, ya_valueNode, ya_valueNumber, ya_value, ya_from, ya_limit, ya_inside, ya_sizes) := by
  unfold wpY_pump
  refine ⟨1, ?_⟩
  rw [wY_pump_2]
  exact br_f (by decide) (br_f hd H)
theorem fd_n (x : Int32) : x < 1 ∨ (¬ x < 1 ∧ ¬ x ≤ 4) ∨ ∃ N, 1 ≤ N ∧ N ≤ 4 ∧ x = nI N ∧ ¬ x < 1 ∧ x ≤ 4 := by
  by_cases h : x < 1
  · exact Or.inl h
  · by_cases h4 : x ≤ 4
    · obtain ⟨N, hN, e⟩ : ∃ N, N ≤ 4 ∧ x = nI N := nI_of2 (M := 4) (n := 4) (by decide) (fun w => h (Int32.lt_trans w (by decide))) h4
      refine Or.inr (Or.inr ⟨N, ?_, hN, e, h, h4⟩)
      by_cases h0 : N = 0
      · subst h0; subst e; exact absurd (by decide) h
      · omega
    · exact Or.inr (Or.inl ⟨h, h4⟩)
theorem i_vc_feed {k : Nat} {u : SX} {v : SY} (I : i_Rel k u v) (hk : k + 6 ≤ 3072) (v1 : Int32) (v2 : Int32) : wpX_feed (fun r u' => wpY_feed (fun r' v' => r' = r ∧ i_Rel (k + 6) u' v') v v1 v2) u v1 v2 := by
  have J := i_up I
  obtain ⟨⟨⟨K, R, z⟩, ⟨fAt, n, so, fl, st, h, p, m, M, l⟩, ⟨wi, wo, ql, hc, Q, tx⟩, ⟨f_down, f_typeSeen, yf_payload, yf_wants, yf_name, yf_first, yf_counts, yf_enters, yf_nodes, yf_values, yf_skipped, yf_pos, yf_there, yf_number, yf_at⟩, ⟨a_payload, a_life, a_theyEnded, a_weEnded, a_finishing, a_codes, a_headers, a_entries, a_kinds, a_repeats, a_messageCount⟩, ⟨a_nodeCount, a_nodeTypes, a_valueCount, a_valueOwners, a_values, a_skippedCount, a_reader, a_chainNode, a_chainEnd, a_nodeSize, a_nodePlace⟩, ⟨ya_type, ya_otherEnded, ya_prefix, ya_length, ya_got, ya_high, ya_has, ya_frame, ya_payloads⟩, ⟨ya_table, ya_nodeType, ya_valueNode, ya_valueNumber, ya_value, ya_from, ya_limit, ya_inside, ya_sizes⟩⟩, rfl, rfl, hD, hl, hH, hO, hQ, hX, hS, hq, hT, hK, hF, hM⟩ := I
  dsimp only [cr_x, cr_y] at J ⊢
  rcases fd_n v2 with h1 | ⟨h1, h2⟩ | ⟨N, hN1, hN4, e, h1, h2⟩
  · unfold wpX_feed
    refine br_t h1 ?_
    unfold wpY_feed
    exact yn_lo h1 (br_f (by decide) ⟨rfl, J⟩)
  · unfold wpX_feed
    refine br_f h1 (br_f h2 ?_)
    unfold wpY_feed
    exact yn_hi h1 h2 (br_f (by decide) ⟨rfl, J⟩)
  · subst e
    unfold wpX_feed
    refine br_f h1 (br_t h2 ⟨N + 1, ?_⟩)
    by_cases hd : f_down = 0
    · have hC : fd_C k ((K, R, z), (fAt, n, so, fl, st, h, p, m, M, l), (wi, wo, ql, hc, Q, tx), (f_down, f_typeSeen, yf_payload, yf_wants, yf_name, yf_first, yf_counts, yf_enters, yf_nodes, yf_values, yf_skipped, yf_pos, yf_there, yf_number, yf_at), (a_payload, a_life, a_theyEnded, a_weEnded, a_finishing, a_codes, a_headers, a_entries, a_kinds, a_repeats, a_messageCount), (a_nodeCount, a_nodeTypes, a_valueCount, a_valueOwners, a_values, a_skippedCount, a_reader, a_chainNode, a_chainEnd, a_nodeSize, a_nodePlace), (ya_type, ya_otherEnded, ya_prefix, ya_length, ya_got, ya_high, ya_has, ya_frame, ya_payloads), (ya_table, ya_nodeType, ya_valueNode, ya_valueNumber, ya_value, ya_from, ya_limit, ya_inside, ya_sizes)) := ⟨hD, hl, hH, hO, hQ, hX, hS, hT, hK, hM⟩
      have hF' : fd_F ((K, R, z), (fAt, n, so, fl, st, h, p, m, M, l), (wi, wo, ql, hc, Q, tx), (f_down, f_typeSeen, yf_payload, yf_wants, yf_name, yf_first, yf_counts, yf_enters, yf_nodes, yf_values, yf_skipped, yf_pos, yf_there, yf_number, yf_at), (a_payload, a_life, a_theyEnded, a_weEnded, a_finishing, a_codes, a_headers, a_entries, a_kinds, a_repeats, a_messageCount), (a_nodeCount, a_nodeTypes, a_valueCount, a_valueOwners, a_values, a_skippedCount, a_reader, a_chainNode, a_chainEnd, a_nodeSize, a_nodePlace), (ya_type, ya_otherEnded, ya_prefix, ya_length, ya_got, ya_high, ya_has, ya_frame, ya_payloads), (ya_table, ya_nodeType, ya_valueNode, ya_valueNumber, ya_value, ya_from, ya_limit, ya_inside, ya_sizes)) := hF
      refine fd_loop (post := fun r u' => wpY_feed (fun r' v' => r' = r ∧ i_Rel (k + 6) u' v') (f_down, nI h, nI p, yf_payload, yf_wants, yf_name, yf_first, yf_counts, yf_enters, nI M, nI m, nI z.2, nI (if l = 0 then 7 else l), yf_nodes, yf_values, yf_skipped, yf_pos, yf_there, yf_number, yf_at, a_kinds, a_repeats, a_life, a_codes, an_f wi, an_f wo, ya_type, an_f hc, a_headers, an_f ql, ya_otherEnded, a_weEnded, a_finishing, an_g Q, ya_prefix, ya_length, ya_got, ya_high, a_messageCount, ya_has, an_g tx, ya_frame, ya_payloads, ya_table, an_g z.1, ya_nodeType, ya_valueNode, ya_valueNumber, ya_value, ya_from, ya_limit, ya_inside, ya_sizes) v1 (nI N)) (x1 := v1) hN4 N 0 k ((K, R, z), (fAt, n, so, fl, st, h, p, m, M, l), (wi, wo, ql, hc, Q, tx), (f_down, f_typeSeen, yf_payload, yf_wants, yf_name, yf_first, yf_counts, yf_enters, yf_nodes, yf_values, yf_skipped, yf_pos, yf_there, yf_number, yf_at), (a_payload, a_life, a_theyEnded, a_weEnded, a_finishing, a_codes, a_headers, a_entries, a_kinds, a_repeats, a_messageCount), (a_nodeCount, a_nodeTypes, a_valueCount, a_valueOwners, a_values, a_skippedCount, a_reader, a_chainNode, a_chainEnd, a_nodeSize, a_nodePlace), (ya_type, ya_otherEnded, ya_prefix, ya_length, ya_got, ya_high, ya_has, ya_frame, ya_payloads), (ya_table, ya_nodeType, ya_valueNode, ya_valueNumber, ya_value, ya_from, ya_limit, ya_inside, ya_sizes)) 0 (by omega) hC hF' (fun g' x3' C' F' Y' => ?_)
      have HY : ∀ (q : Int32 → SY → Prop), (∀ v', fd_Y g' v' → fd_YK (wY_feed_74 q x3') v') → wpY_feed q (f_down, nI h, nI p, yf_payload, yf_wants, yf_name, yf_first, yf_counts, yf_enters, nI M, nI m, nI z.2, nI (if l = 0 then 7 else l), yf_nodes, yf_values, yf_skipped, yf_pos, yf_there, yf_number, yf_at, a_kinds, a_repeats, a_life, a_codes, an_f wi, an_f wo, ya_type, an_f hc, a_headers, an_f ql, ya_otherEnded, a_weEnded, a_finishing, an_g Q, ya_prefix, ya_length, ya_got, ya_high, a_messageCount, ya_has, an_g tx, ya_frame, ya_payloads, ya_table, an_g z.1, ya_nodeType, ya_valueNode, ya_valueNumber, ya_value, ya_from, ya_limit, ya_inside, ya_sizes) v1 (nI N) := by
        intro q hq
        unfold wpY_feed
        refine yn_in h1 h2 (br_t rfl (br_t hd ⟨N + 1, ?_⟩))
        exact Y' (f_down, nI h, nI p, yf_payload, yf_wants, yf_name, yf_first, yf_counts, yf_enters, nI M, nI m, nI z.2, nI (if l = 0 then 7 else l), yf_nodes, yf_values, yf_skipped, yf_pos, yf_there, yf_number, yf_at, a_kinds, a_repeats, a_life, a_codes, an_f wi, an_f wo, ya_type, an_f hc, a_headers, an_f ql, ya_otherEnded, a_weEnded, a_finishing, an_g Q, ya_prefix, ya_length, ya_got, ya_high, a_messageCount, ya_has, an_g tx, ya_frame, ya_payloads, ya_table, an_g z.1, ya_nodeType, ya_valueNode, ya_valueNumber, ya_value, ya_from, ya_limit, ya_inside, ya_sizes) q ⟨(yf_nodes, yf_values, yf_skipped, yf_pos, yf_number, yf_at, ya_nodeType, ya_valueNode, ya_valueNumber, ya_value, ya_from, ya_limit, ya_inside), yf_there, rfl⟩ hq
      clear Y' hC hF' hF hM hK hT hS hQ hX hO hH hl hD hq hd
      obtain ⟨⟨K, R, z⟩, ⟨fAt, n, so, fl, st, h, p, m, M, l⟩, ⟨wi, wo, ql, hc, Q, tx⟩, ⟨f_down, f_typeSeen, yf_payload, yf_wants, yf_name, yf_first, yf_counts, yf_enters, yf_nodes, yf_values, yf_skipped, yf_pos, yf_there, yf_number, yf_at⟩, ⟨a_payload, a_life, a_theyEnded, a_weEnded, a_finishing, a_codes, a_headers, a_entries, a_kinds, a_repeats, a_messageCount⟩, ⟨a_nodeCount, a_nodeTypes, a_valueCount, a_valueOwners, a_values, a_skippedCount, a_reader, a_chainNode, a_chainEnd, a_nodeSize, a_nodePlace⟩, ⟨ya_type, ya_otherEnded, ya_prefix, ya_length, ya_got, ya_high, ya_has, ya_frame, ya_payloads⟩, ⟨ya_table, ya_nodeType, ya_valueNode, ya_valueNumber, ya_value, ya_from, ya_limit, ya_inside, ya_sizes⟩⟩ := g'
      obtain ⟨hD, hl, hH, hO, hQ, hX, hS, hT, hK, hM⟩ := C'
      have F'' : f_down = 0 → cr_F a_life ya_frame a_payload ya_payloads fAt n so fl st h p yf_counts yf_wants yf_first := F'
      have HM : ∀ life' : Nat → Int32, (∀ s, life' s = a_life s ∨ (a_life s ≠ 0 ∧ life' s = 2)) → cr_M (k + 6) K R tx life' a_messageCount a_nodeCount a_nodeTypes a_valueCount a_valueOwners a_values a_skippedCount a_reader a_chainNode a_chainEnd ya_type ya_length ya_got ya_high ya_has ya_prefix := fun life' hl' s' h1' h8' => cr_m_k (by omega) (cr_m_life (hl' s') (hM s' h1' h8'))
      dsimp only [fd_XK, cr_x]
      unfold wX_feed_137
      refine br_c (fun d => ?_) (fun d => ?_)
      · subst d
        obtain ⟨life', we', wo', ql', Q', z', l', r1, r2, r3, r4, r5, r6, r7, r8⟩ := pu_all (a_life := a_life) (a_weEnded := a_weEnded) (Q := Q) (z := z) (l := l) (yf_payload := yf_payload) (yf_wants := yf_wants) (yf_name := yf_name) (yf_first := yf_first) (yf_counts := yf_counts) (yf_enters := yf_enters) (ya_type := ya_type) (ya_otherEnded := ya_otherEnded) (ya_prefix := ya_prefix) (ya_length := ya_length) (ya_got := ya_got) (ya_high := ya_high) (ya_has := ya_has) (ya_frame := ya_frame) (ya_payloads := ya_payloads) (ya_table := ya_table) (yf_heads := nI h) (yf_paid := nI p) (yf_most := nI M) (yf_many := nI m) (ya_kind := a_kinds) (ya_repeated := a_repeats) (ya_coming := an_f wi) (ya_headers := an_f hc) (ya_header := a_headers) (ya_whole := a_messageCount) (ya_bytes := an_g tx) hS hO hQ hl
        refine r7 _ ?_
        refine HY _ (fun v' hv' => ?_)
        obtain ⟨a, t, rfl⟩ := hv'
        dsimp only [fd_YK]
        unfold wY_feed_74
        refine r8 a t ya_sizes _ ?_
        dsimp only
        exact br_t rfl (⟨rfl, ((K, R, z'), (fAt, n, so, fl, st, h, p, m, M, l'), (wi, wo', ql', hc, Q', tx), (0, f_typeSeen, yf_payload, yf_wants, yf_name, yf_first, yf_counts, yf_enters, a.1, a.2.1, a.2.2.1, a.2.2.2.1, t, a.2.2.2.2.1, a.2.2.2.2.2.1), (a_payload, life', a_theyEnded, we', a_finishing, a_codes, a_headers, a_entries, a_kinds, a_repeats, a_messageCount), (a_nodeCount, a_nodeTypes, a_valueCount, a_valueOwners, a_values, a_skippedCount, a_reader, a_chainNode, a_chainEnd, a_nodeSize, a_nodePlace), (ya_type, ya_otherEnded, ya_prefix, ya_length, ya_got, ya_high, ya_has, ya_frame, ya_payloads), (ya_table, a.2.2.2.2.2.2.1, a.2.2.2.2.2.2.2.1, a.2.2.2.2.2.2.2.2.1, a.2.2.2.2.2.2.2.2.2.1, a.2.2.2.2.2.2.2.2.2.2.1, a.2.2.2.2.2.2.2.2.2.2.2.1, a.2.2.2.2.2.2.2.2.2.2.2.2, ya_sizes)), rfl, rfl, hD, r4, hH, r2, r3, hX, r1, fun _ => r5, hT, hK, fun w => cr_F_life r6 (F'' w), HM life' r6⟩)
      · refine HY _ (fun v' hv' => ?_)
        obtain ⟨a, t, rfl⟩ := hv'
        dsimp only [fd_YK]
        unfold wY_feed_74
        refine yo_pd d ?_
        dsimp only
        exact br_f d (⟨rfl, ((K, R, z), (fAt, n, so, fl, st, h, p, m, M, l), (wi, wo, ql, hc, Q, tx), (f_down, f_typeSeen, yf_payload, yf_wants, yf_name, yf_first, yf_counts, yf_enters, a.1, a.2.1, a.2.2.1, a.2.2.2.1, t, a.2.2.2.2.1, a.2.2.2.2.2.1), (a_payload, a_life, a_theyEnded, a_weEnded, a_finishing, a_codes, a_headers, a_entries, a_kinds, a_repeats, a_messageCount), (a_nodeCount, a_nodeTypes, a_valueCount, a_valueOwners, a_values, a_skippedCount, a_reader, a_chainNode, a_chainEnd, a_nodeSize, a_nodePlace), (ya_type, ya_otherEnded, ya_prefix, ya_length, ya_got, ya_high, ya_has, ya_frame, ya_payloads), (ya_table, a.2.2.2.2.2.2.1, a.2.2.2.2.2.2.2.1, a.2.2.2.2.2.2.2.2.1, a.2.2.2.2.2.2.2.2.2.1, a.2.2.2.2.2.2.2.2.2.2.1, a.2.2.2.2.2.2.2.2.2.2.2.1, a.2.2.2.2.2.2.2.2.2.2.2.2, ya_sizes)), rfl, rfl, hD, hl, hH, hO, hQ, hX, hS, fun w => absurd w d, hT, hK, fun w => absurd w d, HM a_life (fun i => Or.inl rfl)⟩)
    · rw [wX_feed_17]
      refine pk_le N 0 (fun w => by omega) (fun _ => br_f hd ?_)
      unfold wX_feed_137
      refine br_f hd ?_
      unfold wpY_feed
      exact yn_in h1 h2 (br_t rfl (br_f hd ⟨rfl, J⟩))
end
