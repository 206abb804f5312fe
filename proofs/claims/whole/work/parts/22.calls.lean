/-! U: calls that change little -/
section
variable {f_frameAt f_frameLength f_frameSort f_frameFlags f_frameStream f_down f_entryCount f_most f_typeSeen f_lastSender f_sentLength : Int32} {a_payload a_life a_theyEnded a_weEnded a_finishing a_codes a_windowIn a_windowOut a_headers a_headerCount a_entries a_kinds a_repeats a_messageCount a_text a_nodeCount a_nodeTypes a_valueCount a_valueOwners a_values a_skippedCount a_reader a_chainNode a_chainEnd a_queue a_queueLength a_sent a_nodeSize a_nodePlace : Nat → Int32} {yf_down yf_heads yf_paid yf_payload yf_wants yf_name yf_first yf_counts yf_enters yf_most yf_many yf_sent yf_last yf_nodes yf_values yf_skipped yf_pos yf_there yf_number yf_at : Int32} {ya_kind ya_repeated ya_how ya_code ya_coming ya_going ya_type ya_headers ya_header ya_queued ya_otherEnded ya_ended ya_finishing ya_queue ya_prefix ya_length ya_got ya_high ya_whole ya_has ya_bytes ya_frame ya_payloads ya_table ya_out ya_nodeType ya_valueNode ya_valueNumber ya_value ya_from ya_limit ya_inside ya_sizes : Nat → Int32}
theorem cr_m_life {k : Nat} {K : Nat → Nat} {R : Nat → Bool} {s : Nat} {tx : Nat → Nat} {life life' mc nc nt vc vo va sk rd cn ce ty le go hi ha pr : Nat → Int32}
    (h' : life' s = life s ∨ (life s ≠ 0 ∧ life' s = 2)) (h : cr_m k K R s tx life mc nc nt vc vo va sk rd cn ce ty le go hi ha pr) : cr_m k K R s tx life' mc nc nt vc vo va sk rd cn ce ty le go hi ha pr := by
  obtain ⟨p, m, y, h1, h2, h3, h4, h5, h6, h7, h8, h9, h10, h11, h12⟩ := h
  rcases h' with e | ⟨e1, e2⟩
  · exact ⟨p, m, y, h1, h2, h3, h4, h5, h6, h7, by rw [e]; exact h8, h9, by rw [e]; exact h10, h11, by rw [e]; exact h12⟩
  · refine ⟨p, m, y, h1, h2, h3, h4, h5, h6, h7, fun w => ?_, h9, fun w => ?_, h11, fun _ w => ?_⟩
    · rw [e2] at w; exact absurd w (by decide)
    · rcases w with w | w
      · rw [e2] at w; exact absurd w (by decide)
      · exact h10 (Or.inr w)
    · rw [e2] at w; exact absurd w (by decide)
theorem cr_F_life {life life' fr pl pls : Nat → Int32} {fAt n so fl st h p : Nat} {counts wants first : Int32} (h' : ∀ s, life' s = life s ∨ (life s ≠ 0 ∧ life' s = 2))
    (H : cr_F life fr pl pls fAt n so fl st h p counts wants first) : cr_F life' fr pl pls fAt n so fl st h p counts wants first := by
  obtain ⟨f1, f2, f3, f4, f5, f6, f7, f8, f9⟩ := H
  refine ⟨f1, f2, f3, f4, f5, f6, f7, f8, ?_⟩
  rcases f9 with f9 | ⟨g1, g2, g3, g4, g5, g6, g7, g8, g9, g10, g11, g12, g13⟩
  · exact Or.inl f9
  · have hne : life st ≠ 0 → life' st ≠ 0 := by
      intro w
      rcases h' st with e | ⟨_, e⟩
      · rw [e]; exact w
      · rw [e]; decide
    refine Or.inr ⟨g1, g2, g3, g4, g5, fun w => ?_, g7, g8, g9, g10, g11, fun w w' => hne (g12 w w'), g13⟩
    obtain ⟨a1, a2, a3⟩ := g6 w
    refine ⟨a1, hne a2, ?_⟩
    rcases a3 with a3 | ⟨a3, a4⟩
    · exact Or.inl a3
    · refine Or.inr ⟨a3, ?_⟩
      rcases h' st with e | ⟨_, e⟩
      · rw [e]; exact a4
      · exact e
/-- a stream is shut -/
theorem cr_S_shut {life th ot we fi co : Nat → Int32} {wi wo ql : Nat → Nat} {s : Nat} {x : Int32} (hs0 : 0 < s) (hS : cr_S life th ot we fi co wi wo ql) :
    cr_S (upd life s 2) th ot we fi (upd co s x) wi wo (pm_u ql s 0) := by
  refine ⟨by rw [pm_upd_eq, if_neg (by omega)]; exact hS.1, fun i hi => ?_⟩
  obtain ⟨s1, s2, s3, s4, s5, s6, s7, s8, s9, s10⟩ := hS.2 i hi
  by_cases y : i = s
  · subst y
    rw [pm_upd_eq, if_pos rfl, pm_us, pm_upd_eq, if_pos rfl]
    exact ⟨Or.inr (Or.inr rfl), s2, s3, s4, s5, s6, by omega, fun w => absurd rfl w, fun w => absurd rfl w, fun w => ⟨(s10 w).1, rfl⟩⟩
  · rw [pm_upd_eq, if_neg y, pm_un y, pm_upd_eq, if_neg y]
    exact ⟨s1, s2, s3, s4, s5, s6, s7, s8, s9, s10⟩
theorem cr_Q_shut {life we fi : Nat → Int32} {wo ql : Nat → Nat} {s : Nat} (h : cr_Q life we fi wo ql) : cr_Q (upd life s 2) we fi wo (pm_u ql s 0) := by
  intro i h1 h8 hm
  by_cases y : i = s
  · subst y
    have := hm.1
    rw [pm_upd_eq, if_pos rfl] at this
    exact absurd this (by decide)
  · refine h i h1 h8 ?_
    obtain ⟨a, b, c⟩ := hm
    rw [pm_upd_eq, if_neg y] at a
    rw [pm_un y] at c
    exact ⟨a, b, c⟩
theorem cr_l2 {life : Nat → Int32} {s : Nat} (h : life s ≠ 0) : ∀ i, upd life s 2 i = life i ∨ (life i ≠ 0 ∧ upd life s 2 i = 2) := by
  intro i
  by_cases y : i = s
  · subst y; right; exact ⟨h, by rw [pm_upd_eq, if_pos rfl]⟩
  · left; rw [pm_upd_eq, if_neg y]
theorem xs_open_t {post : Int32 → Prop} {s : Nat} (h1 : 1 ≤ s) (h8 : s < 8) (ho : a_life s = 1) (h : post 1) : wpX_isOpen post (f_frameAt, f_frameLength, f_frameSort, f_frameFlags, f_frameStream, f_down, f_entryCount, f_most, f_typeSeen, f_lastSender, f_sentLength, a_payload, a_life, a_theyEnded, a_weEnded, a_finishing, a_codes, a_windowIn, a_windowOut, a_headers, a_headerCount, a_entries, a_kinds, a_repeats, a_messageCount, a_text, a_nodeCount, a_nodeTypes, a_valueCount, a_valueOwners, a_values, a_skippedCount, a_reader, a_chainNode, a_chainEnd, a_queue, a_queueLength, a_sent, a_nodeSize, a_nodePlace) (nI s) := by
  obtain ⟨g1, g2, g3, g4, g5⟩ := lk_s s h8
  unfold wpX_isOpen
  rw [g5]
  exact br_f (g4 h1).1 (br_f g3 ⟨lk_in h8, br_t ho h⟩)
theorem xs_open_f {post : Int32 → Prop} {s : Nat} (h1 : 1 ≤ s) (h8 : s < 8) (ho : ¬ a_life s = 1) (h : post 0) : wpX_isOpen post (f_frameAt, f_frameLength, f_frameSort, f_frameFlags, f_frameStream, f_down, f_entryCount, f_most, f_typeSeen, f_lastSender, f_sentLength, a_payload, a_life, a_theyEnded, a_weEnded, a_finishing, a_codes, a_windowIn, a_windowOut, a_headers, a_headerCount, a_entries, a_kinds, a_repeats, a_messageCount, a_text, a_nodeCount, a_nodeTypes, a_valueCount, a_valueOwners, a_values, a_skippedCount, a_reader, a_chainNode, a_chainEnd, a_queue, a_queueLength, a_sent, a_nodeSize, a_nodePlace) (nI s) := by
  obtain ⟨g1, g2, g3, g4, g5⟩ := lk_s s h8
  unfold wpX_isOpen
  rw [g5]
  exact br_f (g4 h1).1 (br_f g3 ⟨lk_in h8, br_f ho h⟩)
theorem xs_open_n {post : Int32 → Prop} {x : Int32} (hx : x < 1 ∨ (¬ x < 1 ∧ 7 < x)) (h : post 0) : wpX_isOpen post (f_frameAt, f_frameLength, f_frameSort, f_frameFlags, f_frameStream, f_down, f_entryCount, f_most, f_typeSeen, f_lastSender, f_sentLength, a_payload, a_life, a_theyEnded, a_weEnded, a_finishing, a_codes, a_windowIn, a_windowOut, a_headers, a_headerCount, a_entries, a_kinds, a_repeats, a_messageCount, a_text, a_nodeCount, a_nodeTypes, a_valueCount, a_valueOwners, a_values, a_skippedCount, a_reader, a_chainNode, a_chainEnd, a_queue, a_queueLength, a_sent, a_nodeSize, a_nodePlace) x := by
  unfold wpX_isOpen
  rcases hx with g | ⟨g1, g2⟩
  · exact br_t g h
  · exact br_f g1 (br_t g2 h)
theorem ys_open_t {post : Int32 → Prop} {s : Nat} (h1 : 1 ≤ s) (h8 : s < 8) (ho : ya_how s = 1) (hd : yf_down = 0) (h : post 1) : wpY_isOpen post (yf_down, yf_heads, yf_paid, yf_payload, yf_wants, yf_name, yf_first, yf_counts, yf_enters, yf_most, yf_many, yf_sent, yf_last, yf_nodes, yf_values, yf_skipped, yf_pos, yf_there, yf_number, yf_at, ya_kind, ya_repeated, ya_how, ya_code, ya_coming, ya_going, ya_type, ya_headers, ya_header, ya_queued, ya_otherEnded, ya_ended, ya_finishing, ya_queue, ya_prefix, ya_length, ya_got, ya_high, ya_whole, ya_has, ya_bytes, ya_frame, ya_payloads, ya_table, ya_out, ya_nodeType, ya_valueNode, ya_valueNumber, ya_value, ya_from, ya_limit, ya_inside, ya_sizes) (nI s) := by
  obtain ⟨g1, g2, g3, g4, g5⟩ := lk_s s h8
  unfold wpY_isOpen
  rw [g5]
  exact yn_in (g4 h1).1 g2 (br_t rfl ⟨lk_in h8, br_t ho (br_t hd h)⟩)
theorem ys_open_f {post : Int32 → Prop} {s : Nat} (h1 : 1 ≤ s) (h8 : s < 8) (ho : ¬ ya_how s = 1 ∨ ¬ yf_down = 0) (h : post 0) : wpY_isOpen post (yf_down, yf_heads, yf_paid, yf_payload, yf_wants, yf_name, yf_first, yf_counts, yf_enters, yf_most, yf_many, yf_sent, yf_last, yf_nodes, yf_values, yf_skipped, yf_pos, yf_there, yf_number, yf_at, ya_kind, ya_repeated, ya_how, ya_code, ya_coming, ya_going, ya_type, ya_headers, ya_header, ya_queued, ya_otherEnded, ya_ended, ya_finishing, ya_queue, ya_prefix, ya_length, ya_got, ya_high, ya_whole, ya_has, ya_bytes, ya_frame, ya_payloads, ya_table, ya_out, ya_nodeType, ya_valueNode, ya_valueNumber, ya_value, ya_from, ya_limit, ya_inside, ya_sizes) (nI s) := by
  obtain ⟨g1, g2, g3, g4, g5⟩ := lk_s s h8
  unfold wpY_isOpen
  rw [g5]
  refine yn_in (g4 h1).1 g2 (br_t rfl ⟨lk_in h8, ?_⟩)
  by_cases y : ya_how s = 1
  · rcases ho with w | w
    · exact absurd y w
    · exact br_t y (br_f w h)
  · exact br_f y h
theorem ys_open_n {post : Int32 → Prop} {x : Int32} (hx : x < 1 ∨ (¬ x < 1 ∧ ¬ x ≤ 7)) (h : post 0) : wpY_isOpen post (yf_down, yf_heads, yf_paid, yf_payload, yf_wants, yf_name, yf_first, yf_counts, yf_enters, yf_most, yf_many, yf_sent, yf_last, yf_nodes, yf_values, yf_skipped, yf_pos, yf_there, yf_number, yf_at, ya_kind, ya_repeated, ya_how, ya_code, ya_coming, ya_going, ya_type, ya_headers, ya_header, ya_queued, ya_otherEnded, ya_ended, ya_finishing, ya_queue, ya_prefix, ya_length, ya_got, ya_high, ya_whole, ya_has, ya_bytes, ya_frame, ya_payloads, ya_table, ya_out, ya_nodeType, ya_valueNode, ya_valueNumber, ya_value, ya_from, ya_limit, ya_inside, ya_sizes) x := by
  unfold wpY_isOpen
  rcases hx with g | ⟨g1, g2⟩
  · exact yn_lo g (br_f (by decide) h)
  · exact yn_hi g1 g2 (br_f (by decide) h)
theorem yo_quiet {l : Nat} {wo ql wi : Nat → Nat} {post : SY → Prop} (hS : cr_S ya_how a_theyEnded ya_otherEnded ya_ended ya_finishing ya_code wi wo ql) (hl : l ≤ 7) (hq : cr_Q ya_how ya_ended ya_finishing wo ql)
    (H : post (0, yf_heads, yf_paid, yf_payload, yf_wants, yf_name, yf_first, yf_counts, yf_enters, yf_most, yf_many, yf_sent, nI (if l = 0 then 7 else l), yf_nodes, yf_values, yf_skipped, yf_pos, yf_there, yf_number, yf_at, ya_kind, ya_repeated, ya_how, ya_code, ya_coming, an_f wo, ya_type, ya_headers, ya_header, an_f ql, ya_otherEnded, ya_ended, ya_finishing, ya_queue, ya_prefix, ya_length, ya_got, ya_high, ya_whole, ya_has, ya_bytes, ya_frame, ya_payloads, ya_table, ya_out, ya_nodeType, ya_valueNode, ya_valueNumber, ya_value, ya_from, ya_limit, ya_inside, ya_sizes)) :
    wpY_pump post (0, yf_heads, yf_paid, yf_payload, yf_wants, yf_name, yf_first, yf_counts, yf_enters, yf_most, yf_many, yf_sent, nI (if l = 0 then 7 else l), yf_nodes, yf_values, yf_skipped, yf_pos, yf_there, yf_number, yf_at, ya_kind, ya_repeated, ya_how, ya_code, ya_coming, an_f wo, ya_type, ya_headers, ya_header, an_f ql, ya_otherEnded, ya_ended, ya_finishing, ya_queue, ya_prefix, ya_length, ya_got, ya_high, ya_whole, ya_has, ya_bytes, ya_frame, ya_payloads, ya_table, ya_out, ya_nodeType, ya_valueNode, ya_valueNumber, ya_value, ya_from, ya_limit, ya_inside, ya_sizes) := by
  unfold wpY_pump
  refine ⟨1 + 7, yo_ppL (n := 1) (j := 7) hS hl (Nat.le_refl _) (fun i _ => hq _ (by omega) (by omega)) ?_ 7 0 rfl⟩
  rw [wY_pump_2]
  have e : pu_b l 7 = if l = 0 then 7 else l := by
    unfold pu_b
    rw [if_neg (by omega)]
    split <;> omega
  rw [e]
  exact br_t (by decide) H
theorem i_vc_cancel {k : Nat} {u : SX} {v : SY} (I : i_Rel k u v) (hk : k + 6 ≤ 3072) (v1 : Int32) (v2 : Int32) : wpX_cancel (fun r u' => wpY_cancel (fun r' v' => r' = r ∧ i_Rel (k + 6) u' v') v v1 v2) u v1 v2 := by
  have J := i_up I
  obtain ⟨⟨⟨K, R, z⟩, ⟨fAt, n, so, fl, st, h, p, m, M, l⟩, ⟨wi, wo, ql, hc, Q, tx⟩, ⟨f_down, f_typeSeen, yf_payload, yf_wants, yf_name, yf_first, yf_counts, yf_enters, yf_nodes, yf_values, yf_skipped, yf_pos, yf_there, yf_number, yf_at⟩, ⟨a_payload, a_life, a_theyEnded, a_weEnded, a_finishing, a_codes, a_headers, a_entries, a_kinds, a_repeats, a_messageCount⟩, ⟨a_nodeCount, a_nodeTypes, a_valueCount, a_valueOwners, a_values, a_skippedCount, a_reader, a_chainNode, a_chainEnd, a_nodeSize, a_nodePlace⟩, ⟨ya_type, ya_otherEnded, ya_prefix, ya_length, ya_got, ya_high, ya_has, ya_frame, ya_payloads⟩, ⟨ya_table, ya_nodeType, ya_valueNode, ya_valueNumber, ya_value, ya_from, ya_limit, ya_inside, ya_sizes⟩⟩, rfl, rfl, hD, hl, hH, hO, hQ, hX, hS, hq, hT, hK, hF, hM⟩ := I
  dsimp only [cr_x, cr_y] at J ⊢
  have HN : (∀ s, s < 8 → v1 = nI s → 1 ≤ s → (¬ a_life s = 1 ∨ ¬ f_down = 0)) → wpY_cancel (fun r' v' => r' = 0 ∧ i_Rel (k + 6) (nI fAt, nI n, nI so, nI fl, nI st, f_down, nI m, nI M, f_typeSeen, nI l, nI z.2, a_payload, a_life, a_theyEnded, a_weEnded, a_finishing, a_codes, an_f wi, an_f wo, a_headers, an_f hc, a_entries, a_kinds, a_repeats, a_messageCount, an_f tx, a_nodeCount, a_nodeTypes, a_valueCount, a_valueOwners, a_values, a_skippedCount, a_reader, a_chainNode, a_chainEnd, an_f Q, an_f ql, an_f z.1, a_nodeSize, a_nodePlace) v') (f_down, nI h, nI p, yf_payload, yf_wants, yf_name, yf_first, yf_counts, yf_enters, nI M, nI m, nI z.2, nI (if l = 0 then 7 else l), yf_nodes, yf_values, yf_skipped, yf_pos, yf_there, yf_number, yf_at, a_kinds, a_repeats, a_life, a_codes, an_f wi, an_f wo, ya_type, an_f hc, a_headers, an_f ql, ya_otherEnded, a_weEnded, a_finishing, an_g Q, ya_prefix, ya_length, ya_got, ya_high, a_messageCount, ya_has, an_g tx, ya_frame, ya_payloads, ya_table, an_g z.1, ya_nodeType, ya_valueNode, ya_valueNumber, ya_value, ya_from, ya_limit, ya_inside, ya_sizes) v1 v2 := by
    intro hno
    unfold wpY_cancel
    rcases lk_c v1 with ⟨h1, h2, h3, h4⟩ | ⟨h1, h2, h3, h4, h5⟩ | ⟨s, hs, rfl⟩
    · exact ys_open_n (Or.inl h2) (br_t rfl ⟨rfl, J⟩)
    · exact ys_open_n (Or.inr ⟨h2, h3⟩) (br_t rfl ⟨rfl, J⟩)
    · by_cases h0 : s = 0
      · subst h0
        exact ys_open_n (Or.inl (by decide)) (br_t rfl ⟨rfl, J⟩)
      · exact ys_open_f (by omega) hs (hno s hs rfl (by omega)) (br_t rfl ⟨rfl, J⟩)
  unfold wpX_cancel
  refine br_c (fun hd => ?_) (fun hd => HN (fun s _ _ _ => Or.inr hd))
  rcases lk_c v1 with ⟨h1, h2, h3, h4⟩ | ⟨h1, h2, h3, h4, h5⟩ | ⟨s, hs, rfl⟩
  · exact xs_open_n (Or.inl h2) (br_t rfl (HN (fun s hs e _ => by
      rw [e] at h1; exact absurd h1 (lk_s s hs).1)))
  · exact xs_open_n (Or.inr ⟨h2, h4⟩) (br_t rfl (HN (fun s hs e _ => by
      rw [e] at h4; exact absurd h4 (lk_s s hs).2.2.1)))
  · by_cases h0 : s = 0
    · subst h0
      exact xs_open_n (Or.inl (by decide)) (br_t rfl (HN (fun s' hs' e h1' => by
        have := (nI_eq (a := 0) (b := s') (by omega) (by omega)).mp e
        omega)))
    · by_cases ho : a_life s = 1
      · have HN2 : ¬ (¬ v2 < 20 ∧ v2 ≤ 99) → wpY_cancel (fun r' v' => r' = 0 ∧ i_Rel (k + 6) (nI fAt, nI n, nI so, nI fl, nI st, f_down, nI m, nI M, f_typeSeen, nI l, nI z.2, a_payload, a_life, a_theyEnded, a_weEnded, a_finishing, a_codes, an_f wi, an_f wo, a_headers, an_f hc, a_entries, a_kinds, a_repeats, a_messageCount, an_f tx, a_nodeCount, a_nodeTypes, a_valueCount, a_valueOwners, a_values, a_skippedCount, a_reader, a_chainNode, a_chainEnd, an_f Q, an_f ql, an_f z.1, a_nodeSize, a_nodePlace) v') (f_down, nI h, nI p, yf_payload, yf_wants, yf_name, yf_first, yf_counts, yf_enters, nI M, nI m, nI z.2, nI (if l = 0 then 7 else l), yf_nodes, yf_values, yf_skipped, yf_pos, yf_there, yf_number, yf_at, a_kinds, a_repeats, a_life, a_codes, an_f wi, an_f wo, ya_type, an_f hc, a_headers, an_f ql, ya_otherEnded, a_weEnded, a_finishing, an_g Q, ya_prefix, ya_length, ya_got, ya_high, a_messageCount, ya_has, an_g tx, ya_frame, ya_payloads, ya_table, an_g z.1, ya_nodeType, ya_valueNode, ya_valueNumber, ya_value, ya_from, ya_limit, ya_inside, ya_sizes) (nI s) v2 := by
          intro hno
          unfold wpY_cancel
          refine ys_open_t (by omega) hs ho hd (br_f (by decide) ?_)
          by_cases y : v2 < 20
          · exact yn_lo y (br_f (by decide) ⟨rfl, J⟩)
          · exact yn_hi y (fun w => hno ⟨y, w⟩) (br_f (by decide) ⟨rfl, J⟩)
        refine xs_open_t (by omega) hs ho (br_f (by decide) (br_c (fun y => HN2 (fun w => w.1 y)) (fun y => br_c (fun y2 => ?_) (fun y2 => HN2 (fun w => y2 w.2)))))
        obtain ⟨c, hc99, rfl⟩ : ∃ c, c ≤ 99 ∧ v2 = nI c := nI_of2 (M := 99) (n := 99) (by decide) (fun w => y (Int32.lt_trans w (by decide))) y2
        refine xo_failS hs hO.1 ?_
        unfold wpY_cancel
        refine ys_open_t (by omega) hs ho hd (br_f (by decide) (yn_in y y2 (br_t rfl ?_)))
        refine yo_errS (by omega) hs hO.1 ?_
        have hS' := cr_S_shut (x := nI c) (show 0 < s by omega) hS
        have hq' := cr_Q_shut (s := s) (hq hd)
        have hl2 := cr_l2 (life := a_life) (s := s) (by rw [ho]; decide)
        subst hd
        have e0 : upd (an_f ql) s 0 = an_f (pm_u ql s 0) := an_fu ql s 0
        rw [e0]
        refine yo_quiet hS' hl hq' ⟨rfl, ((K, R, ou_L z [1, 2, 0, s, c]), (fAt, n, so, fl, st, h, p, m, M, l), (wi, wo, pm_u ql s 0, hc, Q, tx), (0, f_typeSeen, yf_payload, yf_wants, yf_name, yf_first, yf_counts, yf_enters, yf_nodes, yf_values, yf_skipped, yf_pos, yf_there, yf_number, yf_at), (a_payload, upd a_life s 2, a_theyEnded, a_weEnded, a_finishing, upd a_codes s (nI c), a_headers, a_entries, a_kinds, a_repeats, a_messageCount), (a_nodeCount, a_nodeTypes, a_valueCount, a_valueOwners, a_values, a_skippedCount, a_reader, a_chainNode, a_chainEnd, a_nodeSize, a_nodePlace), (ya_type, ya_otherEnded, ya_prefix, ya_length, ya_got, ya_high, ya_has, ya_frame, ya_payloads), (ya_table, ya_nodeType, ya_valueNode, ya_valueNumber, ya_value, ya_from, ya_limit, ya_inside, ya_sizes)), rfl, rfl, hD, hl, hH, ?_, hQ, hX, hS', fun _ => hq', hT, hK, fun w => cr_F_life hl2 (hF w), ?_⟩
        · refine ou_L_I hO (fun b hb => ?_)
          simp only [List.mem_cons, List.not_mem_nil, or_false] at hb
          rcases hb with hb | hb | hb | hb | hb <;> omega
        · exact fun s' h1' h8' => cr_m_k (by omega) (cr_m_life (hl2 s') (hM s' h1' h8'))
      · exact xs_open_f (by omega) hs ho (br_t rfl (HN (fun s' hs' e h1' => by
          have := (nI_eq (a := s) (b := s') (by omega) (by omega)).mp e
          subst this
          exact Or.inl ho)))
/-- both sides send what may be sent -/
theorem pu_all {wo ql Q wi : Nat → Nat} {z : (Nat → Nat) × Nat} {l : Nat} (hS : cr_S a_life a_theyEnded ya_otherEnded a_weEnded a_finishing a_codes wi wo ql) (hO : ou_I z) (hQ : cr_B Q) (hl : l ≤ 7) :
    ∃ (life' we' : Nat → Int32) (wo' ql' Q' : Nat → Nat) (z' : (Nat → Nat) × Nat) (l' : Nat),
      cr_S life' a_theyEnded ya_otherEnded we' a_finishing a_codes wi wo' ql' ∧ ou_I z' ∧ cr_B Q' ∧ l' ≤ 7 ∧ cr_Q life' we' a_finishing wo' ql' ∧ (∀ s, life' s = a_life s ∨ (a_life s ≠ 0 ∧ life' s = 2)) ∧
      (∀ (post : SX → Prop), post (f_frameAt, f_frameLength, f_frameSort, f_frameFlags, f_frameStream, f_down, f_entryCount, f_most, f_typeSeen, nI l', nI z'.2, a_payload, life', a_theyEnded, we', a_finishing, a_codes, a_windowIn, an_f wo', a_headers, a_headerCount, a_entries, a_kinds, a_repeats, a_messageCount, a_text, a_nodeCount, a_nodeTypes, a_valueCount, a_valueOwners, a_values, a_skippedCount, a_reader, a_chainNode, a_chainEnd, an_f Q', an_f ql', an_f z'.1, a_nodeSize, a_nodePlace) →
        wpX_sendQueues post (f_frameAt, f_frameLength, f_frameSort, f_frameFlags, f_frameStream, f_down, f_entryCount, f_most, f_typeSeen, nI l, nI z.2, a_payload, a_life, a_theyEnded, a_weEnded, a_finishing, a_codes, a_windowIn, an_f wo, a_headers, a_headerCount, a_entries, a_kinds, a_repeats, a_messageCount, a_text, a_nodeCount, a_nodeTypes, a_valueCount, a_valueOwners, a_values, a_skippedCount, a_reader, a_chainNode, a_chainEnd, an_f Q, an_f ql, an_f z.1, a_nodeSize, a_nodePlace)) ∧
      (∀ (a : yr_Z) (t : Int32) (sz : Nat → Int32) (post : SY → Prop), post (0, yf_heads, yf_paid, yf_payload, yf_wants, yf_name, yf_first, yf_counts, yf_enters, yf_most, yf_many, nI z'.2, nI (if l' = 0 then 7 else l'), a.1, a.2.1, a.2.2.1, a.2.2.2.1, t, a.2.2.2.2.1, a.2.2.2.2.2.1, ya_kind, ya_repeated, life', a_codes, ya_coming, an_f wo', ya_type, ya_headers, ya_header, an_f ql', ya_otherEnded, we', a_finishing, an_g Q', ya_prefix, ya_length, ya_got, ya_high, ya_whole, ya_has, ya_bytes, ya_frame, ya_payloads, ya_table, an_g z'.1, a.2.2.2.2.2.2.1, a.2.2.2.2.2.2.2.1, a.2.2.2.2.2.2.2.2.1, a.2.2.2.2.2.2.2.2.2.1, a.2.2.2.2.2.2.2.2.2.2.1, a.2.2.2.2.2.2.2.2.2.2.2.1, a.2.2.2.2.2.2.2.2.2.2.2.2, sz) →
        wpY_pump post (0, yf_heads, yf_paid, yf_payload, yf_wants, yf_name, yf_first, yf_counts, yf_enters, yf_most, yf_many, nI z.2, nI (if l = 0 then 7 else l), a.1, a.2.1, a.2.2.1, a.2.2.2.1, t, a.2.2.2.2.1, a.2.2.2.2.2.1, ya_kind, ya_repeated, a_life, a_codes, ya_coming, an_f wo, ya_type, ya_headers, ya_header, an_f ql, ya_otherEnded, a_weEnded, a_finishing, an_g Q, ya_prefix, ya_length, ya_got, ya_high, ya_whole, ya_has, ya_bytes, ya_frame, ya_payloads, ya_table, an_g z.1, a.2.2.2.2.2.2.1, a.2.2.2.2.2.2.2.1, a.2.2.2.2.2.2.2.2.1, a.2.2.2.2.2.2.2.2.2.1, a.2.2.2.2.2.2.2.2.2.2.1, a.2.2.2.2.2.2.2.2.2.2.2.1, a.2.2.2.2.2.2.2.2.2.2.2.2, sz)) := by
  have hm := pu_m_le (life := a_life) (we := a_weEnded) (hS.2 0 (by omega)).2.2.2.2.2.1
  obtain ⟨life', we', wo', ql', Q', z', l', r1, r2, r3, r4, r5, r6, r7, r8⟩ := pu_main 262 a_life a_weEnded wo ql Q z l hS hO hQ hl hm
  refine ⟨life', we', wo', ql', Q', z', l', r1, r2, r3, r4, r5, fun s => ?_, fun post H => ?_, fun a t sz post H => ?_⟩
  · rcases r6 s with y | ⟨y, y'⟩
    · exact Or.inl y
    · exact Or.inr ⟨by rw [y]; decide, y'⟩
  · unfold wpX_sendQueues
    exact ⟨263, r7 post 0 263 (by omega) (by omega) H⟩
  · unfold wpY_pump
    exact ⟨8 * 262 + 8, r8 a t sz post _ (Nat.le_refl _) H⟩
theorem pu_both {wo ql Q wi : Nat → Nat} {z : (Nat → Nat) × Nat} {l : Nat} (hS : cr_S a_life a_theyEnded ya_otherEnded a_weEnded a_finishing a_codes wi wo ql) (hO : ou_I z) (hQ : cr_B Q) (hl : l ≤ 7) :
    ∃ (life' we' : Nat → Int32) (wo' ql' Q' : Nat → Nat) (z' : (Nat → Nat) × Nat) (l' : Nat),
      cr_S life' a_theyEnded ya_otherEnded we' a_finishing a_codes wi wo' ql' ∧ ou_I z' ∧ cr_B Q' ∧ l' ≤ 7 ∧ cr_Q life' we' a_finishing wo' ql' ∧ (∀ s, life' s = a_life s ∨ (a_life s ≠ 0 ∧ life' s = 2)) ∧
      (∀ (post : SX → Prop), post (f_frameAt, f_frameLength, f_frameSort, f_frameFlags, f_frameStream, f_down, f_entryCount, f_most, f_typeSeen, nI l', nI z'.2, a_payload, life', a_theyEnded, we', a_finishing, a_codes, a_windowIn, an_f wo', a_headers, a_headerCount, a_entries, a_kinds, a_repeats, a_messageCount, a_text, a_nodeCount, a_nodeTypes, a_valueCount, a_valueOwners, a_values, a_skippedCount, a_reader, a_chainNode, a_chainEnd, an_f Q', an_f ql', an_f z'.1, a_nodeSize, a_nodePlace) →
        wpX_sendQueues post (f_frameAt, f_frameLength, f_frameSort, f_frameFlags, f_frameStream, f_down, f_entryCount, f_most, f_typeSeen, nI l, nI z.2, a_payload, a_life, a_theyEnded, a_weEnded, a_finishing, a_codes, a_windowIn, an_f wo, a_headers, a_headerCount, a_entries, a_kinds, a_repeats, a_messageCount, a_text, a_nodeCount, a_nodeTypes, a_valueCount, a_valueOwners, a_values, a_skippedCount, a_reader, a_chainNode, a_chainEnd, an_f Q, an_f ql, an_f z.1, a_nodeSize, a_nodePlace)) ∧
      (∀ (post : SY → Prop), post (0, yf_heads, yf_paid, yf_payload, yf_wants, yf_name, yf_first, yf_counts, yf_enters, yf_most, yf_many, nI z'.2, nI (if l' = 0 then 7 else l'), yf_nodes, yf_values, yf_skipped, yf_pos, yf_there, yf_number, yf_at, ya_kind, ya_repeated, life', a_codes, ya_coming, an_f wo', ya_type, ya_headers, ya_header, an_f ql', ya_otherEnded, we', a_finishing, an_g Q', ya_prefix, ya_length, ya_got, ya_high, ya_whole, ya_has, ya_bytes, ya_frame, ya_payloads, ya_table, an_g z'.1, ya_nodeType, ya_valueNode, ya_valueNumber, ya_value, ya_from, ya_limit, ya_inside, ya_sizes) →
        wpY_pump post (0, yf_heads, yf_paid, yf_payload, yf_wants, yf_name, yf_first, yf_counts, yf_enters, yf_most, yf_many, nI z.2, nI (if l = 0 then 7 else l), yf_nodes, yf_values, yf_skipped, yf_pos, yf_there, yf_number, yf_at, ya_kind, ya_repeated, a_life, a_codes, ya_coming, an_f wo, ya_type, ya_headers, ya_header, an_f ql, ya_otherEnded, a_weEnded, a_finishing, an_g Q, ya_prefix, ya_length, ya_got, ya_high, ya_whole, ya_has, ya_bytes, ya_frame, ya_payloads, ya_table, an_g z.1, ya_nodeType, ya_valueNode, ya_valueNumber, ya_value, ya_from, ya_limit, ya_inside, ya_sizes)) := by
  obtain ⟨life', we', wo', ql', Q', z', l', r1, r2, r3, r4, r5, r6, r7, r8⟩ := pu_all (a_life := a_life) (a_weEnded := a_weEnded) (Q := Q) (z := z) (l := l) hS hO hQ hl
  exact ⟨life', we', wo', ql', Q', z', l', r1, r2, r3, r4, r5, r6, r7, fun post H => r8 (yf_nodes, yf_values, yf_skipped, yf_pos, yf_number, yf_at, ya_nodeType, ya_valueNode, ya_valueNumber, ya_value, ya_from, ya_limit, ya_inside) yf_there ya_sizes post H⟩
theorem i_vc_finish {k : Nat} {u : SX} {v : SY} (I : i_Rel k u v) (hk : k + 6 ≤ 3072) (v1 : Int32) : wpX_finish (fun r u' => wpY_finish (fun r' v' => r' = r ∧ i_Rel (k + 6) u' v') v v1) u v1 := by
  have J := i_up I
  obtain ⟨⟨⟨K, R, z⟩, ⟨fAt, n, so, fl, st, h, p, m, M, l⟩, ⟨wi, wo, ql, hc, Q, tx⟩, ⟨f_down, f_typeSeen, yf_payload, yf_wants, yf_name, yf_first, yf_counts, yf_enters, yf_nodes, yf_values, yf_skipped, yf_pos, yf_there, yf_number, yf_at⟩, ⟨a_payload, a_life, a_theyEnded, a_weEnded, a_finishing, a_codes, a_headers, a_entries, a_kinds, a_repeats, a_messageCount⟩, ⟨a_nodeCount, a_nodeTypes, a_valueCount, a_valueOwners, a_values, a_skippedCount, a_reader, a_chainNode, a_chainEnd, a_nodeSize, a_nodePlace⟩, ⟨ya_type, ya_otherEnded, ya_prefix, ya_length, ya_got, ya_high, ya_has, ya_frame, ya_payloads⟩, ⟨ya_table, ya_nodeType, ya_valueNode, ya_valueNumber, ya_value, ya_from, ya_limit, ya_inside, ya_sizes⟩⟩, rfl, rfl, hD, hl, hH, hO, hQ, hX, hS, hq, hT, hK, hF, hM⟩ := I
  dsimp only [cr_x, cr_y] at J ⊢
  have HN : (∀ s, s < 8 → v1 = nI s → 1 ≤ s → (¬ a_life s = 1 ∨ ¬ f_down = 0)) → wpY_finish (fun r' v' => r' = 0 ∧ i_Rel (k + 6) (nI fAt, nI n, nI so, nI fl, nI st, f_down, nI m, nI M, f_typeSeen, nI l, nI z.2, a_payload, a_life, a_theyEnded, a_weEnded, a_finishing, a_codes, an_f wi, an_f wo, a_headers, an_f hc, a_entries, a_kinds, a_repeats, a_messageCount, an_f tx, a_nodeCount, a_nodeTypes, a_valueCount, a_valueOwners, a_values, a_skippedCount, a_reader, a_chainNode, a_chainEnd, an_f Q, an_f ql, an_f z.1, a_nodeSize, a_nodePlace) v') (f_down, nI h, nI p, yf_payload, yf_wants, yf_name, yf_first, yf_counts, yf_enters, nI M, nI m, nI z.2, nI (if l = 0 then 7 else l), yf_nodes, yf_values, yf_skipped, yf_pos, yf_there, yf_number, yf_at, a_kinds, a_repeats, a_life, a_codes, an_f wi, an_f wo, ya_type, an_f hc, a_headers, an_f ql, ya_otherEnded, a_weEnded, a_finishing, an_g Q, ya_prefix, ya_length, ya_got, ya_high, a_messageCount, ya_has, an_g tx, ya_frame, ya_payloads, ya_table, an_g z.1, ya_nodeType, ya_valueNode, ya_valueNumber, ya_value, ya_from, ya_limit, ya_inside, ya_sizes) v1 := by
    intro hno
    unfold wpY_finish
    rcases lk_c v1 with ⟨h1, h2, h3, h4⟩ | ⟨h1, h2, h3, h4, h5⟩ | ⟨s, hs, rfl⟩
    · exact ys_open_n (Or.inl h2) (br_t rfl ⟨rfl, J⟩)
    · exact ys_open_n (Or.inr ⟨h2, h3⟩) (br_t rfl ⟨rfl, J⟩)
    · by_cases h0 : s = 0
      · subst h0
        exact ys_open_n (Or.inl (by decide)) (br_t rfl ⟨rfl, J⟩)
      · exact ys_open_f (by omega) hs (hno s hs rfl (by omega)) (br_t rfl ⟨rfl, J⟩)
  unfold wpX_finish
  refine br_c (fun hd => ?_) (fun hd => HN (fun s _ _ _ => Or.inr hd))
  rcases lk_c v1 with ⟨h1, h2, h3, h4⟩ | ⟨h1, h2, h3, h4, h5⟩ | ⟨s, hs, rfl⟩
  · exact xs_open_n (Or.inl h2) (br_t rfl (HN (fun s hs e _ => by
      rw [e] at h1; exact absurd h1 (lk_s s hs).1)))
  · exact xs_open_n (Or.inr ⟨h2, h4⟩) (br_t rfl (HN (fun s hs e _ => by
      rw [e] at h4; exact absurd h4 (lk_s s hs).2.2.1)))
  · by_cases h0 : s = 0
    · subst h0
      exact xs_open_n (Or.inl (by decide)) (br_t rfl (HN (fun s' hs' e h1' => by
        have := (nI_eq (a := 0) (b := s') (by omega) (by omega)).mp e
        omega)))
    · by_cases ho : a_life s = 1
      · refine xs_open_t (by omega) hs ho (br_f (by decide) ?_)
        obtain ⟨g1, g2⟩ := xr_c8 hs
        rw [g2]
        by_cases hfi : a_finishing s = 0
        · refine ⟨g1, br_t hfi ⟨g1, nm_r (e' := upd a_finishing s 1) rfl ?_⟩⟩
          have hS' : cr_S a_life a_theyEnded ya_otherEnded a_weEnded (upd a_finishing s 1) a_codes wi wo ql := by
            refine ⟨hS.1, fun i hi => ?_⟩
            obtain ⟨s1, s2, s3, s4, s5, s6, s7, s8, s9, s10⟩ := hS.2 i hi
            by_cases y : i = s
            · subst y
              rw [pm_upd_eq, if_pos rfl]
              exact ⟨s1, s2, s3, Or.inr rfl, s5, s6, s7, s8, s9, fun w => ⟨rfl, (s10 w).2⟩⟩
            · rw [pm_upd_eq, if_neg y]
              exact ⟨s1, s2, s3, s4, s5, s6, s7, s8, s9, s10⟩
          subst hd
          obtain ⟨life', we', wo', ql', Q', z', l', r1, r2, r3, r4, r5, r6, r7, r8⟩ := pu_both (a_life := a_life) (a_weEnded := a_weEnded) (Q := Q) (z := z) (l := l) hS' hO hQ hl
          refine r7 _ ?_
          unfold wpY_finish
          refine ys_open_t (by omega) hs ho rfl (br_f (by decide) ?_)
          rw [g2]
          refine ⟨g1, br_t hfi ⟨g1, nm_r (e' := upd a_finishing s 1) rfl ?_⟩⟩
          refine r8 _ ⟨rfl, ((K, R, z'), (fAt, n, so, fl, st, h, p, m, M, l'), (wi, wo', ql', hc, Q', tx), (0, f_typeSeen, yf_payload, yf_wants, yf_name, yf_first, yf_counts, yf_enters, yf_nodes, yf_values, yf_skipped, yf_pos, yf_there, yf_number, yf_at), (a_payload, life', a_theyEnded, we', upd a_finishing s 1, a_codes, a_headers, a_entries, a_kinds, a_repeats, a_messageCount), (a_nodeCount, a_nodeTypes, a_valueCount, a_valueOwners, a_values, a_skippedCount, a_reader, a_chainNode, a_chainEnd, a_nodeSize, a_nodePlace), (ya_type, ya_otherEnded, ya_prefix, ya_length, ya_got, ya_high, ya_has, ya_frame, ya_payloads), (ya_table, ya_nodeType, ya_valueNode, ya_valueNumber, ya_value, ya_from, ya_limit, ya_inside, ya_sizes)), rfl, rfl, hD, r4, hH, r2, r3, hX, r1, fun _ => r5, hT, hK, fun w => cr_F_life r6 (hF w), ?_⟩
          exact fun s' h1' h8' => cr_m_k (by omega) (cr_m_life (r6 s') (hM s' h1' h8'))
        · refine ⟨g1, br_f hfi ?_⟩
          unfold wpY_finish
          refine ys_open_t (by omega) hs ho hd (br_f (by decide) ?_)
          rw [g2]
          exact ⟨g1, br_f hfi ⟨rfl, J⟩⟩
      · exact xs_open_f (by omega) hs ho (br_t rfl (HN (fun s' hs' e h1' => by
          have := (nI_eq (a := s) (b := s') (by omega) (by omega)).mp e
          subst this
          exact Or.inl ho)))
end
